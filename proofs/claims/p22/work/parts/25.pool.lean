/-! POOL: worlds with rows of ints in any number behind them, arrays of arrays, calls over such worlds -/
/-- the rows of ints at the addresses in L: each its length and what it holds -/
def pl (Y : Nat → ClassId) (L : List Nat) (N : Nat → Nat) (F : Nat → fN) : va_W := va_pl L (fun a => .inl (Y 0, N a, .inl (F a)))
/-- two parts of a world -/
abbrev wp (X r : va_W) : va_W := X ++ r
theorem pl_in {Y : Nat → ClassId} {L : List Nat} {N : Nat → Nat} {F : Nat → fN} {a : Nat} (h : a ∈ L) : ((a, .inl (Y 0, N a, .inl (F a))) : Nat × va_E) ∈ pl Y L N F := List.mem_map.mpr ⟨a, h, rfl⟩
theorem va_P.perm {D : va_G} {cl : List vw_C} {ws ws' : va_W} {H : Heap} (h : va_P D cl ws H) (hp : ws.Perm ws') : va_P D cl ws' H := fun k q hk => by
  obtain ⟨i, hi⟩ := List.getElem?_of_mem (hp.mem_iff.mpr (List.mem_of_getElem? hk))
  exact h i q hi
theorem va_D.nd {A : Nat → Prop} {ws : va_W} (h : va_D A ws) : (ws.map Prod.fst).Nodup := by
  unfold List.Nodup
  rw [List.pairwise_iff_getElem]
  intro i j hi hj hij e
  have hi' : i < ws.length := by simpa using hi
  have hj' : j < ws.length := by simpa using hj
  rw [List.getElem_map, List.getElem_map] at e
  have := h.1 i j _ _ (List.getElem?_eq_getElem hi') (List.getElem?_eq_getElem hj') e
  omega
theorem va_D.of_nd {A : Nat → Prop} {ws : va_W} (h : (ws.map Prod.fst).Nodup) (hA : ∀ q ∈ ws, A q.1) : va_D A ws := by
  refine ⟨fun i j p q hi hj e => ?_, fun k q hk => hA q (List.mem_of_getElem? hk)⟩
  obtain ⟨hi1, hi2⟩ := List.getElem?_eq_some_iff.mp hi
  obtain ⟨hj1, hj2⟩ := List.getElem?_eq_some_iff.mp hj
  unfold List.Nodup at h
  rw [List.pairwise_iff_getElem] at h
  rcases Nat.lt_trichotomy i j with c | c | c
  · exact absurd (by rw [List.getElem_map, List.getElem_map, hi2, hj2]; exact e) (h i j (by simpa using hi1) (by simpa using hj1) c)
  · exact c
  · exact absurd (by rw [List.getElem_map, List.getElem_map, hi2, hj2]; exact e.symm) (h j i (by simpa using hj1) (by simpa using hi1) c)
theorem va_D.mem {A : Nat → Prop} {ws : va_W} (h : va_D A ws) {q : Nat × va_E} (hq : q ∈ ws) : A q.1 := by
  obtain ⟨i, hi⟩ := List.getElem?_of_mem hq
  exact h.2 i q hi
theorem va_D.perm {A : Nat → Prop} {ws ws' : va_W} (h : va_D A ws) (hp : ws.Perm ws') : va_D A ws' := va_D.of_nd ((hp.map _).nodup_iff.mp h.nd) (fun _ hq => h.mem (hp.mem_iff.mpr hq))
theorem va_P.left {D : va_G} {cl : List vw_C} {X r : va_W} {H : Heap} (h : va_P D cl (X ++ r) H) : va_P D cl X H := fun k q hk => h k q (by rw [List.getElem?_append_left (List.getElem?_eq_some_iff.mp hk).1]; exact hk)
theorem va_D.left {A : Nat → Prop} {X r : va_W} (h : va_D A (X ++ r)) : va_D A X := by
  refine ⟨fun i j p q hi hj e => h.1 i j p q ?_ ?_ e, fun k q hk => h.2 k q ?_⟩
  · rw [List.getElem?_append_left (List.getElem?_eq_some_iff.mp hi).1]; exact hi
  · rw [List.getElem?_append_left (List.getElem?_eq_some_iff.mp hj).1]; exact hj
  · rw [List.getElem?_append_left (List.getElem?_eq_some_iff.mp hk).1]; exact hk
theorem rg_map (cx : va_W) : (List.range cx.length).map (fun i => cx[i]?) = cx.map some := by
  apply List.ext_getElem?
  intro j
  rw [List.getElem?_map, List.getElem?_map]
  by_cases h : j < cx.length
  · rw [List.getElem?_range h, List.getElem?_eq_getElem h]; simp [h]
  · rw [List.getElem?_eq_none (by simpa using h), List.getElem?_eq_none (by simpa using h)]; rfl
/-- a concrete world in another order -/
theorem pmo {X X2 : va_W} (n : Nat) (hX : X.length = n) (is : List Nat) (hn : is.Perm (List.range n)) (h : is.map (fun i => X[i]?) = X2.map some) : X2.Perm X := by
  subst hX
  have e1 : X2 = is.filterMap (fun i => X[i]?) := by
    have : (is.map (fun i => X[i]?)).filterMap id = (X2.map some).filterMap id := by rw [h]
    rw [List.filterMap_map, List.filterMap_map] at this
    simpa using this.symm
  have e2 : X = (List.range X.length).filterMap (fun i => X[i]?) := by
    have : ((List.range X.length).map (fun i => X[i]?)).filterMap id = (X.map some).filterMap id := by rw [rg_map]
    rw [List.filterMap_map, List.filterMap_map] at this
    simpa using this.symm
  have h3 := hn.filterMap (fun i => X[i]?)
  rw [← e1, ← e2] at h3
  exact h3
/-- the frame: a part of the world changes, the rest stays -/
theorem fr {D : va_G} {cl : List vw_C} {A0 : Nat → Prop} {H H1 : Heap} {ws cx r w1 : va_W} (hP : va_P D cl ws H) (hD : va_D A0 ws) (hp : ws.Perm (cx ++ r)) (hk : ∀ q : Nat, q < H.size → ¬ va_A cx H.size q → H1[q]? = H[q]?) (hF : ∀ q, va_A cx H.size q → A0 q) (hP1 : va_P D cl w1 H1) (hD1 : va_D (va_A cx H.size) w1) : va_P D cl (w1 ++ r) H1 ∧ va_D A0 (w1 ++ r) :=
  va_joinQ (X := cx) (cx := cx) (wr := []) (pl := r) (hP.perm hp) (hD.perm hp) (List.range cx.length) [] (rg_map cx) rfl rfl (fun _ h => absurd h List.not_mem_nil) hk hF hP1 hD1
theorem va_freeG {A0 : Nat → Prop} {ws cx r : va_W} {H0 H : Heap} {locs : List Loc} (hD : va_D A0 ws) (hS : va_S A0 H0 H locs) (hA : ∀ q, H0.size ≤ q → A0 q) (hp : ws.Perm (cx ++ r)) : ∀ q, va_A cx H.size q → A0 q := by
  intro q h
  rcases h with ⟨k, e, h⟩ | h
  · exact ((hD.perm hp).left).2 k (q, e) h
  · exact hA q (Nat.le_trans hS.1 h)
/-! the orders that calls want: C stands ahead and isn't touched, X is concrete, r stands behind -/
theorem pQ {C X cx wr r : va_W} (p1 : (cx ++ wr).Perm X) : (C ++ (X ++ r)).Perm (cx ++ (wr ++ (r ++ C))) := by
  have := (List.perm_append_comm : (C ++ (X ++ r)).Perm ((X ++ r) ++ C)).trans ((p1.symm.append_right r).append_right C)
  simpa [List.append_assoc] using this
theorem pQ' {C X' w1 wr r : va_W} (p2 : (w1 ++ wr).Perm X') : (w1 ++ (wr ++ (r ++ C))).Perm (C ++ (X' ++ r)) := (pQ p2).symm
theorem pP {C X cx wr r : va_W} (p1 : (cx ++ wr).Perm X) : (C ++ (X ++ r)).Perm ((cx ++ r) ++ (wr ++ C)) := by
  have h1 : (cx ++ (wr ++ (r ++ C))).Perm ((cx ++ r) ++ (wr ++ C)) := by
    rw [List.append_assoc]
    refine List.Perm.append_left cx ?_
    rw [← List.append_assoc, ← List.append_assoc]
    exact List.perm_append_comm.append_right C
  exact (pQ p1).trans h1
theorem pP' {C X' w1 wr r : va_W} (p2 : (w1 ++ wr).Perm X') : ((w1 ++ r) ++ (wr ++ C)).Perm (C ++ (X' ++ r)) := (pP p2).symm
theorem pA {X cx wr r : va_W} (p1 : (cx ++ wr).Perm X) : (X ++ r).Perm (cx ++ (wr ++ r)) := by
  rw [← List.append_assoc]
  exact p1.symm.append_right r
theorem pA' {X' w1 wr r : va_W} (p2 : (w1 ++ wr).Perm X') : (w1 ++ (wr ++ r)).Perm (X' ++ r) := (pA p2).symm
theorem pB {X cx wr r : va_W} (p1 : (cx ++ wr).Perm X) : (X ++ r).Perm ((cx ++ r) ++ wr) := by
  refine (pA p1).trans ?_
  rw [List.append_assoc]
  exact List.Perm.append_left cx List.perm_append_comm
theorem pB' {X' w1 wr r : va_W} (p2 : (w1 ++ wr).Perm X') : ((w1 ++ r) ++ wr).Perm (X' ++ r) := (pB p2).symm
/-- a world with less of the concrete part -/
theorem drp {D : va_G} {A : Nat → Prop} {C X cx wr r : va_W} {H : Heap} (hP : va_P D vwCl (C ++ (X ++ r)) H) (hD : va_D A (C ++ (X ++ r))) (p1 : (cx ++ wr).Perm X) : va_P D vwCl (C ++ (cx ++ r)) H ∧ va_D A (C ++ (cx ++ r)) := by
  have h : (C ++ (X ++ r)).Perm ((C ++ (cx ++ r)) ++ wr) := by
    refine (pP p1).trans ((List.Perm.append_left (cx ++ r) (List.perm_append_comm : (wr ++ C).Perm (C ++ wr))).trans ?_)
    rw [← List.append_assoc]
    exact (List.perm_append_comm : ((cx ++ r) ++ C).Perm (C ++ (cx ++ r))).append_right wr
  exact ⟨(hP.perm h).left, (hD.perm h).left⟩
/-- a row of the concrete part, at its end, goes into the pool -/
theorem poolin {D : va_G} {A : Nat → Prop} {Y : Nat → ClassId} {C X : va_W} {L : List Nat} {N : Nat → Nat} {F : Nat → fN} {H : Heap} {q n : Nat} {f : fN} (hP : va_P D vwCl (C ++ ((X ++ [(q, .inl (Y 0, n, .inl f))]) ++ pl Y L N F)) H) (hD : va_D A (C ++ ((X ++ [(q, .inl (Y 0, n, .inl f))]) ++ pl Y L N F))) :
    q ∉ L ∧ va_P D vwCl (C ++ (X ++ pl Y (q :: L) (va_up N q n) (va_up F q f))) H ∧ va_D A (C ++ (X ++ pl Y (q :: L) (va_up N q n) (va_up F q f))) := by
  have hq : q ∉ L := by
    intro hq
    have h1 := hD.nd
    rw [List.append_assoc, List.map_append, List.map_append, List.map_append, List.nodup_append] at h1
    have h2 := (List.nodup_append.mp h1.2.1).2.1
    rw [List.nodup_append] at h2
    exact h2.2.2 q (by simp) q (by simp [pl, va_pl]; exact hq) rfl
  have e : C ++ ((X ++ [(q, .inl (Y 0, n, .inl f))]) ++ pl Y L N F) = C ++ (X ++ pl Y (q :: L) (va_up N q n) (va_up F q f)) := by
    rw [List.append_assoc]
    congr 2
    show ((q, .inl (Y 0, n, .inl f)) : Nat × va_E) :: va_pl L _ = ((q, .inl (Y 0, va_up N q n q, .inl (va_up F q f q))) : Nat × va_E) :: va_pl L _
    rw [va_up_self, va_up_self]
    congr 1
    apply List.map_congr_left
    intro b hb
    have : b ≠ q := fun h => hq (h ▸ hb)
    show ((b, .inl (Y 0, N b, .inl (F b))) : Nat × va_E) = (b, .inl (Y 0, va_up N q n b, .inl (va_up F q f b)))
    rw [va_up_ne _ _ this, va_up_ne _ _ this]
  rw [e] at hP hD
  exact ⟨hq, hP, hD⟩
/-! the class of the arrays of arrays -/
theorem ao2 {D : va_G} {Y : Nat → ClassId} {U : State} (h : KN D Y U) : ∃ kA k0, U.vm.classes[Y 2]? = some kA ∧ kA.kind = .array (Y 0) (.array .int) ∧ U.vm.classes[Y 0]? = some k0 := by
  obtain ⟨comp, c, k, h1, h2, h3, h4, h5⟩ := arrayOverA_spec h.2.2
  have g0 := (h.1.2 0 _ rfl)
  have g2 := (h.1.2 2 _ rfl)
  have e1 : U.vm.findClass (FieldType.array .int).toString = some (Y 0) := g0.2
  have e2 : U.vm.findClass ("[" ++ (FieldType.array .int).toString) = some (Y 2) := g2.2
  have c0 : comp = Y 0 := Option.some.inj (h1.symm.trans e1)
  have c2 : c = Y 2 := Option.some.inj (h5.symm.trans e2)
  subst c0; subst c2
  obtain ⟨-, k0, hk0, -⟩ := g0.1 0 (fun _ => .null)
  exact ⟨k, k0, h3, h4, hk0⟩
theorem asg (vm : Vm) (c : ClassId) : vm.assignable c c = true := by
  unfold Vm.assignable
  rw [show (256 : Nat) = 255 + 1 from rfl, Vm.assignableAux, beq_self_eq_true, Bool.true_or]
section
variable {p : Program} {l : Launch} {e : Env} {R : Room} {s : State} {m : MethodId} {args : Array Value} {below : List Frame} {meth : Method} {c : Code} {H H0 : Heap} {locs : List Loc} {cells slots : Nat} {Q : State → Prop} {ls : Array Slot} {rest : List Value} {cc : ByteArray} {pc : Nat} {D : va_G} {Y : Nat → ClassId} {A : Nat → Prop} {a : Nat}
/-- aaload at a numbered place where a row's address lies -/
theorem qa {ws : va_W} (hx : p.tables.exec = Jvm.exec) (hb : c.code = cc) (hK : va_K D vwCl (yK Y) s) (hP : va_P D vwCl ws H) (q0 : Nat) {n : Nat} {f : Nat → Option Nat} (ha : ws[q0]? = some (a, .inl (Y 2, n, .inr (.inr (.inr (.inr f)))))) (k : Nat) {i : Int32} (hi : i = nI k) (hk : k < n) (hn : n < 2 ^ 31) {v : Nat} (hv : f k = some v) (hdg : decode cc pc = .ok (.aaload, 1))
    (kk : W p l e R s m args below meth c H locs cells slots Q (F0 m (pc + 1) ls (.ref v :: rest))) : W p l e R s m args below meth c H locs cells slots Q (F0 m pc ls (.int i :: .ref a :: rest)) := by
  subst hi
  have h2 : k < 2 ^ 31 := Nat.lt_trans hk hn
  have hin : vp_in (nI k) n := vp_in_nI hk hn
  have hc : (nI k).toNatClampNeg = k := nI_clamp h2
  have hlt : (nI k).toNatClampNeg < n := by rw [hc]; exact hk
  have ht : (yK Y)[2]? = some (Y 2, .array .int) := rfl
  refine W.aald (v := va_rf (f (nI k).toNatClampNeg)) (ty := .array .int) hx hb (hP q0 _ ha) ((hK.2 2 _ ht).1 n (fun j => va_rf (f j))) rfl (fun q => by cases q) (by show ¬ (nI k < 0 ∨ (arrV _ _ _).slots.size ≤ _); rw [arrV_size]; exact hin) (by show (arrV _ _ _).slots[_]? = _; rw [arrV_read _ _ hlt]) rfl rfl hdg ?_
  rw [hc, hv]
  exact kk
/-- aastore of a row of ints -/
theorem qs {ws : va_W} (hx : p.tables.exec = Jvm.exec) (hb : c.code = cc) (hKN : KN D Y s) (hP : va_P D vwCl ws H) (hD : va_D A ws) (hS : va_S A H0 H locs) (q0 : Nat) {n v n' : Nat} {f : Nat → Option Nat} {f' : fN} (ha : ws[q0]? = some (a, .inl (Y 2, n, .inr (.inr (.inr (.inr f)))))) (hv : ((v, .inl (Y 0, n', .inl f')) : Nat × va_E) ∈ ws) (k : Nat) {i : Int32} (hi : i = nI k) (hk : k < n) (hn : n < 2 ^ 31) (hdg : decode cc pc = .ok (.aastore, 1))
    (kk : ∀ (H1 : Heap) (locs1 : List Loc), va_P D vwCl (ws.set q0 (a, .inl (Y 2, n, .inr (.inr (.inr (.inr (va_up f k (some v)))))))) H1 → va_D A (ws.set q0 (a, .inl (Y 2, n, .inr (.inr (.inr (.inr (va_up f k (some v)))))))) → va_S A H0 H1 locs1 → W p l e R s m args below meth c H1 locs1 cells slots Q (F0 m (pc + 1) ls rest)) : W p l e R s m args below meth c H locs cells slots Q (F0 m pc ls (.ref v :: .int i :: .ref a :: rest)) := by
  subst hi
  have h2 : k < 2 ^ 31 := Nat.lt_trans hk hn
  have hc : (nI k).toNatClampNeg = k := nI_clamp h2
  obtain ⟨kA, k0, k1, k2, k3⟩ := ao2 hKN
  obtain ⟨qk, hqk⟩ := List.getElem?_of_mem hv
  have g1 : H[v]? = some (vp_cell (Y 0) (n', .inl f')) := hP qk _ hqk
  refine W.aast hx hb (hP q0 _ ha) (fun q h => by cases h) (fun h => by cases h) k1 k2 rfl k3 ⟨nI_pos h2, by show _ < (arrV _ _ _).slots.size; rw [arrV_size, hc]; exact hk⟩ g1 (fun q h => by cases h) k3 (asg _ _) rfl rfl hdg fun H1 e z oq => ?_
  rw [hc] at e
  refine kk H1 _ (hP.set hD ha ?_ oq) (hD.set ha) (hS.put z oq (hD.2 q0 _ ha))
  show H1[a]? = some (vp_cell _ _)
  rw [e]
  rw [vp_cell_q, vp_cell_q, arrV_store]
  congr 2
  funext q
  by_cases hq : q = k
  · subst hq
    simp [updV, va_up, va_rf]
  · simp [updV, va_up, hq]
/-- anewarray of arrays of ints -/
theorem nQ {ws : va_W} {own : String} {index : Nat} (hx : p.tables.exec = Jvm.exec) (hb : c.code = cc) (hown : s.vm.findClass own = some m.cls) (hclink : (Cond.classLink own index "[I").before args s = true) (hKN : KN D Y s) (hP : va_P D vwCl ws H) (hD : va_D A ws) (hS : va_S A H0 H locs) (hA : ∀ q, H0.size ≤ q → A q)
    {n : Int32} {N' : Nat} (hn : ¬ n < 0) (hN : n.toNatClampNeg = N') (hbytes : N' * 4 ≤ 536870912) (hcells : cells + 1 ≤ R.cells) (hslots : slots + N' ≤ R.slots) (hdg : decode cc pc = .ok (.anewarray index, 3))
    (kk : ∀ (q : Nat) (H1 : Heap), va_P D vwCl (ws ++ [(q, .inl (Y 2, N', .inr (.inr (.inr (.inr (fun _ => none))))))]) H1 → va_D A (ws ++ [(q, .inl (Y 2, N', .inr (.inr (.inr (.inr (fun _ => none))))))]) → va_S A H0 H1 locs → W p l e R s m args below meth c H1 locs (cells + 1) (slots + N') Q (F0 m (pc + 3) ls (.ref q :: rest))) : W p l e R s m args below meth c H locs cells slots Q (F0 m pc ls (.int n :: rest)) := by
  subst hN
  refine W.anewA (t := .int) hx hb hown hclink (AO2.use hKN.2.2) rfl hdg rfl hn hbytes hcells hslots fun cA kA comp f1 f2 f3 f4 => ?_
  have e2 : s.vm.findClass ("[" ++ (FieldType.array .int).toString) = some (Y 2) := (hKN.1.2 2 _ rfl).2
  obtain rfl : cA = Y 2 := Option.some.inj (f1.symm.trans e2)
  generalize hH1 : H.push ({ cls := Y 2, slots := Array.replicate n.toNatClampNeg .null, vm := .none } : Cell) = H1
  have z1 : H1.size = H.size + 1 := by rw [← hH1, Array.size_push]
  have e1 : H1[H.size]? = some (arrV (Y 2) n.toNatClampNeg (fun _ => .null)) := by rw [← hH1, Array.getElem?_push_size, ← arrV_new]
  have o1 : ∀ q : Nat, q < H.size → H1[q]? = H[q]? := fun q hq => by rw [← hH1, Array.getElem?_push, if_neg (Nat.ne_of_lt hq)]
  have hk : ∀ (k : Nat) (x : Nat × va_E), ws[k]? = some x → H1[x.1]? = H[x.1]? := fun k x hx => o1 x.1 ((hP k x hx).lt)
  refine kk H.size H1 ((hP.kept hk).app (fun k x hx => ?_)) (hD.push hP rfl (hA _ hS.1)) ⟨Nat.le_trans hS.1 (by omega), fun x h1 h2 => (o1 x (Nat.lt_of_lt_of_le h1 hS.1)).trans (hS.2.1 x h1 h2), hS.2.2⟩
  have hz : k < 1 := (List.getElem?_eq_some_iff.mp hx).1
  rw [show k = 0 by omega] at hx
  cases hx
  show H1[H.size]? = some (vp_cell _ _)
  rw [vp_cell_q]
  exact e1
/-- iaload of a row of the pool, at a numbered place -/
theorem ip {ws : va_W} {n : Nat} {f : fN} (hx : p.tables.exec = Jvm.exec) (hb : c.code = cc) (hK : va_K D vwCl (yK Y) s) (hP : va_P D vwCl ws H) (hw : ((a, .inl (Y 0, n, .inl f)) : Nat × va_E) ∈ ws) (k : Nat) {i : Int32} (hi : i = nI k) (hk : k < n) (hn : n < 2 ^ 31) (hdg : decode cc pc = .ok (.iaload, 1))
    (kk : W p l e R s m args below meth c H locs cells slots Q (F0 m (pc + 1) ls (.int (f k) :: rest))) : W p l e R s m args below meth c H locs cells slots Q (F0 m pc ls (.int i :: .ref a :: rest)) := by
  obtain ⟨q0, hq⟩ := List.getElem?_of_mem hw
  exact ia hx hb hK hP q0 0 hq rfl k hi hk hn hdg kk
/-- iastore into a row of the pool -/
theorem isp {C X : va_W} {L : List Nat} {N : Nat → Nat} {F : Nat → fN} (hx : p.tables.exec = Jvm.exec) (hb : c.code = cc) (hK : va_K D vwCl (yK Y) s) (hP : va_P D vwCl (C ++ (X ++ pl Y L N F)) H) (hD : va_D A (C ++ (X ++ pl Y L N F))) (hS : va_S A H0 H locs) (ha : a ∈ L) (k : Nat) {i x : Int32} (hi : i = nI k) (hk : k < N a) (hn : N a < 2 ^ 31) (hdg : decode cc pc = .ok (.iastore, 1))
    (kk : ∀ (H1 : Heap) (locs1 : List Loc), va_P D vwCl (C ++ (X ++ pl Y L N (va_up F a (upd (F a) k x)))) H1 → va_D A (C ++ (X ++ pl Y L N (va_up F a (upd (F a) k x)))) → va_S A H0 H1 locs1 → W p l e R s m args below meth c H1 locs1 cells slots Q (F0 m (pc + 1) ls rest)) : W p l e R s m args below meth c H locs cells slots Q (F0 m pc ls (.int x :: .int i :: .ref a :: rest)) := by
  rw [← List.append_assoc] at hP hD
  obtain ⟨q0, hq⟩ := va_pl_get (X := C ++ X) (f := fun a => (.inl (Y 0, N a, .inl (F a)) : va_E)) ha
  refine is hx hb hK hP hD hS q0 0 (cA := Y 0) (n := N a) (f := F a) hq rfl k hi hk hn hdg (fun H1 locs1 hP1 hD1 hS1 => ?_)
  have e : (C ++ X ++ pl Y L N F).set q0 (a, .inl (Y 0, N a, .inl (upd (F a) k x))) = C ++ (X ++ pl Y L N (va_up F a (upd (F a) k x))) := by
    rw [← List.append_assoc]
    refine (va_pl_set (X := C ++ X) (f := fun a => (.inl (Y 0, N a, .inl (F a)) : va_E)) hD ha hq).trans ?_
    congr 1
    refine va_pl_congr (fun b => ?_)
    show va_up (fun a => (.inl (Y 0, N a, .inl (F a)) : va_E)) a (.inl (Y 0, N a, .inl (upd (F a) k x))) b = (.inl (Y 0, N b, .inl (va_up F a (upd (F a) k x) b)) : va_E)
    by_cases hb9 : b = a
    · subst hb9; rw [va_up_self, va_up_self]
    · rw [va_up_ne _ _ hb9, va_up_ne _ _ hb9]
  rw [e] at hP1 hD1
  exact kk H1 locs1 hP1 hD1 hS1
/-- newarray int, ahead of the pool -/
theorem nAP {C X r : va_W} (hx : p.tables.exec = Jvm.exec) (hb : c.code = cc) (harr : (Cond.arrayClass .int).before args s = true) (hK : va_K D vwCl (yK Y) s) (hP : va_P D vwCl (C ++ (X ++ r)) H) (hD : va_D A (C ++ (X ++ r))) (hS : va_S A H0 H locs) (hA : ∀ q, H0.size ≤ q → A q)
    {n : Int32} {N' : Nat} (hn : ¬ n < 0) (hN : n.toNatClampNeg = N') (hbytes : N' * 4 ≤ 536870912) (hcells : cells + 1 ≤ R.cells) (hslots : slots + N' ≤ R.slots) (hdg : decode cc pc = .ok (.newarray .int, 2))
    (kk : ∀ (q : Nat) (H1 : Heap), va_P D vwCl (C ++ ((X ++ [(q, .inl (Y 0, N', .inl (fun _ => 0)))]) ++ r)) H1 → va_D A (C ++ ((X ++ [(q, .inl (Y 0, N', .inl (fun _ => 0)))]) ++ r)) → va_S A H0 H1 locs → W p l e R s m args below meth c H1 locs (cells + 1) (slots + N') Q (F0 m (pc + 2) ls (.ref q :: rest))) : W p l e R s m args below meth c H locs cells slots Q (F0 m pc ls (.int n :: rest)) := by
  refine nA0 hx hb harr hK hP hD hS hA hn hN hbytes hcells hslots hdg (fun q H1 hP1 hD1 hS1 => ?_)
  have hp : ((C ++ (X ++ r)) ++ ([(q, .inl (Y 0, N', .inl (fun _ => 0)))] : va_W)).Perm (C ++ ((X ++ ([(q, .inl (Y 0, N', .inl (fun _ => 0)))] : va_W)) ++ r)) := by
    rw [List.append_assoc, List.append_assoc, List.append_assoc]
    exact List.Perm.append_left C (List.Perm.append_left X List.perm_append_comm)
  exact kk q H1 (hP1.perm hp) (hD1.perm hp) hS1
/-! calls over such worlds -/
variable {y : MethodName} {bytes : ByteArray} {maxL nL mc ms n index : Nat} {ret : Option FieldType} {rm : Room} {Ts wsY : List Cond} {own Cn host : String} {b : Nat} {As : List Value} {wc w1 ws ws' r : va_W} {st : List Value}
theorem cSv (S : CallFix p m c cc nL s args Ts own) (hM : MV l y wsY rm D Y As H.size wc w1 mc ms) (cw : CallB R s args own index y bytes maxL ret wsY rm mc ms n ∧ (Cond.static y).before args s = true) (hKN : KN D Y s) (hP : va_P D vwCl ws H) (hD : va_D A ws) (hS : va_S A H0 H locs) (hA : ∀ q, H0.size ≤ q → A q) (isC isR pm : List Nat) (hC : isC.map (fun i => ws[i]?) = wc.map some) (hnC : va_nd isC = true) (hn : (va_nd isR && isR.all (fun i => decide (i < ws.length) && decide (i ∉ isC)) && va_nd pm) = true) (hp : pm.map (fun i => (isR.filterMap (fun i => ws[i]?) ++ w1)[i]?) = ws'.map some)
    (hst : st = As.reverse ++ rest) (hln : As.length = n) (hsz : ls.size = nL) (hW : (rest.map fun v => v.category).sum ≤ 8) (hdg : decode cc pc = .ok (.invokestatic index, 3)) (hf : cells + mc ≤ R.cells ∧ slots + ms ≤ R.slots)
    (kk : ∀ (H1 : Heap) (locs1 : List Loc), va_P D vwCl ws' H1 → va_D A ws' → va_S A H0 H1 locs1 → W p l e R s m args below meth c H1 locs1 (cells + mc) (slots + ms) Q (F0 m (pc + 3) ls rest)) : W p l e R s m args below meth c H locs cells slots Q (F0 m pc ls st) := by
  subst hst
  have hFc := va_free hD hS hA isC hC
  refine va_callv (va_runS (As := As) (rest := rest) S hM cw (pS hKN hP hD isC hC hnC) rfl hln hsz rfl (lv_room hW) hdg hf) hS (fun q _ h => hFc q h) hFc (fun u t H1 locs ht hvm hw hB hz1 hk1 hS => ?_)
  obtain ⟨hP1, hD1⟩ := hB
  rw [ht] at hP1
  obtain ⟨hP2, hD2⟩ := jn hP hD isC isR pm hC hn hp hk1 hFc hP1 hD1
  exact kk H1 locs hP2 hD2 hS
theorem pSG (hKN : KN D Y s) (hP : va_P D vwCl ws H) (hD : va_D A ws) (hp : ws.Perm (wc ++ r)) : PreS s H (pcW D Y As H.size wc) As :=
  ⟨pcW_blind, fun U hU hW => ⟨rfl, by rw [hU], by rw [hU]; exact (hP.perm hp).left, hKN.warm hW, ((hD.perm hp).left).weaken (fun _ _ _ _ => trivial)⟩⟩
theorem pVG (hKN : KN D Y s) (hP : va_P D vwCl ws H) (hD : va_D A ws) (hp : ws.Perm (wc ++ r)) (q0 ci : Nat) {fs : List Value} {T : u_T} {N : Nat} (hq : ws[q0]? = some (b, .inr (ci, fs))) (hc : vwCl[ci]? = some (Cn, T, N)) : PreV s H Cn b (pcW D Y (.ref b :: As) H.size wc) As :=
  ⟨(pSG (Y := Y) (As := .ref b :: As) hKN hP hD hp).1, va_recv hKN.1 hP hc hq, (pSG (Y := Y) (As := .ref b :: As) hKN hP hD hp).2⟩
theorem gVi {E : Int32} (S : CallFix p m c cc nL s args Ts own) (hM : MI l y wsY rm D Y (.ref b :: As) H.size wc E w1 mc ms) (cw : CallW R s args own Cn index y bytes maxL ret wsY rm mc ms n) (hKN : KN D Y s) (hP : va_P D vwCl ws H) (hD : va_D A ws) (hS : va_S A H0 H locs) (hA : ∀ q, H0.size ≤ q → A q) (hp : ws.Perm (wc ++ r)) (hp' : (w1 ++ r).Perm ws')
    (q0 ci : Nat) {fs : List Value} {T : u_T} {N : Nat} (hq : ws[q0]? = some (b, .inr (ci, fs))) (hc : vwCl[ci]? = some (Cn, T, N))
    (hst : st = As.reverse ++ .ref b :: rest) (hln : As.length = n) (hsz : ls.size = nL) (hW : (rest.map fun v => v.category).sum ≤ 8) (hdg : decode cc pc = .ok (.invokevirtual index, 3)) (hf : cells + mc ≤ R.cells ∧ slots + ms ≤ R.slots)
    (kk : ∀ (H1 : Heap) (locs1 : List Loc), va_P D vwCl ws' H1 → va_D A ws' → va_S A H0 H1 locs1 → W p l e R s m args below meth c H1 locs1 (cells + mc) (slots + ms) Q (F0 m (pc + 3) ls (.int E :: rest))) : W p l e R s m args below meth c H locs cells slots Q (F0 m pc ls st) := by
  subst hst
  have hFc := va_freeG hD hS hA hp
  refine va_calli (va_runV (As := As) (rest := rest) S hM cw (pVG hKN hP hD hp q0 ci hq hc) rfl hln hsz rfl (lv_room hW) hdg hf) hS (fun q _ h => hFc q h) hFc (fun r u t H1 locs ht hvm hw hB hz1 hk1 hS => ?_)
  obtain ⟨hP1, hD1⟩ := hB
  rw [ht] at hP1
  subst hw
  obtain ⟨hP2, hD2⟩ := fr hP hD hp hk1 hFc hP1 hD1
  exact kk H1 locs (hP2.perm hp') (hD2.perm hp') hS
theorem gVl {E : Int64} (S : CallFix p m c cc nL s args Ts own) (hM : ML l y wsY rm D Y (.ref b :: As) H.size wc E w1 mc ms) (cw : CallW R s args own Cn index y bytes maxL ret wsY rm mc ms n) (hKN : KN D Y s) (hP : va_P D vwCl ws H) (hD : va_D A ws) (hS : va_S A H0 H locs) (hA : ∀ q, H0.size ≤ q → A q) (hp : ws.Perm (wc ++ r)) (hp' : (w1 ++ r).Perm ws')
    (q0 ci : Nat) {fs : List Value} {T : u_T} {N : Nat} (hq : ws[q0]? = some (b, .inr (ci, fs))) (hc : vwCl[ci]? = some (Cn, T, N))
    (hst : st = As.reverse ++ .ref b :: rest) (hln : As.length = n) (hsz : ls.size = nL) (hW : (rest.map fun v => v.category).sum ≤ 8) (hdg : decode cc pc = .ok (.invokevirtual index, 3)) (hf : cells + mc ≤ R.cells ∧ slots + ms ≤ R.slots)
    (kk : ∀ (H1 : Heap) (locs1 : List Loc), va_P D vwCl ws' H1 → va_D A ws' → va_S A H0 H1 locs1 → W p l e R s m args below meth c H1 locs1 (cells + mc) (slots + ms) Q (F0 m (pc + 3) ls (.long E :: rest))) : W p l e R s m args below meth c H locs cells slots Q (F0 m pc ls st) := by
  subst hst
  have hFc := va_freeG hD hS hA hp
  refine va_calll (va_runV (As := As) (rest := rest) S hM cw (pVG hKN hP hD hp q0 ci hq hc) rfl hln hsz rfl (lv_room hW) hdg hf) hS (fun q _ h => hFc q h) hFc (fun r u t H1 locs ht hvm hw hB hz1 hk1 hS => ?_)
  obtain ⟨hP1, hD1⟩ := hB
  rw [ht] at hP1
  subst hw
  obtain ⟨hP2, hD2⟩ := fr hP hD hp hk1 hFc hP1 hD1
  exact kk H1 locs (hP2.perm hp') (hD2.perm hp') hS
theorem gVv (S : CallFix p m c cc nL s args Ts own) (hM : MV l y wsY rm D Y (.ref b :: As) H.size wc w1 mc ms) (cw : CallW R s args own Cn index y bytes maxL ret wsY rm mc ms n) (hKN : KN D Y s) (hP : va_P D vwCl ws H) (hD : va_D A ws) (hS : va_S A H0 H locs) (hA : ∀ q, H0.size ≤ q → A q) (hp : ws.Perm (wc ++ r)) (hp' : (w1 ++ r).Perm ws')
    (q0 ci : Nat) {fs : List Value} {T : u_T} {N : Nat} (hq : ws[q0]? = some (b, .inr (ci, fs))) (hc : vwCl[ci]? = some (Cn, T, N))
    (hst : st = As.reverse ++ .ref b :: rest) (hln : As.length = n) (hsz : ls.size = nL) (hW : (rest.map fun v => v.category).sum ≤ 8) (hdg : decode cc pc = .ok (.invokevirtual index, 3)) (hf : cells + mc ≤ R.cells ∧ slots + ms ≤ R.slots)
    (kk : ∀ (H1 : Heap) (locs1 : List Loc), va_P D vwCl ws' H1 → va_D A ws' → va_S A H0 H1 locs1 → W p l e R s m args below meth c H1 locs1 (cells + mc) (slots + ms) Q (F0 m (pc + 3) ls rest)) : W p l e R s m args below meth c H locs cells slots Q (F0 m pc ls st) := by
  subst hst
  have hFc := va_freeG hD hS hA hp
  refine va_callv (va_runV (As := As) (rest := rest) S hM cw (pVG hKN hP hD hp q0 ci hq hc) rfl hln hsz rfl (lv_room hW) hdg hf) hS (fun q _ h => hFc q h) hFc (fun u t H1 locs ht hvm hw hB hz1 hk1 hS => ?_)
  obtain ⟨hP1, hD1⟩ := hB
  rw [ht] at hP1
  obtain ⟨hP2, hD2⟩ := fr hP hD hp hk1 hFc hP1 hD1
  exact kk H1 locs (hP2.perm hp') (hD2.perm hp') hS
theorem gSi {E : Int32} (S : CallFix p m c cc nL s args Ts own) (hM : MI l y wsY rm D Y As H.size wc E w1 mc ms) (cw : CallB R s args own index y bytes maxL ret wsY rm mc ms n ∧ (Cond.static y).before args s = true) (hKN : KN D Y s) (hP : va_P D vwCl ws H) (hD : va_D A ws) (hS : va_S A H0 H locs) (hA : ∀ q, H0.size ≤ q → A q) (hp : ws.Perm (wc ++ r)) (hp' : (w1 ++ r).Perm ws')
    (hst : st = As.reverse ++ rest) (hln : As.length = n) (hsz : ls.size = nL) (hW : (rest.map fun v => v.category).sum ≤ 8) (hdg : decode cc pc = .ok (.invokestatic index, 3)) (hf : cells + mc ≤ R.cells ∧ slots + ms ≤ R.slots)
    (kk : ∀ (H1 : Heap) (locs1 : List Loc), va_P D vwCl ws' H1 → va_D A ws' → va_S A H0 H1 locs1 → W p l e R s m args below meth c H1 locs1 (cells + mc) (slots + ms) Q (F0 m (pc + 3) ls (.int E :: rest))) : W p l e R s m args below meth c H locs cells slots Q (F0 m pc ls st) := by
  subst hst
  have hFc := va_freeG hD hS hA hp
  refine va_calli (va_runS (As := As) (rest := rest) S hM cw (pSG hKN hP hD hp) rfl hln hsz rfl (lv_room hW) hdg hf) hS (fun q _ h => hFc q h) hFc (fun r u t H1 locs ht hvm hw hB hz1 hk1 hS => ?_)
  obtain ⟨hP1, hD1⟩ := hB
  rw [ht] at hP1
  subst hw
  obtain ⟨hP2, hD2⟩ := fr hP hD hp hk1 hFc hP1 hD1
  exact kk H1 locs (hP2.perm hp') (hD2.perm hp') hS
theorem gSv (S : CallFix p m c cc nL s args Ts own) (hM : MV l y wsY rm D Y As H.size wc w1 mc ms) (cw : CallB R s args own index y bytes maxL ret wsY rm mc ms n ∧ (Cond.static y).before args s = true) (hKN : KN D Y s) (hP : va_P D vwCl ws H) (hD : va_D A ws) (hS : va_S A H0 H locs) (hA : ∀ q, H0.size ≤ q → A q) (hp : ws.Perm (wc ++ r)) (hp' : (w1 ++ r).Perm ws')
    (hst : st = As.reverse ++ rest) (hln : As.length = n) (hsz : ls.size = nL) (hW : (rest.map fun v => v.category).sum ≤ 8) (hdg : decode cc pc = .ok (.invokestatic index, 3)) (hf : cells + mc ≤ R.cells ∧ slots + ms ≤ R.slots)
    (kk : ∀ (H1 : Heap) (locs1 : List Loc), va_P D vwCl ws' H1 → va_D A ws' → va_S A H0 H1 locs1 → W p l e R s m args below meth c H1 locs1 (cells + mc) (slots + ms) Q (F0 m (pc + 3) ls rest)) : W p l e R s m args below meth c H locs cells slots Q (F0 m pc ls st) := by
  subst hst
  have hFc := va_freeG hD hS hA hp
  refine va_callv (va_runS (As := As) (rest := rest) S hM cw (pSG hKN hP hD hp) rfl hln hsz rfl (lv_room hW) hdg hf) hS (fun q _ h => hFc q h) hFc (fun u t H1 locs ht hvm hw hB hz1 hk1 hS => ?_)
  obtain ⟨hP1, hD1⟩ := hB
  rw [ht] at hP1
  obtain ⟨hP2, hD2⟩ := fr hP hD hp hk1 hFc hP1 hD1
  exact kk H1 locs (hP2.perm hp') (hD2.perm hp') hS
end
