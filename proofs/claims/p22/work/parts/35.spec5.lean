/-! SPEC of the two hills side by side -/
def WRn (n : Nat) (L : List Nat) (N : Nat → Nat) (F : Nat → fN) (wr : Nat → Option Nat) (wa da gu : fN) : Prop := ∀ k, k < n → ∃ a, wr k = some a ∧ a ∈ L ∧ N a = 3 ∧ F a 0 = wa k ∧ F a 1 = da k ∧ F a 2 = gu k
theorem WRn_push {n q : Nat} {L : List Nat} {N : Nat → Nat} {F : Nat → fN} {wr : Nat → Option Nat} {wa da gu f : fN} (h : WRn n L N F wr wa da gu) (hq : q ∉ L) (e0 : f 0 = wa n) (e1 : f 1 = da n) (e2 : f 2 = gu n) : WRn (n + 1) (q :: L) (va_up N q 3) (va_up F q f) (va_up wr n (some q)) wa da gu := by
  intro k hk
  by_cases c : k = n
  · subst c
    exact ⟨q, va_up_self _ _ _, List.mem_cons_self, va_up_self _ _ _, by rw [va_up_self]; exact e0, by rw [va_up_self]; exact e1, by rw [va_up_self]; exact e2⟩
  · obtain ⟨a, h1, h2, h3, h4, h5, h6⟩ := h k (by omega)
    have ha : a ≠ q := fun e => hq (e ▸ h2)
    exact ⟨a, by rw [va_up_ne _ _ c]; exact h1, List.mem_cons_of_mem _ h2, by rw [va_up_ne _ _ ha]; exact h3, by rw [va_up_ne _ _ ha]; exact h4, by rw [va_up_ne _ _ ha]; exact h5, by rw [va_up_ne _ _ ha]; exact h6⟩
def ZNEW (D : va_G) (Y : Nat → ClassId) (z : Nat) : (Nat → Prop) → Heap → Prop := fun A H => ∃ (z1 z2 z3 z4 z5 z6 : Nat) (L : List Nat) (N : Nat → Nat) (F : Nat → fN) (wr : Nat → Option Nat), WRn 24 L N F wr (fun _ => -5) (fun _ => 50) (fun _ => 0) ∧ va_P D vwCl (wp [(z, .inr (6, [.int (0 : Int32), .int (0 : Int32), .ref z1, .ref z2, .ref z3, .ref z4, .int (0 : Int32), .ref z5, .ref z6, .int (0 : Int32)])), (z1, .inl (Y 0, 20, .inl (fun _ => 0))), (z2, .inl (Y 0, 20, .inl (fun _ => 0))), (z3, .inl (Y 2, 24, .inr (.inr (.inr (.inr wr))))), (z4, .inl (Y 2, 5, .inr (.inr (.inr (.inr (fun _ => none)))))), (z5, .inl (Y 0, 5, .inl nI)), (z6, .inl (Y 2, 30, .inr (.inr (.inr (.inr (fun _ => none))))))] (pl Y L N F)) H ∧ va_D A (wp [(z, .inr (6, [.int (0 : Int32), .int (0 : Int32), .ref z1, .ref z2, .ref z3, .ref z4, .int (0 : Int32), .ref z5, .ref z6, .int (0 : Int32)])), (z1, .inl (Y 0, 20, .inl (fun _ => 0))), (z2, .inl (Y 0, 20, .inl (fun _ => 0))), (z3, .inl (Y 2, 24, .inr (.inr (.inr (.inr wr))))), (z4, .inl (Y 2, 5, .inr (.inr (.inr (.inr (fun _ => none)))))), (z5, .inl (Y 0, 5, .inl nI)), (z6, .inl (Y 2, 30, .inr (.inr (.inr (.inr (fun _ => none))))))] (pl Y L N F))
/-- the class's cells -/
def CW (Y : Nat → ClassId) (ad : Nat → Nat) (wa : fN) (da : fN) (gu : fN) (pa : fN) (fl : fN) (sn : fN) (ic : fN) (ru : fN) (st : fN) (jr : fN) (ln : fN) (pt : fN) (fa : fN) (ho : fN) (sq : fN) (iq : fN) (rq : fN) (wt : Int32) (wb : Int32) (npI : Int32) (tmI : Int32) (tbI : Int32) (njI : Int32) : va_W := [((ad 0), .inr (5, [.ref (ad 1), .ref (ad 5), .ref (ad 8), .ref (ad 12), .ref (ad 16), .ref (ad 18)])), ((ad 1), .inr (4, [.ref (ad 2), .ref (ad 3), .ref (ad 4)])), ((ad 2), .inl (Y 0, 24, .inl wa)), ((ad 3), .inl (Y 0, 24, .inl da)), ((ad 4), .inl (Y 0, 24, .inl gu)), ((ad 5), .inr (3, [.ref (ad 6), .ref (ad 7), .int npI])), ((ad 6), .inl (Y 0, 5, .inl pa)), ((ad 7), .inl (Y 0, 5, .inl fl)), ((ad 8), .inr (0, [.ref (ad 1), .ref (ad 5), .ref (ad 9), .ref (ad 10), .ref (ad 11), .int wt, .int tmI])), ((ad 9), .inl (Y 0, 20, .inl sn)), ((ad 10), .inl (Y 0, 20, .inl ic)), ((ad 11), .inl (Y 1, 5, .inl ru)), ((ad 12), .inr (0, [.ref (ad 1), .ref (ad 5), .ref (ad 13), .ref (ad 14), .ref (ad 15), .int wb, .int tbI])), ((ad 13), .inl (Y 0, 20, .inl sq)), ((ad 14), .inl (Y 0, 20, .inl iq)), ((ad 15), .inl (Y 1, 5, .inl rq)), ((ad 16), .inr (2, [.ref (ad 17)])), ((ad 17), .inl (Y 0, 5, .inl st)), ((ad 18), .inr (1, [.ref (ad 19), .ref (ad 20), .ref (ad 21), .ref (ad 22), .ref (ad 23), .int njI])), ((ad 19), .inl (Y 0, 30, .inl jr)), ((ad 20), .inl (Y 0, 30, .inl ln)), ((ad 21), .inl (Y 0, 30, .inl pt)), ((ad 22), .inl (Y 0, 30, .inl fa)), ((ad 23), .inl (Y 0, 30, .inl ho))]
def WB (wt : Int32) : Prop := ∃ q : Nat, q ≤ 9999 ∧ wt = nI q
def LINV (wa da gu pa fl sn ic ru st jr pt fa : fN) (wt : Int32) (tm np nj k : Nat) : Prop :=
  OKH wa da pa fl ru sn ic np ∧ (∀ i, ¬ (gu i < -9 ∨ 9 < gu i)) ∧ STK st ∧ nj ≤ 30 ∧ tm ≤ k ∧ (∀ i, nj ≤ i → fa i = 0) ∧ (∀ i, nj ≤ i → pt i = 0) ∧ (∀ i, i < nj → ∃ q : Nat, q ≤ 159 ∧ pt i = nI q) ∧ (∀ i, i < nj → ∃ w : Nat, w < 10 ∧ jr i = nI w) ∧ (∀ i, fa i = 0 ∨ fa i = 1) ∧ WB wt
def PINV (L : List Nat) (N : Nat → Nat) (F : Nat → fN) (wr pr jw : Nat → Option Nat) (wa da gu pa fl ru jr ln pt fa ho : fN) (np nj : Nat) : Prop :=
  WR L N F wr wa da gu ∧ PR L N F pr pa fl ru np ∧ JR L N F jw jr ln pt fa ho nj ∧ (∀ i k, i < np → k < 24 → pr i ≠ wr k) ∧ (∀ i j, i < np → j < np → pr i = pr j → i = j)
/-- what becomes of the jumps when something is done: nothing, or one more -/
def LREL (jr ln pt fa ho : fN) (nj tm : Nat) (jr' ln' pt' fa' ho' : fN) (nj' : Nat) : Prop :=
  (nj' = nj ∧ jr' = jr ∧ ln' = ln ∧ pt' = pt ∧ fa' = fa ∧ ho' = ho) ∨ (nj < 30 ∧ nj' = nj + 1 ∧ ∃ w g q f : Nat, w < 10 ∧ g ≤ 99 ∧ g ≤ q ∧ q + 24 * f ≤ g + 60 ∧ f ≤ 1 ∧ jr' = upd jr nj (nI w) ∧ ln' = upd ln nj (nI g) ∧ pt' = upd pt nj (nI q) ∧ fa' = upd fa nj (nI f) ∧ ho' = upd ho nj (nI tm))
theorem LREL.same {jr ln pt fa ho : fN} {nj tm : Nat} : LREL jr ln pt fa ho nj tm jr ln pt fa ho nj := Or.inl ⟨rfl, rfl, rfl, rfl, rfl, rfl⟩
/-- the two hills, alike, behind one thing done -/
def ACTP (D : va_G) (Y : Nat → ClassId) (ad : Nat → Nat) (z z1 z2 z3 z4 z5 z6 : Nat) (jr ln pt fa ho : fN) (nj tm k : Nat) : (Nat → Prop) → Heap → Prop := fun A H => ∃ (wa : fN) (da : fN) (gu : fN) (pa : fN) (fl : fN) (sn : fN) (ic : fN) (ru : fN) (st : fN) (jr1 : fN) (ln1 : fN) (pt1 : fN) (fa1 : fN) (ho1 : fN) (sq : fN) (iq : fN) (rq : fN) (wt : Int32) (wb : Int32) (tbI : Int32) (np : Nat) (nj1 : Nat) (L : List Nat) (N : Nat → Nat) (F : Nat → fN) (wr : Nat → Option Nat) (pr : Nat → Option Nat) (jw : Nat → Option Nat), LINV wa da gu pa fl sn ic ru st jr1 pt1 fa1 wt tm np nj1 k ∧ PINV L N F wr pr jw wa da gu pa fl ru jr1 ln1 pt1 fa1 ho1 np nj1 ∧ LREL jr ln pt fa ho nj tm jr1 ln1 pt1 fa1 ho1 nj1 ∧ va_P D vwCl (wp (CW Y ad wa da gu pa fl sn ic ru st jr1 ln1 pt1 fa1 ho1 sq iq rq wt wb (nI np) (nI tm) tbI (nI nj1)) (wp [(z, .inr (6, [.int (nI tm), .int wt, .ref z1, .ref z2, .ref z3, .ref z4, .int (nI np), .ref z5, .ref z6, .int (nI nj1)])), (z1, .inl (Y 0, 20, .inl sn)), (z2, .inl (Y 0, 20, .inl ic)), (z3, .inl (Y 2, 24, .inr (.inr (.inr (.inr wr))))), (z4, .inl (Y 2, 5, .inr (.inr (.inr (.inr pr))))), (z5, .inl (Y 0, 5, .inl st)), (z6, .inl (Y 2, 30, .inr (.inr (.inr (.inr jw)))))] (pl Y L N F))) H ∧ va_D A (wp (CW Y ad wa da gu pa fl sn ic ru st jr1 ln1 pt1 fa1 ho1 sq iq rq wt wb (nI np) (nI tm) tbI (nI nj1)) (wp [(z, .inr (6, [.int (nI tm), .int wt, .ref z1, .ref z2, .ref z3, .ref z4, .int (nI np), .ref z5, .ref z6, .int (nI nj1)])), (z1, .inl (Y 0, 20, .inl sn)), (z2, .inl (Y 0, 20, .inl ic)), (z3, .inl (Y 2, 24, .inr (.inr (.inr (.inr wr))))), (z4, .inl (Y 2, 5, .inr (.inr (.inr (.inr pr))))), (z5, .inl (Y 0, 5, .inl st)), (z6, .inl (Y 2, 30, .inr (.inr (.inr (.inr jw)))))] (pl Y L N F)))
/-! each thing done keeps what holds -/
section
variable {wa da gu pa fl sn ic ru st jr ln pt fa ho : fN} {wt : Int32} {tm np nj k : Nat} {L : List Nat} {N : Nat → Nat} {F : Nat → fN} {wr pr jw : Nat → Option Nat}
theorem upd_all {P : Int32 → Prop} {f : fN} {k : Nat} {v : Int32} (h : ∀ i, P (f i)) (hv : P v) : ∀ i, P (upd f k v i) := by
  intro i
  by_cases c : i = k
  · subst c; rw [upd_s]; exact hv
  · rw [upd_n _ _ c]; exact h i
theorem upd_lt {P : Int32 → Prop} {f : fN} {n : Nat} {v : Int32} (h : ∀ i, i < n → P (f i)) (hv : P v) : ∀ i, i < n + 1 → P (upd f n v i) := by
  intro i hi
  by_cases c : i = n
  · subst c; rw [upd_s]; exact hv
  · rw [upd_n _ _ c]; exact h i (by omega)
theorem upd_ge {f : fN} {n m k : Nat} {v : Int32} (h : ∀ i, n ≤ i → f i = 0) (hnm : n ≤ m) (hk : k < m) : ∀ i, m ≤ i → upd f k v i = 0 := by
  intro i hi
  rw [upd_n _ _ (by omega)]
  exact h i (by omega)
theorem LINV.wea {c : Nat} {v1 v2 v3 : Int32} (h : LINV wa da gu pa fl sn ic ru st jr pt fa wt tm np nj k) (n1 : ¬ (v1 < -30 ∨ 20 < v1)) (n2 : ¬ (v2 < 0 ∨ 100 < v2)) (n3 : ¬ (v3 < -9 ∨ 9 < v3)) : LINV (upd wa c v1) (upd da c v2) (upd gu c v3) pa fl sn ic ru st jr pt fa wt tm np nj k := by
  obtain ⟨⟨a1, a2, a3, a4, a5, a6, a7, a8, a9⟩, h2, h⟩ := h
  exact ⟨⟨upd_all (P := fun x => ¬ (x < -30 ∨ 20 < x)) a1 n1, upd_all (P := fun x => ¬ (x < 0 ∨ 100 < x)) a2 n2, a3, a4, a5, a6, a7, a8, a9⟩, upd_all (P := fun x => ¬ (x < -9 ∨ 9 < x)) h2 n3, h⟩
theorem PINV.wea {c q : Nat} {f : fN} (h : PINV L N F wr pr jw wa da gu pa fl ru jr ln pt fa ho np nj) (hq : q ∉ L) : PINV (q :: L) (va_up N q 3) (va_up F q f) (va_up wr c (some q)) pr jw (upd wa c (f 0)) (upd da c (f 1)) (upd gu c (f 2)) pa fl ru jr ln pt fa ho np nj := by
  obtain ⟨h1, h2, h3, h4, h5⟩ := h
  refine ⟨fun i hi => ?_, fun i hi => ?_, fun i hi => ?_, fun i j hi hj => ?_, h5⟩
  · by_cases e : i = c
    · subst e
      exact ⟨q, va_up_self _ _ _, List.mem_cons_self, va_up_self _ _ _, by rw [va_up_self, upd_s], by rw [va_up_self, upd_s], by rw [va_up_self, upd_s]⟩
    · obtain ⟨a, b1, b2, b3, b4, b5, b6⟩ := h1 i hi
      have ha : a ≠ q := fun e => hq (e ▸ b2)
      exact ⟨a, by rw [va_up_ne _ _ e]; exact b1, List.mem_cons_of_mem _ b2, by rw [va_up_ne _ _ ha]; exact b3, by rw [va_up_ne _ _ ha, upd_n _ _ e]; exact b4, by rw [va_up_ne _ _ ha, upd_n _ _ e]; exact b5, by rw [va_up_ne _ _ ha, upd_n _ _ e]; exact b6⟩
  · obtain ⟨a, b1, b2, b3, b4, b5, b6⟩ := h2 i hi
    have ha : a ≠ q := fun e => hq (e ▸ b2)
    exact ⟨a, b1, List.mem_cons_of_mem _ b2, by rw [va_up_ne _ _ ha]; exact b3, by rw [va_up_ne _ _ ha]; exact b4, by rw [va_up_ne _ _ ha]; exact b5, by rw [va_up_ne _ _ ha]; exact b6⟩
  · obtain ⟨a, b1, b2, b3, b4, b5, b6, b7, b8⟩ := h3 i hi
    have ha : a ≠ q := fun e => hq (e ▸ b2)
    exact ⟨a, b1, List.mem_cons_of_mem _ b2, by rw [va_up_ne _ _ ha]; exact b3, by rw [va_up_ne _ _ ha]; exact b4, by rw [va_up_ne _ _ ha]; exact b5, by rw [va_up_ne _ _ ha]; exact b6, by rw [va_up_ne _ _ ha]; exact b7, by rw [va_up_ne _ _ ha]; exact b8⟩
  · by_cases e : j = c
    · subst e
      rw [va_up_self]
      obtain ⟨a, b1, b2, -⟩ := h2 i hi
      rw [b1]
      exact fun e => hq ((Option.some.inj e) ▸ b2)
    · rw [va_up_ne _ _ e]; exact h4 i j hi hj
theorem LINV.pump {v0 v1 : Int32} (h : LINV wa da gu pa fl sn ic ru st jr pt fa wt tm np nj k) (hn : np < 5) (n0 : inP v0) (n1 : ¬ (v1 < 1 ∨ 9 < v1)) : LINV wa da gu (upd pa np v0) (upd fl np v1) sn ic ru st jr pt fa wt tm (np + 1) nj k := by
  obtain ⟨⟨a1, a2, a3, a4, a5, a6, a7, a8, a9⟩, h⟩ := h
  exact ⟨⟨a1, a2, upd_lt (P := inP) a3 n0, upd_lt (P := fun x => ¬ (x < 1 ∨ 9 < x)) a4 n1, a5, fun i hi => a6 i (by omega), a7, a8, by omega⟩, h⟩
theorem PINV.pump {q : Nat} {f : fN} {v0 v1 : Int32} (h : PINV L N F wr pr jw wa da gu pa fl ru jr ln pt fa ho np nj) (hq : q ∉ L) (e0 : f 0 = v0) (e1 : f 1 = v1) (e2 : f 2 = ru np) : PINV (q :: L) (va_up N q 3) (va_up F q f) wr (va_up pr np (some q)) jw wa da gu (upd pa np v0) (upd fl np v1) ru jr ln pt fa ho (np + 1) nj := by
  obtain ⟨h1, h2, h3, h4, h5⟩ := h
  have hne : ∀ i, i < np → pr i ≠ some q := fun i hi => by
    obtain ⟨a, b1, b2, -⟩ := h2 i hi
    rw [b1]
    exact fun e => hq ((Option.some.inj e) ▸ b2)
  refine ⟨fun i hi => ?_, fun i hi => ?_, fun i hi => ?_, fun i j hi hj => ?_, fun i j hi hj => ?_⟩
  · obtain ⟨a, b1, b2, b3, b4, b5, b6⟩ := h1 i hi
    have ha : a ≠ q := fun e => hq (e ▸ b2)
    exact ⟨a, b1, List.mem_cons_of_mem _ b2, by rw [va_up_ne _ _ ha]; exact b3, by rw [va_up_ne _ _ ha]; exact b4, by rw [va_up_ne _ _ ha]; exact b5, by rw [va_up_ne _ _ ha]; exact b6⟩
  · by_cases e : i = np
    · subst e
      exact ⟨q, va_up_self _ _ _, List.mem_cons_self, va_up_self _ _ _, by rw [va_up_self, upd_s]; exact e0, by rw [va_up_self, upd_s]; exact e1, by rw [va_up_self]; exact e2⟩
    · obtain ⟨a, b1, b2, b3, b4, b5, b6⟩ := h2 i (by omega)
      have ha : a ≠ q := fun e => hq (e ▸ b2)
      exact ⟨a, by rw [va_up_ne _ _ e]; exact b1, List.mem_cons_of_mem _ b2, by rw [va_up_ne _ _ ha]; exact b3, by rw [va_up_ne _ _ ha, upd_n _ _ e]; exact b4, by rw [va_up_ne _ _ ha, upd_n _ _ e]; exact b5, by rw [va_up_ne _ _ ha]; exact b6⟩
  · obtain ⟨a, b1, b2, b3, b4, b5, b6, b7, b8⟩ := h3 i hi
    have ha : a ≠ q := fun e => hq (e ▸ b2)
    exact ⟨a, b1, List.mem_cons_of_mem _ b2, by rw [va_up_ne _ _ ha]; exact b3, by rw [va_up_ne _ _ ha]; exact b4, by rw [va_up_ne _ _ ha]; exact b5, by rw [va_up_ne _ _ ha]; exact b6, by rw [va_up_ne _ _ ha]; exact b7, by rw [va_up_ne _ _ ha]; exact b8⟩
  · by_cases e : i = np
    · subst e
      rw [va_up_self]
      obtain ⟨a, b1, b2, -⟩ := h1 j hj
      rw [b1]
      exact fun e => hq ((Option.some.inj e).symm ▸ b2)
    · rw [va_up_ne _ _ e]; exact h4 i j (by omega) hj
  · by_cases e : i = np <;> by_cases e' : j = np
    · intro _; omega
    · subst e
      rw [va_up_self, va_up_ne _ _ e']
      exact fun q9 => absurd q9.symm (hne j (by omega))
    · subst e'
      rw [va_up_self, va_up_ne _ _ e]
      exact fun q9 => absurd q9 (hne i (by omega))
    · rw [va_up_ne _ _ e, va_up_ne _ _ e']
      exact h5 i j (by omega) (by omega)
theorem LINV.run {c : Nat} (h : LINV wa da gu pa fl sn ic ru st jr pt fa wt tm np nj k) (hc : c < np) : LINV wa da gu pa fl sn ic (upd ru c (bi (ru c = 0))) st jr pt fa wt tm np nj k := by
  obtain ⟨⟨a1, a2, a3, a4, a5, a6, a7, a8, a9⟩, h⟩ := h
  exact ⟨⟨a1, a2, a3, a4, upd_all (P := fun x => x = 0 ∨ x = 1) a5 (bi_01 _), upd_ge a6 (Nat.le_refl _) hc, a7, a8, a9⟩, h⟩
theorem PINV.run {c a9 : Nat} {v : Int32} (h : PINV L N F wr pr jw wa da gu pa fl ru jr ln pt fa ho np nj) (hc : c < np) (ha9 : pr c = some a9) (hN9 : N a9 = 3) : PINV L N (va_up F a9 (upd (F a9) 2 v)) wr pr jw wa da gu pa fl (upd ru c v) jr ln pt fa ho np nj := by
  obtain ⟨h1, h2, h3, h4, h5⟩ := h
  refine ⟨fun i hi => ?_, fun i hi => ?_, fun i hi => ?_, h4, h5⟩
  · obtain ⟨a, b1, b2, b3, b4, b5, b6⟩ := h1 i hi
    have ha : a ≠ a9 := fun e => h4 c i hc hi (by rw [ha9, b1, e])
    exact ⟨a, b1, b2, b3, by rw [va_up_ne _ _ ha]; exact b4, by rw [va_up_ne _ _ ha]; exact b5, by rw [va_up_ne _ _ ha]; exact b6⟩
  · obtain ⟨a, b1, b2, b3, b4, b5, b6⟩ := h2 i hi
    by_cases e : i = c
    · subst e
      have ha : a = a9 := Option.some.inj (b1.symm.trans ha9)
      subst ha
      exact ⟨a, b1, b2, b3, by rw [va_up_self, upd_n _ _ (by omega)]; exact b4, by rw [va_up_self, upd_n _ _ (by omega)]; exact b5, by rw [va_up_self, upd_s, upd_s]⟩
    · have ha : a ≠ a9 := fun e9 => e (h5 i c hi hc (by rw [ha9, b1, e9]))
      exact ⟨a, b1, b2, b3, by rw [va_up_ne _ _ ha]; exact b4, by rw [va_up_ne _ _ ha]; exact b5, by rw [va_up_ne _ _ ha, upd_n _ _ e]; exact b6⟩
  · obtain ⟨a, b1, b2, b3, b4, b5, b6, b7, b8⟩ := h3 i hi
    have ha : a ≠ a9 := fun e => by rw [e, hN9] at b3; omega
    exact ⟨a, b1, b2, b3, by rw [va_up_ne _ _ ha]; exact b4, by rw [va_up_ne _ _ ha]; exact b5, by rw [va_up_ne _ _ ha]; exact b6, by rw [va_up_ne _ _ ha]; exact b7, by rw [va_up_ne _ _ ha]; exact b8⟩
theorem LINV.fill {x : Nat} (h : LINV wa da gu pa fl sn ic ru st jr pt fa wt tm np nj k) (hx : x ≤ 9999) : LINV wa da gu pa fl sn ic ru st jr pt fa (mnI (wt + nI x) 9999) tm np nj k := by
  obtain ⟨h1, h2, h3, h4, h5, h6, h7, h8, h9, h10, q, hq, e⟩ := h
  refine ⟨h1, h2, h3, h4, h5, h6, h7, h8, h9, h10, ?_⟩
  rw [e, nI_add]
  unfold mnI
  split
  · exact ⟨9999, Nat.le_refl _, rfl⟩
  · rename_i c; exact ⟨q + x, nngt (N := 9999) (by decide) (by omega) c, rfl⟩
theorem LINV.judge {c : Nat} {v : Int32} (h : LINV wa da gu pa fl sn ic ru st jr pt fa wt tm np nj k) (hv : ∃ j : Nat, j ≤ 4 ∧ v = nI j) : LINV wa da gu pa fl sn ic ru (upd st c v) jr pt fa wt tm np nj k := by
  obtain ⟨h1, h2, h3, h⟩ := h
  refine ⟨h1, h2, fun i hi => ?_, h⟩
  by_cases e : i = c
  · subst e; rw [upd_s]; exact hv
  · rw [upd_n _ _ e]; exact h3 i hi
theorem LINV.hill {sn' ic' : fN} (h : LINV wa da gu pa fl sn ic ru st jr pt fa wt tm np nj k) (h1 : SR sn') (h2 : IR ic') : LINV wa da gu pa fl sn' ic' ru st jr pt fa wt tm np nj k := by
  obtain ⟨⟨a1, a2, a3, a4, a5, a6, a7, a8, a9⟩, h⟩ := h
  exact ⟨⟨a1, a2, a3, a4, a5, a6, h1, h2, a9⟩, h⟩
theorem LINV.hour {tm' k' : Nat} (h : LINV wa da gu pa fl sn ic ru st jr pt fa wt tm np nj k) (ht : tm' ≤ k') : LINV wa da gu pa fl sn ic ru st jr pt fa wt tm' np nj k' := by
  obtain ⟨h1, h2, h3, h4, h5, h⟩ := h
  exact ⟨h1, h2, h3, h4, ht, h⟩
theorem LINV.jump {w q f : Nat} {c : Nat} (h : LINV wa da gu pa fl sn ic ru st jr pt fa wt tm np nj k) (hj : nj < 30) (hc : c < 20) (hw : w < 10) (hq : q ≤ 159) (hf : f ≤ 1) : LINV wa da gu pa fl (upd sn c (mxI 0 (sn c - 3))) ic ru st (upd jr nj (nI w)) (upd pt nj (nI q)) (upd fa nj (nI f)) wt tm np (nj + 1) k := by
  obtain ⟨⟨a1, a2, a3, a4, a5, a6, a7, a8, a9⟩, h2, h3, h4, h5, h6, h7, h8, h9, h10, h11⟩ := h
  obtain ⟨a, ha, e⟩ := a7 c hc
  refine ⟨⟨a1, a2, a3, a4, a5, a6, SR_upd a7 (by rw [e]; exact sub_max ha (by decide) (by decide)), a8, a9⟩, h2, h3, by omega, h5, upd_ge h6 (by omega) (by omega), upd_ge h7 (by omega) (by omega), upd_lt (P := fun x => ∃ q : Nat, q ≤ 159 ∧ x = nI q) h8 ⟨q, hq, rfl⟩, upd_lt (P := fun x => ∃ w : Nat, w < 10 ∧ x = nI w) h9 ⟨w, hw, rfl⟩, upd_all (P := fun x => x = 0 ∨ x = 1) h10 ?_, h11⟩
  rcases (show f = 0 ∨ f = 1 by omega) with rfl | rfl
  · exact Or.inl rfl
  · exact Or.inr rfl
theorem PINV.jump {q : Nat} {f : fN} {v0 v1 v2 v3 v4 : Int32} (h : PINV L N F wr pr jw wa da gu pa fl ru jr ln pt fa ho np nj) (hq : q ∉ L) (e0 : f 0 = v0) (e1 : f 1 = v1) (e2 : f 2 = v2) (e3 : f 3 = v3) (e4 : f 4 = v4) : PINV (q :: L) (va_up N q 5) (va_up F q f) wr pr (va_up jw nj (some q)) wa da gu pa fl ru (upd jr nj v0) (upd ln nj v1) (upd pt nj v2) (upd fa nj v3) (upd ho nj v4) np (nj + 1) := by
  obtain ⟨h1, h2, h3, h4, h5⟩ := h
  refine ⟨fun i hi => ?_, fun i hi => ?_, fun i hi => ?_, h4, h5⟩
  · obtain ⟨a, b1, b2, b3, b4, b5, b6⟩ := h1 i hi
    have ha : a ≠ q := fun e => hq (e ▸ b2)
    exact ⟨a, b1, List.mem_cons_of_mem _ b2, by rw [va_up_ne _ _ ha]; exact b3, by rw [va_up_ne _ _ ha]; exact b4, by rw [va_up_ne _ _ ha]; exact b5, by rw [va_up_ne _ _ ha]; exact b6⟩
  · obtain ⟨a, b1, b2, b3, b4, b5, b6⟩ := h2 i hi
    have ha : a ≠ q := fun e => hq (e ▸ b2)
    exact ⟨a, b1, List.mem_cons_of_mem _ b2, by rw [va_up_ne _ _ ha]; exact b3, by rw [va_up_ne _ _ ha]; exact b4, by rw [va_up_ne _ _ ha]; exact b5, by rw [va_up_ne _ _ ha]; exact b6⟩
  · by_cases e : i = nj
    · subst e
      exact ⟨q, va_up_self _ _ _, List.mem_cons_self, va_up_self _ _ _, by rw [va_up_self, upd_s]; exact e0, by rw [va_up_self, upd_s]; exact e1, by rw [va_up_self, upd_s]; exact e2, by rw [va_up_self, upd_s]; exact e3, by rw [va_up_self, upd_s]; exact e4⟩
    · obtain ⟨a, b1, b2, b3, b4, b5, b6, b7, b8⟩ := h3 i (by omega)
      have ha : a ≠ q := fun e => hq (e ▸ b2)
      exact ⟨a, by rw [va_up_ne _ _ e]; exact b1, List.mem_cons_of_mem _ b2, by rw [va_up_ne _ _ ha]; exact b3, by rw [va_up_ne _ _ ha, upd_n _ _ e]; exact b4, by rw [va_up_ne _ _ ha, upd_n _ _ e]; exact b5, by rw [va_up_ne _ _ ha, upd_n _ _ e]; exact b6, by rw [va_up_ne _ _ ha, upd_n _ _ e]; exact b7, by rw [va_up_ne _ _ ha, upd_n _ _ e]; exact b8⟩
end
