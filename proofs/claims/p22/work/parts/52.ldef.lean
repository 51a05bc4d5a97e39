/-! THE LAW'S BODY: what holds of the machine, what a place owes -/
def LF (p : Program) (l : Launch) (s : State) (m : MethodId) (args : Array Value) (meth : Method) (c : Code) (A : Nat → Prop) (D : va_G) (Y : Nat → ClassId) (b Ls : Nat) (xs : Nat → Int32) : Prop :=
  l.stackTraces = false ∧ p.tables.exec = Jvm.exec ∧ c.code = cL_law ∧ meth.sig.returnType = some .boolean ∧ c.maxLocals = 29 ∧ s.vm.findClass RL = some m.cls ∧ (∀ w ∈ wsL_law, w.before args s = true) ∧ meth.locks = false ∧ KN D Y s ∧ EX s ∧ ZX A s s.heap ∧ (∀ q, s.heap.size ≤ q → A q) ∧ va_X b Ls xs s s.heap ∧ b < s.heap.size ∧ ¬ A b ∧ Ls ≤ 260
/-- from the loop's head on, with k in the counter, the law comes to its end -/
def LK22 (p : Program) (l : Launch) (e : Env) (s : State) (m : MethodId) (args : Array Value) (below : List Frame) (meth : Method) (c : Code) (Q : State → Prop) (A : Nat → Prop) (D : va_G) (Y : Nat → ClassId) (ad : Nat → Nat) (z z1 z2 z3 z4 z5 z6 b k : Nat) : Prop :=
  ∀ (wa : fN) (da : fN) (gu : fN) (pa : fN) (fl : fN) (sn : fN) (ic : fN) (ru : fN) (st : fN) (jr : fN) (ln : fN) (pt : fN) (fa : fN) (ho : fN) (sq : fN) (iq : fN) (rq : fN) (wt : Int32) (wb : Int32) (tbI : Int32) (tm : Nat) (np : Nat) (nj : Nat) (L : List Nat) (N : Nat → Nat) (F : Nat → fN) (wr : Nat → Option Nat) (pr : Nat → Option Nat) (jw : Nat → Option Nat) (H : Heap) (locs : List Loc) (ls : Array Slot), LINV wa da gu pa fl sn ic ru st jr pt fa wt tm np nj (30 + k) → PINV L N F wr pr jw wa da gu pa fl ru jr ln pt fa ho np nj → va_P D vwCl (wp (CW Y ad wa da gu pa fl sn ic ru st jr ln pt fa ho sq iq rq wt wb (nI np) (nI tm) tbI (nI nj)) (wp [(z, .inr (6, [.int (nI tm), .int wt, .ref z1, .ref z2, .ref z3, .ref z4, .int (nI np), .ref z5, .ref z6, .int (nI nj)])), (z1, .inl (Y 0, 20, .inl sn)), (z2, .inl (Y 0, 20, .inl ic)), (z3, .inl (Y 2, 24, .inr (.inr (.inr (.inr wr))))), (z4, .inl (Y 2, 5, .inr (.inr (.inr (.inr pr))))), (z5, .inl (Y 0, 5, .inl st)), (z6, .inl (Y 2, 30, .inr (.inr (.inr (.inr jw)))))] (pl Y L N F))) H → va_D A (wp (CW Y ad wa da gu pa fl sn ic ru st jr ln pt fa ho sq iq rq wt wb (nI np) (nI tm) tbI (nI nj)) (wp [(z, .inr (6, [.int (nI tm), .int wt, .ref z1, .ref z2, .ref z3, .ref z4, .int (nI np), .ref z5, .ref z6, .int (nI nj)])), (z1, .inl (Y 0, 20, .inl sn)), (z2, .inl (Y 0, 20, .inl ic)), (z3, .inl (Y 2, 24, .inr (.inr (.inr (.inr wr))))), (z4, .inl (Y 2, 5, .inr (.inr (.inr (.inr pr))))), (z5, .inl (Y 0, 5, .inl st)), (z6, .inl (Y 2, 30, .inr (.inr (.inr (.inr jw)))))] (pl Y L N F))) → va_S A s.heap H locs → lv_has ls 29 [(0, .ref b), (1, .ref (ad 0)), (2, .ref z), (3, .int (nI k))] → W p l e room_1 s m args below meth c H locs (115 + 6 * k) (846 + 64 * k) Q (F0 m 22 ls [])
theorem lg_self (x : Int64) : lg_cmp x x = 0 := by
  unfold lg_cmp
  rw [if_neg (fun h => Int64.lt_irrefl h), if_pos rfl]
theorem part_0 {sn ic pa : fN} {np i k : Nat} (h : i = k) : partU sn ic pa np i (ix 0) = sn k := by rw [h]; rfl
theorem part_1 {sn ic pa : fN} {np i k : Nat} (h : i = k) : partU sn ic pa np i (ix 1) = ic k := by rw [h]; rfl
theorem part_2 {sn ic pa : fN} {np i k : Nat} (h : i = k) : partU sn ic pa np i (ix 2) = cntU pa (nI k) np := by rw [h]; rfl
theorem part_3 {sn ic pa : fN} {np i k : Nat} (h : i = k) : partU sn ic pa np i (ix 3) = bi (badU sn ic k) := by rw [h]; rfl
theorem told_0 {jr ln pt fa ho : fN} {i k : Nat} (h : i = k) : tellU jr ln pt fa ho i (ix 0) = jr k := by rw [h]; rfl
theorem told_1 {jr ln pt fa ho : fN} {i k : Nat} (h : i = k) : tellU jr ln pt fa ho i (ix 1) = ln k := by rw [h]; rfl
theorem told_2 {jr ln pt fa ho : fN} {i k : Nat} (h : i = k) : tellU jr ln pt fa ho i (ix 2) = pt k := by rw [h]; rfl
theorem told_3 {jr ln pt fa ho : fN} {i k : Nat} (h : i = k) : tellU jr ln pt fa ho i (ix 3) = fa k := by rw [h]; rfl
theorem told_4 {jr ln pt fa ho : fN} {i k : Nat} (h : i = k) : tellU jr ln pt fa ho i (ix 4) = ho k := by rw [h]; rfl
theorem tFore_ok (n : Nat) {v : Int32} (h1 : 1 ≤ n) (h2 : n ≤ 96) (h : v = 4 ∨ v = 7 ∨ v = 8) : tFore (nI n) v = 0 := by
  unfold tFore
  rw [if_neg (outn (a := 1) (b := 96) (lo := 1) (hi := 96) rfl rfl h1 h2 (by decide)), if_neg]
  intro h9
  rcases h with rfl | rfl | rfl
  · exact h9.1 rfl
  · exact h9.2.1 rfl
  · exact h9.2.2 rfl
theorem tAdvise_ok {n : Nat} (h1 : 1 ≤ n) (h2 : n ≤ 96) : tAdvise (nI n) = 0 := by
  unfold tAdvise
  rw [if_neg (outn (a := 1) (b := 96) (lo := 1) (hi := 96) rfl rfl h1 h2 (by decide))]
theorem tEnough_ok {i n : Nat} (h : i < 20) (h1 : 1 ≤ n) (h2 : n ≤ 300) : tEnough (nI i) (nI n) = 0 := by
  unfold tEnough
  rw [if_neg (outn (x := i) (a := 0) (b := 19) (lo := 0) (hi := 19) rfl rfl (Nat.zero_le _) (by omega) (by decide)), if_neg (outn (x := n) (a := 1) (b := 300) (lo := 1) (hi := 300) rfl rfl h1 h2 (by decide))]
theorem tGate_ok {n : Nat} (h : n < 21) : tGate (nI n) = 0 := by
  unfold tGate
  rw [if_neg (outn (x := n) (a := 0) (b := 20) (lo := 0) (hi := 20) rfl rfl (Nat.zero_le _) (by omega) (by decide))]
