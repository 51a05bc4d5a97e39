/-! SPEC of the law's own hill: insertion sort, rows of the pool, the marks -/
def insAt (x : Int32) : Nat → fN → fN
  | 0, f => upd f 0 x
  | k + 1, f => if x < f k then insAt x k (upd f (k + 1) (f k)) else upd f (k + 1) x
/-- the first n places sorted, one after another -/
def sortP (f : fN) : Nat → fN
  | 0 => f
  | n + 1 => insAt (sortP f n n) n (sortP f n)
theorem upd_id (f : fN) (k : Nat) : upd f k (f k) = f := by
  funext j
  by_cases h : j = k
  · subst h; exact upd_s _ _ _
  · exact upd_n _ _ h
theorem upd_upd (f : fN) (k : Nat) (x y : Int32) : upd (upd f k x) k y = upd f k y := by
  funext j
  by_cases h : j = k
  · subst h; rw [upd_s, upd_s]
  · rw [upd_n _ _ h, upd_n _ _ h, upd_n _ _ h]
theorem sortP_1 (f : fN) : f = sortP f 1 := (upd_id f 0).symm
theorem insAt_lt {x : Int32} {k : Nat} {f : fN} (h : x < f k) : insAt x (k + 1) f = insAt x k (upd f (k + 1) (f k)) := if_pos h
theorem insAt_ge {x : Int32} {k : Nat} {f : fN} (h : f k ≤ x) : insAt x (k + 1) f = upd f (k + 1) x := if_neg (Int32.not_lt.mpr h)
theorem neg1 {j : Nat} (hj : j < 2 ^ 31) (h : nI j + (-1) < 0) : j = 0 := by
  cases j with
  | zero => rfl
  | succ n => rw [pk_m1] at h; exact absurd h (nI_pos (by omega))
theorem nneg1 {j : Nat} (h : ¬ nI j + (-1) < 0) : ∃ q, j = q + 1 := by
  cases j with
  | zero => exact absurd (by decide) h
  | succ n => exact ⟨n, rfl⟩
theorem sub0 (x : Int32) : x - 0 = x := by simp
/-- the law's hill: where its rows lie in the pool -/
def WR (L : List Nat) (N : Nat → Nat) (F : Nat → fN) (wr : Nat → Option Nat) (wa da gu : fN) : Prop := ∀ k, k < 24 → ∃ a, wr k = some a ∧ a ∈ L ∧ N a = 3 ∧ F a 0 = wa k ∧ F a 1 = da k ∧ F a 2 = gu k
def PR (L : List Nat) (N : Nat → Nat) (F : Nat → fN) (pr : Nat → Option Nat) (pa fl ru : fN) (np : Nat) : Prop := ∀ k, k < np → ∃ a, pr k = some a ∧ a ∈ L ∧ N a = 3 ∧ F a 0 = pa k ∧ F a 1 = fl k ∧ F a 2 = ru k
def JR (L : List Nat) (N : Nat → Nat) (F : Nat → fN) (jw : Nat → Option Nat) (jr ln pt fa ho : fN) (nj : Nat) : Prop := ∀ k, k < nj → ∃ a, jw k = some a ∧ a ∈ L ∧ N a = 5 ∧ F a 0 = jr k ∧ F a 1 = ln k ∧ F a 2 = pt k ∧ F a 3 = fa k ∧ F a 4 = ho k
theorem lay_le {sn : fN} {x mo : Int32} (h : inP x) (c : sn x.toNatClampNeg + mo ≤ 300) : upd sn x.toNatClampNeg (sn x.toNatClampNeg + mo) = layU sn x mo := by
  rw [← layU_t h]
  unfold mnI
  rw [if_neg (Int32.not_lt.mpr c)]
theorem lay_gt {sn : fN} {x mo : Int32} (h : inP x) (c : ¬ sn x.toNatClampNeg + mo ≤ 300) : upd (upd sn x.toNatClampNeg (sn x.toNatClampNeg + mo)) x.toNatClampNeg 300 = layU sn x mo := by
  rw [← layU_t h, upd_upd]
  unfold mnI
  rw [if_pos (Int32.not_le.mp c)]
theorem i9 {x : Int32} : ¬ x ≤ 9 ↔ 10 ≤ x := by
  rw [i_le, i_le]
  have h1 : (9 : Int32).toInt = 9 := rfl
  have h2 : (10 : Int32).toInt = 10 := rfl
  omega
theorem len_0 {v : Int32} (h : ¬ 0 ≤ v) : (0 : Int32) = mxI 0 (mnI v 99) := by
  have h1 : v < 0 := Int32.not_le.mp h
  unfold mnI
  rw [if_neg (fun q => by
    have := Int32.lt_trans (Int32.lt_trans (show (0 : Int32) < 99 by decide) q) h1
    exact Int32.lt_irrefl this)]
  unfold mxI
  rw [if_neg (fun q => Int32.lt_irrefl (Int32.lt_trans q h1))]
theorem len_99 {v : Int32} (h : ¬ v ≤ 99) : (99 : Int32) = mxI 0 (mnI v 99) := by
  unfold mnI
  rw [if_pos (Int32.not_le.mp h)]
  rfl
theorem len_v {v : Int32} (h : 0 ≤ v) (h2 : v ≤ 99) : v = mxI 0 (mnI v 99) := by
  unfold mnI
  rw [if_neg (Int32.not_lt.mpr h2)]
  unfold mxI
  split
  · rfl
  · rename_i c; exact Int32.le_antisymm (Int32.not_lt.mp c) h
theorem mx0_ge {v : Int32} (h : 0 ≤ v) : v = mxI 0 v := by
  unfold mxI
  split
  · rfl
  · rename_i c; exact Int32.le_antisymm (Int32.not_lt.mp c) h
theorem mx0_lt {v : Int32} (h : ¬ 0 ≤ v) : (0 : Int32) = mxI 0 v := by
  unfold mxI
  rw [if_neg (fun q => Int32.lt_irrefl (Int32.lt_trans q (Int32.not_le.mp h)))]
/-- the points of one jumper among the jumps 0 .. i - 1, by their numbers -/
def ptsU (jr pt : fN) (who : Int32) (i : Nat) : fN := fun k => if k < i ∧ jr k = who then pt k else 0
theorem ptsU_0 (jr pt : fN) (who : Int32) : (fun _ => 0) = ptsU jr pt who 0 := by funext k; simp [ptsU]
theorem ptsU_n {jr pt : fN} {who : Int32} {i : Nat} (h : ¬ jr i = who) : ptsU jr pt who i = ptsU jr pt who (i + 1) := by
  funext k
  unfold ptsU
  by_cases c : k = i
  · subst c; rw [if_neg (fun q => absurd q.1 (Nat.lt_irrefl _)), if_neg (fun q => h q.2)]
  · by_cases c2 : k < i ∧ jr k = who
    · rw [if_pos c2, if_pos ⟨by omega, c2.2⟩]
    · rw [if_neg c2, if_neg (fun q => c2 ⟨by omega, q.2⟩)]
theorem ptsU_y {jr pt : fN} {who : Int32} {i : Nat} (h : jr i = who) : upd (ptsU jr pt who i) i (pt i) = ptsU jr pt who (i + 1) := by
  funext k
  by_cases c : k = i
  · subst c; rw [upd_s]; unfold ptsU; rw [if_pos ⟨by omega, h⟩]
  · rw [upd_n _ _ c]
    unfold ptsU
    by_cases c2 : k < i ∧ jr k = who
    · rw [if_pos c2, if_pos ⟨by omega, c2.2⟩]
    · rw [if_neg c2, if_neg (fun q => c2 ⟨by omega, q.2⟩)]
/-! what sorting leaves at the top -/
theorem ins_top (x : Int32) (k : Nat) (f : fN) : insAt x (k + 1) f (k + 1) = if x < f k then f k else x := by
  by_cases h : x < f k
  · rw [insAt_lt h, if_pos h]
    have key : ∀ (n : Nat) (g : fN), n < k + 1 → insAt x n g (k + 1) = g (k + 1) := by
      intro n
      induction n with
      | zero => intro g _; exact upd_n _ _ (by omega)
      | succ n ih =>
        intro g hn
        unfold insAt
        split
        · rw [ih _ (by omega)]; exact upd_n _ _ (by omega)
        · exact upd_n _ _ (by omega)
    rw [key k _ (by omega)]; exact upd_s _ _ _
  · rw [insAt_ge (Int32.not_lt.mp h), if_neg h]; exact upd_s _ _ _
theorem ins_hi (x : Int32) : ∀ (n m : Nat) (g : fN), n < m → insAt x n g m = g m := by
  intro n
  induction n with
  | zero => intro m g h; exact upd_n _ _ (by omega)
  | succ n ih =>
    intro m g h
    unfold insAt
    split
    · rw [ih _ _ (by omega)]; exact upd_n _ _ (by omega)
    · exact upd_n _ _ (by omega)
theorem ins_snd (x : Int32) (k : Nat) (f : fN) : insAt x (k + 2) f (k + 1) = if x < f (k + 1) then (if x < f k then f k else x) else f (k + 1) := by
  by_cases h : x < f (k + 1)
  · rw [insAt_lt h, if_pos h, ins_top, upd_n _ _ (by omega)]
  · rw [insAt_ge (Int32.not_lt.mp h), if_neg h]; exact upd_n _ _ (by omega)
theorem sortP_hi (f : fN) : ∀ n m, n ≤ m → sortP f n m = f m := by
  intro n
  induction n with
  | zero => intro m _; rfl
  | succ n ih => intro m h; show insAt _ n _ m = _; rw [ins_hi _ _ _ _ (by omega)]; exact ih m (by omega)
/-- the best and the second of f 0 .. f (n - 1), no number below 0 -/
def t2U (f : fN) : Nat → Int32 × Int32
  | 0 => (0, 0)
  | n + 1 => (mxI (t2U f n).1 (f n), mxI (t2U f n).2 (mnI (t2U f n).1 (f n)))
theorem t2_ok {f : fN} (h0 : ∀ k, 0 ≤ f k) : ∀ n, 0 ≤ (t2U f n).2 ∧ (t2U f n).2 ≤ (t2U f n).1 := by
  intro n
  induction n with
  | zero => exact ⟨Int32.le_refl _, Int32.le_refl _⟩
  | succ n ih =>
    obtain ⟨h1, h2⟩ := ih
    have h3 := h0 n
    simp only [t2U]
    unfold mxI mnI
    simp only [i_le, i_lt] at *
    have e0 : (0 : Int32).toInt = 0 := rfl
    constructor <;> (repeat' split) <;> omega
theorem sort_top {f : fN} (h0 : ∀ k, 0 ≤ f k) : ∀ n, sortP f (n + 2) (n + 1) = (t2U f (n + 2)).1 ∧ sortP f (n + 2) n = (t2U f (n + 2)).2 := by
  intro n
  induction n with
  | zero =>
    have ha := h0 0
    have hb := h0 1
    have e1 : sortP f 2 = insAt (f 1) 1 f := by show insAt (sortP f 1 1) 1 (sortP f 1) = _; rw [← sortP_1]
    have e2 : insAt (f 1) 1 f 0 = if f 1 < f 0 then f 1 else f 0 := by
      unfold insAt
      split
      · exact upd_s _ _ _
      · exact upd_n _ _ (by omega)
    rw [e1, ins_top, e2]
    simp only [t2U]
    unfold mxI mnI
    simp only [i_le, i_lt, i_eq] at *
    have e0 : (0 : Int32).toInt = 0 := rfl
    constructor <;> (repeat' split) <;> omega
  | succ n ih =>
    obtain ⟨h1, h2⟩ := ih
    have hx : sortP f (n + 2) (n + 2) = f (n + 2) := sortP_hi f _ _ (Nat.le_refl _)
    have e1 : sortP f (n + 3) = insAt (f (n + 2)) (n + 2) (sortP f (n + 2)) := by show insAt (sortP f (n + 2) (n + 2)) _ _ = _; rw [hx]
    have hk := t2_ok h0 (n + 2)
    have hb := h0 (n + 2)
    rw [e1, ins_top, ins_snd, h1, h2]
    show _ = mxI (t2U f (n + 2)).1 (f (n + 2)) ∧ _ = mxI (t2U f (n + 2)).2 (mnI (t2U f (n + 2)).1 (f (n + 2)))
    generalize (t2U f (n + 2)).1 = B at *
    generalize (t2U f (n + 2)).2 = S at *
    unfold mxI mnI
    simp only [i_le, i_lt, i_eq] at *
    have e0 : (0 : Int32).toInt = 0 := rfl
    constructor <;> (repeat' split) <;> omega
theorem pts_nn {jr pt : fN} {who : Int32} {nj : Nat} (h0 : ∀ k, k < nj → 0 ≤ pt k) : ∀ k, 0 ≤ ptsU jr pt who nj k := by
  intro k
  unfold ptsU
  split
  · rename_i c; exact h0 k c.1
  · exact Int32.le_refl _
theorem t2_pts {jr pt : fN} {who : Int32} {nj : Nat} (h0 : ∀ k, k < nj → 0 ≤ pt k) : ∀ n, n ≤ nj → t2U (ptsU jr pt who nj) n = btU jr pt who n := by
  intro n
  induction n with
  | zero => intro _; rfl
  | succ n ih =>
    intro hn
    have e : t2U (ptsU jr pt who nj) (n + 1) = (mxI (btU jr pt who n).1 (ptsU jr pt who nj n), mxI (btU jr pt who n).2 (mnI (btU jr pt who n).1 (ptsU jr pt who nj n))) := by
      show (mxI (t2U (ptsU jr pt who nj) n).1 _, _) = _
      rw [ih (by omega)]
    have hk := t2_ok (f := ptsU jr pt who nj) (pts_nn h0) n
    rw [ih (by omega)] at hk
    rw [e]
    by_cases c : jr n = who
    · rw [btU_t c]; unfold ptsU; rw [if_pos ⟨by omega, c⟩]
    · rw [btU_f c]; unfold ptsU; rw [if_neg (fun q => c q.2)]
      obtain ⟨h1, h2⟩ := hk
      have h3 := Int32.le_trans h1 h2
      have g1 : mxI (btU jr pt who n).1 0 = (btU jr pt who n).1 := by rw [mxI_comm]; exact (mx0_ge h3).symm
      have g2 : mnI (btU jr pt who n).1 0 = 0 := by
        unfold mnI
        split
        · rfl
        · rename_i c2; exact Int32.le_antisymm (Int32.not_lt.mp c2) h3
      rw [g1, g2, mxI_comm, (mx0_ge h1).symm]
theorem t2_0 {f : fN} {n : Nat} (h0 : ∀ k, 0 ≤ f k) (hz : ∀ k, n ≤ k → f k = 0) : ∀ m, t2U f (n + m) = t2U f n := by
  intro m
  induction m with
  | zero => rfl
  | succ m ih =>
    show (mxI (t2U f (n + m)).1 (f (n + m)), mxI (t2U f (n + m)).2 (mnI (t2U f (n + m)).1 (f (n + m)))) = _
    rw [hz _ (by omega), ih]
    obtain ⟨h1, h2⟩ := t2_ok h0 n
    have h3 := Int32.le_trans h1 h2
    have g2 : mnI (t2U f n).1 0 = 0 := by
      unfold mnI
      split
      · rfl
      · rename_i c2; exact Int32.le_antisymm (Int32.not_lt.mp c2) h3
    rw [mxI_comm, (mx0_ge h3).symm, g2, mxI_comm, (mx0_ge h1).symm]
/-- the best two, by sorting -/
theorem score_sort {jr pt : fN} {who : Int32} {nj : Nat} (hnj : nj ≤ 30) (h0 : ∀ k, k < nj → 0 ≤ pt k) : sortP (ptsU jr pt who nj) 32 31 + sortP (ptsU jr pt who nj) 32 30 = scU jr pt nj who := by
  have hp : ∀ k, 0 ≤ ptsU jr pt who nj k := pts_nn h0
  obtain ⟨h1, h2⟩ := sort_top hp 30
  have e := t2_0 (n := nj) hp (fun k hk => by unfold ptsU; rw [if_neg (fun q => absurd q.1 (by omega))]) (32 - nj)
  rw [show nj + (32 - nj) = 32 by omega, t2_pts h0 nj (Nat.le_refl _)] at e
  rw [h1, h2, e]
  rfl
