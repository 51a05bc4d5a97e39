/-! SPEC 3: the reference's rows of numbers -/
theorem bi_0n {c : Prop} [Decidable c] (h : bi (¬ c) = 0) : c := Decidable.not_not.mp (bi_0 h)
/-- the book of the jumps: five numbers each -/
def bkU (jr ln pt fa ho : fN) : fN := fun i => tellU jr ln pt fa ho (i / 5) (i % 5)
theorem bk_at {jr ln pt fa ho : fN} {k q : Nat} (hq : q < 5) : bkU jr ln pt fa ho (5 * k + q) = tellU jr ln pt fa ho k q := by
  unfold bkU
  rw [show (5 * k + q) / 5 = k by omega, show (5 * k + q) % 5 = q by omega]
theorem bk_0 {jr ln pt fa ho : fN} {k : Nat} : bkU jr ln pt fa ho (5 * k) = jr k := bk_at (q := 0) (by omega)
theorem bk_2 {jr ln pt fa ho : fN} {k : Nat} : bkU jr ln pt fa ho (5 * k + 2) = pt k := bk_at (q := 2) (by omega)
theorem bk_3 {jr ln pt fa ho : fN} {k : Nat} : bkU jr ln pt fa ho (5 * k + 3) = fa k := bk_at (q := 3) (by omega)
theorem cpyN (f g : fN) (n : Nat) : ∀ j, j < n → va_cpy f g 0 0 n j = f j := fun j h => by
  rw [pk_cpy_in (by omega) (by omega)]
  congr 1; omega
theorem bk_add {jr ln pt fa ho t : fN} {nj : Nat} : ∀ j, j < 150 → va_cpy t (bkU jr ln pt fa ho) 0 (5 * nj) 5 j = bkU (upd jr nj (t 0)) (upd ln nj (t 1)) (upd pt nj (t 2)) (upd fa nj (t 3)) (upd ho nj (t 4)) j := by
  intro j hj
  by_cases h : 5 * nj ≤ j ∧ j < 5 * nj + 5
  · rw [pk_cpy_in h.1 h.2]
    have hk : j / 5 = nj := by omega
    have hm : j = 5 * nj + j % 5 := by omega
    have hq : j % 5 < 5 := by omega
    unfold bkU
    rw [hk]
    have e : 0 + (j - 5 * nj) = j % 5 := by omega
    rw [e]
    generalize j % 5 = q at hq
    rcases (show q = 0 ∨ q = 1 ∨ q = 2 ∨ q = 3 ∨ q = 4 by omega) with rfl | rfl | rfl | rfl | rfl <;> simp [tellU, upd]
  · rw [pk_cpy_out (by omega)]
    have hk : j / 5 ≠ nj := by omega
    unfold bkU tellU
    simp [upd, hk]
/-- one pump's part of an hour -/
def stepU (pa fl ru : fN) (cold : Int32) (k : Nat) (σ : fN × fN × Int32) : fN × fN × Int32 := if ru k = 0 then σ else workU (pa k) (fl k) cold σ
theorem stepU_0 {pa fl ru : fN} {cold : Int32} {k : Nat} (σ : fN × fN × Int32) (h : ru k = 0) : σ = stepU pa fl ru cold k σ := (if_pos h).symm
theorem stepU_no {pa fl ru : fN} {cold wt : Int32} {k : Nat} {sn ic : fN} (h : ¬ ru k = 0) (h2 : ¬ fl k ≤ wt) : (sn, ic, wt) = stepU pa fl ru cold k (sn, ic, wt) := ((if_neg h).trans (workU_no h2)).symm
theorem stepU_ice {pa fl ru : fN} {cold wt : Int32} {k : Nat} {sn ic : fN} (h : ¬ ru k = 0) (h2 : fl k ≤ wt) (h3 : ¬ cold ≤ -2) : (sn, icyU ic (pa k), wt - fl k) = stepU pa fl ru cold k (sn, ic, wt) := ((if_neg h).trans (workU_ice h2 h3)).symm
theorem stepU_snow {pa fl ru : fN} {cold wt : Int32} {k : Nat} {sn ic : fN} (h : ¬ ru k = 0) (h2 : fl k ≤ wt) (h3 : cold ≤ -2) : (layU (layU (layU sn (pa k) (fl k * mnI (-cold) 8 / 2)) (pa k - 1) (fl k * mnI (-cold) 8 / 4)) (pa k + 1) (fl k * mnI (-cold) 8 / 4), ic, wt - fl k) = stepU pa fl ru cold k (sn, ic, wt) := ((if_neg h).trans (workU_snow h2 h3)).symm
theorem pumpsU_s {pa fl ru : fN} {cold : Int32} {k : Nat} (σ : fN × fN × Int32) : stepU pa fl ru cold k (pumpsU pa fl ru cold k σ) = pumpsU pa fl ru cold (k + 1) σ := rfl
theorem pumpsU_z {pa fl ru : fN} {cold : Int32} {np : Nat} (σ : fN × fN × Int32) (hz : ∀ i, np ≤ i → ru i = 0) : ∀ d, pumpsU pa fl ru cold (np + d) σ = pumpsU pa fl ru cold np σ := by
  intro d
  induction d with
  | zero => rfl
  | succ d ih => exact (pumpsU_0 σ (hz _ (Nat.le_add_right _ _))).symm.trans ih
theorem pumpsU_5 {pa fl ru : fN} {cold : Int32} {np : Nat} (σ : fN × fN × Int32) (hz : ∀ i, np ≤ i → ru i = 0) (h : np ≤ 5) : pumpsU pa fl ru cold np σ = pumpsU pa fl ru cold 5 σ := by
  have := pumpsU_z (pa := pa) (fl := fl) (cold := cold) σ hz (5 - np)
  rw [show np + (5 - np) = 5 by omega] at this
  exact this.symm
theorem sub_sw (x y z : Int32) : x - y - z = x - z - y := by
  apply Int32.toBitVec_inj.mp
  simp only [Int32.toBitVec_sub]
  generalize x.toBitVec = a
  generalize y.toBitVec = b
  generalize z.toBitVec = c
  rw [BitVec.sub_eq_add_neg, BitVec.sub_eq_add_neg, BitVec.sub_eq_add_neg, BitVec.sub_eq_add_neg, BitVec.add_assoc, BitVec.add_assoc, BitVec.add_comm (-b)]
theorem add_sub2 (x a b w : Int32) : x + a - b - w = x + (a - b - w) := by
  apply Int32.toBitVec_inj.mp
  simp only [Int32.toBitVec_sub, Int32.toBitVec_add]
  generalize x.toBitVec = x
  generalize a.toBitVec = a
  generalize b.toBitVec = b
  generalize w.toBitVec = w
  rw [BitVec.sub_eq_add_neg, BitVec.sub_eq_add_neg, BitVec.sub_eq_add_neg, BitVec.sub_eq_add_neg, BitVec.add_assoc, BitVec.add_assoc, BitVec.add_assoc]
theorem upd11 {f : fN} {x0 x1 x2 x3 x4 x5 x6 x7 x8 x9 x10 : Int32} : ∀ j, j < 11 → upd (upd (upd (upd (upd (upd (upd (upd (upd (upd (upd f 0 x0) 1 x1) 2 x2) 3 x3) 4 x4) 5 x5) 6 x6) 7 x7) 8 x8) 9 x9) 10 x10 j = if j = 0 then x0 else if j = 1 then x1 else if j = 2 then x2 else if j = 3 then x3 else if j = 4 then x4 else if j = 5 then x5 else if j = 6 then x6 else if j = 7 then x7 else if j = 8 then x8 else if j = 9 then x9 else x10 := by
  intro j hj
  rcases (show j = 0 ∨ j = 1 ∨ j = 2 ∨ j = 3 ∨ j = 4 ∨ j = 5 ∨ j = 6 ∨ j = 7 ∨ j = 8 ∨ j = 9 ∨ j = 10 by omega) with rfl | rfl | rfl | rfl | rfl | rfl | rfl | rfl | rfl | rfl | rfl <;> rfl
theorem ld_eq (jr pt : fN) (nj : Nat) : ∀ n, scU jr pt nj (ldU jr pt nj n).1 = (ldU jr pt nj n).2 := by
  intro n
  induction n with
  | zero => rfl
  | succ n ih =>
    unfold ldU
    split
    · rfl
    · exact ih
theorem nI_nm1 {k : Nat} (h : k < 2 ^ 31) : ¬ nI k = -1 := by
  intro h9
  have h1 : nI k < 0 := by rw [h9]; decide
  exact nI_pos h h1
theorem dig1_add (f : fN) (d : Int64) (a : Nat) : ∀ n, dig1 f (a + n) d = dig1 (fun i => f (a + i)) n (dig1 f a d) := by
  intro n
  induction n with
  | zero => rfl
  | succ n ih =>
    show dig1 f (a + n) d * 31 + (f (a + n)).toInt64 = _
    rw [ih]; rfl
theorem dig1_congr {f g : fN} : ∀ n d, (∀ i, i < n → f i = g i) → dig1 f n d = dig1 g n d := by
  intro n
  induction n with
  | zero => intro d _; rfl
  | succ n ih =>
    intro d h
    show dig1 f n d * 31 + (f n).toInt64 = dig1 g n d * 31 + (g n).toInt64
    rw [ih d (fun i hi => h i (by omega)), h n (by omega)]
theorem dig_book {jr ln pt fa ho : fN} (d : Int64) : ∀ nj, dig1 (bkU jr ln pt fa ho) (5 * nj) d = dig2 (tellU jr ln pt fa ho) 5 nj d := by
  intro nj
  induction nj with
  | zero => rfl
  | succ n ih =>
    rw [show 5 * (n + 1) = 5 * n + 5 by omega, dig1_add, ih]
    exact dig1_congr 5 _ (fun i hi => bk_at hi)
theorem sum_z (f : fN) (n : Nat) (hz : ∀ i, n ≤ i → f i = 0) : ∀ d, sumU f (n + d) = sumU f n := by
  intro d
  induction d with
  | zero => rfl
  | succ d ih => exact (run00 (hz _ (Nat.le_add_right _ _))).symm.trans ih
/-- the state is mended only as far as it is warm -/
theorem melt_w {w : Int32} {σ : fN × fN × Int32} {i : Nat} (h : w ≤ 0) (hz : ¬ 0 < w → i = 0) : (meltS σ.1 w i, meltI σ.2.1 i, σ.2.2) = airU w σ := by
  have hi : i = 0 := hz (Int32.not_lt.mpr h)
  subst hi
  rw [meltS_0, meltI_0]
  exact airU_0 σ h
theorem melt_20 {w : Int32} {σ : fN × fN × Int32} (hz : ¬ 0 < w → 20 = 0) : (meltS σ.1 w 20, meltI σ.2.1 20, σ.2.2) = airU w σ := by
  refine airU_1 σ (fun h => ?_)
  exact absurd (hz (Int32.not_lt.mpr h)) (by decide)
theorem flip01 {x : Int32} (h : x = 0 ∨ x = 1) : 1 - x = bi (x = 0) := by rcases h with rfl | rfl <;> rfl
