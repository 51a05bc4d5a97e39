/-! SPEC 2: grooming; the answers of the whole -/
/-- the snow of n parts from a on, added -/
def sumR (sn : fN) (a : Nat) : Nat → Int32
  | 0 => 0
  | n + 1 => sumR sn a n + sn (a + n)
def quoU (sn : fN) (a n : Nat) : Int32 := sumR sn a n / nI n
def remU (sn : fN) (a n : Nat) : Int32 := sumR sn a n - sumR sn a n / nI n * nI n
def cellU (sn : fN) (a n i : Nat) : Int32 := if nI i < remU sn a n then quoU sn a n + 1 else quoU sn a n
/-- the first k of n parts from a on are groomed -/
def grU (sn : fN) (a n k : Nat) : fN := fun i => if a ≤ i ∧ i < a + k then cellU sn a n (i - a) else sn i
def icZ (ic : fN) (a k : Nat) : fN := fun i => if a ≤ i ∧ i < a + k then 0 else ic i
theorem grU_0 (sn : fN) (a n : Nat) : grU sn a n 0 = sn := by
  funext i
  have : ¬ (a ≤ i ∧ i < a + 0) := by omega
  simp only [grU, if_neg this]
theorem icZ_0 (ic : fN) (a : Nat) : icZ ic a 0 = ic := by
  funext i
  have : ¬ (a ≤ i ∧ i < a + 0) := by omega
  simp only [icZ, if_neg this]
theorem grU_1 (sn : fN) (a n k : Nat) : upd (grU sn a n k) (a + k) (cellU sn a n k) = grU sn a n (k + 1) := by
  funext i
  simp only [grU, upd]
  by_cases h : i = a + k
  · subst h
    rw [if_pos rfl, if_pos (by omega)]
    congr 1; omega
  · rw [if_neg h]
    by_cases h2 : a ≤ i ∧ i < a + k
    · rw [if_pos h2, if_pos (by omega)]
    · rw [if_neg h2, if_neg (by omega)]
theorem icZ_1 (ic : fN) (a k : Nat) : upd (icZ ic a k) (a + k) 0 = icZ ic a (k + 1) := by
  funext i
  simp only [icZ, upd]
  by_cases h : i = a + k
  · subst h
    rw [if_pos rfl, if_pos (by omega)]
  · rw [if_neg h]
    by_cases h2 : a ≤ i ∧ i < a + k
    · rw [if_pos h2, if_pos (by omega)]
    · rw [if_neg h2, if_neg (by omega)]
theorem ngt {i N : Nat} (hN : N < 2 ^ 31) (hi : i < 2 ^ 31) (h : nI N < nI i) : N < i := (nI_ltI hN hi).mp h
theorem nngt {i N : Nat} (hN : N < 2 ^ 31) (hi : i < 2 ^ 31) (h : ¬ nI N < nI i) : i ≤ N := by
  have := mt (nI_ltI hN hi).mpr h
  omega
/-- four times the gate, twice the gust, a quarter of the style, within 0 and 99 -/
def lenU (gate gu style : Int32) : Int32 := mxI 0 (mnI (4 * gate + 2 * gu + style / 4) 99)
theorem lenU_rng (gate gu style : Int32) : ∃ k : Nat, k ≤ 99 ∧ lenU gate gu style = nI k := by
  have h0 : ¬ lenU gate gu style < 0 := by
    unfold lenU mxI
    split
    · rename_i h; exact fun h9 => Int32.lt_irrefl (Int32.lt_trans h h9)
    · exact Int32.lt_irrefl
  have h1 : lenU gate gu style ≤ nI 99 := by
    unfold lenU mxI
    split
    · unfold mnI
      split
      · exact Int32.le_refl _
      · rename_i h; exact Int32.not_lt.mp h
    · decide
  obtain ⟨k, hk, e⟩ := nI_of2 (x := lenU gate gu style) (M := nI 99) (n := 99) (nI_toInt (by decide)) h0 h1
  exact ⟨k, hk, e⟩
/-- the part of the landing -/
def landU (gate gu style : Int32) : Nat := ix (lenU gate gu style / 5)
theorem landU_eq (gate gu style : Int32) : lenU gate gu style / 5 = nI (landU gate gu style) ∧ landU gate gu style < 20 := by
  obtain ⟨k, hk, e⟩ := lenU_rng gate gu style
  have h1 : lenU gate gu style / 5 = nI (k / 5) := by
    rw [e]
    exact pk_div (a := k) (d := 5) (by omega) (by omega) (by omega)
  unfold landU
  rw [h1, ix_nI (by omega)]
  exact ⟨rfl, by omega⟩
theorem outL (f : Nat → Int64) (x : Int64) : ∀ j, j < 1 → vp_updL f 0 x j = x := fun j h => by
  have : j = 0 := by omega
  subst this
  exact if_pos rfl
