/-! SPEC 2: grooming; the answers of the whole -/
/-- the snow of n parts from a on, added -/
def sumR (sn : fN) (a : Nat) : Nat → Int32
  | 0 => 0
  | n + 1 => sumR sn a n + sn (a + n)
def quoU (sn : fN) (a n : Nat) : Int32 := sumR sn a n / nI n
def remU (sn : fN) (a n : Nat) : Int32 := sumR sn a n - sumR sn a n / nI n * nI n
def cellU (sn : fN) (a n i : Nat) : Int32 := if nI i < remU sn a n then quoU sn a n + 1 else quoU sn a n
/-- the first k of n parts from a on are groomed -/
def grU (sn : fN) (a n k : Nat) : fN := fun i => if a ≤ i ∧ i < a + k then cellU sn a n (i - a) else sn i
def icZ (ic : fN) (a k : Nat) : fN := fun i => if a ≤ i ∧ i < a + k then 0 else ic i
theorem grU_0 (sn : fN) (a n : Nat) : grU sn a n 0 = sn := by
  funext i
  have : ¬ (a ≤ i ∧ i < a + 0) := by omega
  simp only [grU, if_neg this]
theorem icZ_0 (ic : fN) (a : Nat) : icZ ic a 0 = ic := by
  funext i
  have : ¬ (a ≤ i ∧ i < a + 0) := by omega
  simp only [icZ, if_neg this]
theorem grU_1 (sn : fN) (a n k : Nat) : upd (grU sn a n k) (a + k) (cellU sn a n k) = grU sn a n (k + 1) := by
  funext i
  simp only [grU, upd]
  by_cases h : i = a + k
  · subst h
    rw [if_pos rfl, if_pos (by omega)]
    congr 1; omega
  · rw [if_neg h]
    by_cases h2 : a ≤ i ∧ i < a + k
    · rw [if_pos h2, if_pos (by omega)]
    · rw [if_neg h2, if_neg (by omega)]
theorem icZ_1 (ic : fN) (a k : Nat) : upd (icZ ic a k) (a + k) 0 = icZ ic a (k + 1) := by
  funext i
  simp only [icZ, upd]
  by_cases h : i = a + k
  · subst h
    rw [if_pos rfl, if_pos (by omega)]
  · rw [if_neg h]
    by_cases h2 : a ≤ i ∧ i < a + k
    · rw [if_pos h2, if_pos (by omega)]
    · rw [if_neg h2, if_neg (by omega)]
theorem ngt {i N : Nat} (hN : N < 2 ^ 31) (hi : i < 2 ^ 31) (h : nI N < nI i) : N < i := (nI_ltI hN hi).mp h
theorem nngt {i N : Nat} (hN : N < 2 ^ 31) (hi : i < 2 ^ 31) (h : ¬ nI N < nI i) : i ≤ N := by
  have := mt (nI_ltI hN hi).mpr h
  omega
/-- four times the gate, twice the gust, a quarter of the style, within 0 and 99 -/
def lenU (gate gu style : Int32) : Int32 := mxI 0 (mnI (4 * gate + 2 * gu + style / 4) 99)
theorem lenU_rng (gate gu style : Int32) : ∃ k : Nat, k ≤ 99 ∧ lenU gate gu style = nI k := by
  have h0 : ¬ lenU gate gu style < 0 := by
    unfold lenU mxI
    split
    · rename_i h; exact fun h9 => Int32.lt_irrefl (Int32.lt_trans h h9)
    · exact Int32.lt_irrefl
  have h1 : lenU gate gu style ≤ nI 99 := by
    unfold lenU mxI
    split
    · unfold mnI
      split
      · exact Int32.le_refl _
      · rename_i h; exact Int32.not_lt.mp h
    · decide
  obtain ⟨k, hk, e⟩ := nI_of2 (x := lenU gate gu style) (M := nI 99) (n := 99) (nI_toInt (by decide)) h0 h1
  exact ⟨k, hk, e⟩
/-- the part of the landing -/
def landU (gate gu style : Int32) : Nat := ix (lenU gate gu style / 5)
theorem landU_eq (gate gu style : Int32) : lenU gate gu style / 5 = nI (landU gate gu style) ∧ landU gate gu style < 20 := by
  obtain ⟨k, hk, e⟩ := lenU_rng gate gu style
  have h1 : lenU gate gu style / 5 = nI (k / 5) := by
    rw [e]
    exact pk_div (a := k) (d := 5) (by omega) (by omega) (by omega)
  unfold landU
  rw [h1, ix_nI (by omega)]
  exact ⟨rfl, by omega⟩
theorem outL (f : Nat → Int64) (x : Int64) : ∀ j, j < 1 → vp_updL f 0 x j = x := fun j h => by
  have : j = 0 := by omega
  subst this
  exact if_pos rfl
theorem rngm {x : Int32} {n : Nat} (hn : n < 2 ^ 31) (h : ¬ (x < 0 ∨ nI n - 1 < x)) : x = nI (ix x) ∧ ix x < n := by
  cases n with
  | zero =>
    exfalso
    apply h
    by_cases h0 : x < 0
    · exact Or.inl h0
    · right
      have h1 : (0 : Int32) ≤ x := Int32.not_lt.mp h0
      have h2 : nI 0 - 1 < 0 := by decide
      exact Int32.lt_of_lt_of_le h2 h1
  | succ n =>
    rw [nI_pred] at h
    obtain ⟨h1, h2⟩ := rng (n := n) (by omega) h
    exact ⟨h1, by omega⟩
theorem ix_le {x y : Int32} {n : Nat} (hn : n < 2 ^ 31) (e1 : x = nI (ix x)) (e2 : y = nI (ix y)) (b1 : ix x ≤ n) (b2 : ix y ≤ n) (h : ¬ y < x) : ix x ≤ ix y := by
  rw [e1, e2] at h
  exact nngt (by omega) (by omega) h
def partU (sn ic pa : fN) (np k : Nat) : fN := fun q => if q = 0 then sn k else if q = 1 then ic k else if q = 2 then cntU pa (nI k) np else bi (badU sn ic k)
def cntsU (wa da gu sn ic ru fa : fN) (wt : Int32) (tm np nj : Nat) : fN := fun q =>
  if q = 0 then nI tm else if q = 1 then nI (tm % 24) else if q = 2 then wetU wa da (tm % 24) else if q = 3 then gu (tm % 24) else if q = 4 then wt else if q = 5 then nI np
  else if q = 6 then sumU ru 5 else if q = 7 then sumU sn 20 else if q = 8 then sumU ic 20 else if q = 9 then nI nj else sumU fa 30
/-- the highest gate of 1 .. n without a fall -/
def gaU (sn ic : fN) (gu style : Int32) : Nat → Int32
  | 0 => 0
  | n + 1 => if badU sn ic (landU (nI (n + 1)) gu style) then gaU sn ic gu style n else nI (n + 1)
/-- the first of the hours k, k + 1 .. with so much snow, k + n if there is none -/
def enK (need : Int32) (f : Nat → Int32) : Nat → Nat → Nat
  | 0, k => k
  | n + 1, k => if need ≤ f k then k else enK need f n (k + 1)
theorem enK_le (need : Int32) (f : Nat → Int32) : ∀ n k, enK need f n k ≤ k + n := by
  intro n
  induction n with
  | zero => intro k; exact Nat.le_refl _
  | succ n ih =>
    intro k
    unfold enK
    split
    · omega
    · have := ih (k + 1); omega
def enU (need : Int32) (f : Nat → Int32) : Int32 := if enK need f 241 0 = 241 then -1 else nI (enK need f 241 0)
/-- what lies on the hill that is only thought of, behind the pumps 0 .. i - 1 that rest -/
def adA (wa da pa fl ru : fN) (tm n : Nat) (σ : fN × fN × Int32) : Nat → (fN × fN × Int32) × fN
  | 0 => (hoursU wa da pa fl ru tm n σ, ru)
  | i + 1 => if ru i = 0 then (hoursU wa da pa fl (upd ru i 1) tm n σ, upd ru i 1) else adA wa da pa fl ru tm n σ i
def adS (wa da pa fl ru : fN) (tm n : Nat) (σ : fN × fN × Int32) (i : Nat) : Int32 := sumU (hoursU wa da pa fl (upd ru i 1) tm n σ).1 20
/-- the most snow, and by which pump -/
def adB (wa da pa fl ru : fN) (tm n : Nat) (σ : fN × fN × Int32) : Nat → Int32 × Int32
  | 0 => (sumU (hoursU wa da pa fl ru tm n σ).1 20, -1)
  | i + 1 => if ru i = 0 then (if (adB wa da pa fl ru tm n σ i).1 < adS wa da pa fl ru tm n σ i then (adS wa da pa fl ru tm n σ i, nI i) else adB wa da pa fl ru tm n σ i) else adB wa da pa fl ru tm n σ i
/-- the leader among the jumpers 0 .. n, and the score -/
def ldU (jr pt : fN) (nj : Nat) : Nat → Int32 × Int32
  | 0 => (0, scU jr pt nj 0)
  | n + 1 => if (ldU jr pt nj n).2 < scU jr pt nj (nI (n + 1)) then (nI (n + 1), scU jr pt nj (nI (n + 1))) else ldU jr pt nj n
def leadU (jr pt : fN) (nj : Nat) : Int32 := if nj = 0 then -1 else (ldU jr pt nj 9).1
/-- the checksum -/
def dgU (wa da gu pa fl sn ic ru st jr ln pt fa ho : fN) (wt : Int32) (tm np nj : Nat) : Int64 :=
  dig1 (fun k => scU jr pt nj (nI k)) 10 (dig2 (tellU jr ln pt fa ho) 5 nj (dig3 pa fl ru np (dig1 st 5 (dig3 wa da gu 24 (dig2 (partU sn ic pa np) 4 20 (dig1 (cntsU wa da gu sn ic ru fa wt tm np nj) 11 1181))))))
