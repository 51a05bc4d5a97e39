/-! SPEC: what the methods answer, in numbers -/
/-- the wet cold of the hour k of the day -/
def wetU (wa da : fN) (k : Nat) : Int32 := wa k - (100 - da k) / 10
/-- a part, by its number -/
abbrev inP (x : Int32) : Prop := ¬ (x < 0 ∨ 19 < x)
theorem inP_in {x : Int32} (h : inP x) : vp_in x 20 := by
  rw [vp_in_iff]
  simp only [inP, i_lt, not_or] at h
  have h1 : (0 : Int32).toInt = 0 := rfl
  have h2 : (19 : Int32).toInt = 19 := rfl
  rw [h1, h2] at h
  omega
/-- snow comes to a part, if there is such a part -/
def layU (sn : fN) (x mo : Int32) : fN := if inP x then upd sn x.toNatClampNeg (mnI (sn x.toNatClampNeg + mo) 300) else sn
def icyU (ic : fN) (x : Int32) : fN := if inP x then upd ic x.toNatClampNeg (mnI (ic x.toNatClampNeg + 1) 50) else ic
/-- a pump that runs: snow, ice, water behind its work -/
def workU (pa fl cold : Int32) (σ : fN × fN × Int32) : fN × fN × Int32 :=
  if σ.2.2 < fl then σ
  else if -2 < cold then (σ.1, icyU σ.2.1 pa, σ.2.2 - fl)
  else (layU (layU (layU σ.1 pa (fl * mnI (-cold) 8 / 2)) (pa - 1) (fl * mnI (-cold) 8 / 4)) (pa + 1) (fl * mnI (-cold) 8 / 4), σ.2.1, σ.2.2 - fl)
/-- the pumps 0 .. n - 1, by numbers -/
def pumpsU (pa fl ru : fN) (cold : Int32) : Nat → fN × fN × Int32 → fN × fN × Int32
  | 0, σ => σ
  | n + 1, σ => if ru n = 0 then pumpsU pa fl ru cold n σ else workU (pa n) (fl n) cold (pumpsU pa fl ru cold n σ)
/-- the parts 0 .. k - 1 melt -/
def meltS (sn : fN) (wm : Int32) (k : Nat) : fN := fun i => if i < k then mxI 0 (sn i - wm) else sn i
def meltI (ic : fN) (k : Nat) : fN := fun i => if i < k then mxI 0 (ic i - 1) else ic i
def airU (w : Int32) (σ : fN × fN × Int32) : fN × fN × Int32 := if 0 < w then (meltS σ.1 w 20, meltI σ.2.1 20, σ.2.2) else σ
/-- an hour, the hour of the day being c -/
def hourU (wa da pa fl ru : fN) (c : Nat) (σ : fN × fN × Int32) : fN × fN × Int32 := airU (wa c) (pumpsU pa fl ru (wetU wa da c) 5 σ)
/-- n hours from the hour h on -/
def hoursU (wa da pa fl ru : fN) (h : Nat) : Nat → fN × fN × Int32 → fN × fN × Int32
  | 0, σ => σ
  | n + 1, σ => hourU wa da pa fl ru ((h + n) % 24) (hoursU wa da pa fl ru h n σ)
theorem meltS_0 (sn : fN) (wm : Int32) : meltS sn wm 0 = sn := by funext i; simp [meltS]
theorem meltI_0 (ic : fN) : meltI ic 0 = ic := by funext i; simp [meltI]
theorem meltS_1 (sn : fN) (wm : Int32) (k : Nat) : upd (meltS sn wm k) k (mxI 0 (meltS sn wm k k - wm)) = meltS sn wm (k + 1) := by
  funext i
  simp only [meltS, upd]
  by_cases h : i = k
  · subst h; simp
  · simp only [h, if_false]
    by_cases h2 : i < k
    · simp [h2, Nat.lt_succ_of_lt h2]
    · have : ¬ i < k + 1 := by omega
      simp [h2, this]
theorem meltI_1 (ic : fN) (k : Nat) : upd (meltI ic k) k (mxI 0 (meltI ic k k - 1)) = meltI ic (k + 1) := by
  funext i
  simp only [meltI, upd]
  by_cases h : i = k
  · subst h; simp
  · simp only [h, if_false]
    by_cases h2 : i < k
    · simp [h2, Nat.lt_succ_of_lt h2]
    · have : ¬ i < k + 1 := by omega
      simp [h2, this]
theorem xor_pos {x y : Nat} (hx : x < 2 ^ 31) (hy : y < 2 ^ 31) : 0 ≤ nI x ^^^ nI y := by
  rw [i_le]
  show (0 : Int) ≤ (nI x ^^^ nI y).toBitVec.toInt
  have h1 : (nI x).toBitVec.msb = false := by
    rw [BitVec.msb_eq_false_iff_two_mul_lt]
    have := pk_tn (n := x) (by omega)
    omega
  have h2 : (nI y).toBitVec.msb = false := by
    rw [BitVec.msb_eq_false_iff_two_mul_lt]
    have := pk_tn (n := y) (by omega)
    omega
  have h3 : (nI x ^^^ nI y).toBitVec = (nI x).toBitVec ^^^ (nI y).toBitVec := rfl
  rw [h3]
  have h4 : ((nI x).toBitVec ^^^ (nI y).toBitVec).msb = false := by rw [BitVec.msb_xor, h1, h2]; rfl
  rw [BitVec.toInt_eq_toNat_of_msb h4]
  omega
/-- a count of the rows that are no 0 -/
def cpU (f g : fN) (k : Nat) : fN := fun j => if j < k then f j else g j
theorem cpU_0 (f g : fN) : cpU f g 0 = g := by funext i; simp [cpU]
theorem cpU_1 (f g : fN) (k : Nat) : upd (cpU f g k) k (f k) = cpU f g (k + 1) := by
  funext i
  simp only [cpU, upd]
  by_cases h : i = k
  · subst h; simp
  · simp only [h, if_false]
    by_cases h2 : i < k
    · simp [h2, Nat.lt_succ_of_lt h2]
    · have : ¬ i < k + 1 := by omega
      simp [h2, this]
theorem cpU_n (f g : fN) (n : Nat) : ∀ j, j < n → cpU f g n j = f j := fun j h => by simp [cpU, h]
theorem nar01 {x : Int32} (h : x = 0 ∨ x = 1) : vp_nar .boolean x = x := by rcases h with rfl | rfl <;> rfl
abbrev badU (sn ic : fN) (k : Nat) : Prop := sn k < 30 ∨ 10 ≤ ic k
theorem bi_0 {c : Prop} [Decidable c] (h : bi c = 0) : ¬ c := fun hc => by rw [bi_t hc] at h; exact absurd h (by decide)
theorem bi_n {c : Prop} [Decidable c] (h : ¬ bi c = 0) : c := by
  by_cases hc : c
  · exact hc
  · exact absurd (bi_f hc) h
theorem layU_f {sn : fN} {x mo : Int32} (h : x < 0 ∨ 19 < x) : sn = layU sn x mo := (if_neg (fun h9 => h9 h)).symm
theorem layU_t {sn : fN} {x mo : Int32} (h : inP x) : upd sn x.toNatClampNeg (mnI (sn x.toNatClampNeg + mo) 300) = layU sn x mo := (if_pos h).symm
theorem icyU_f {ic : fN} {x : Int32} (h : x < 0 ∨ 19 < x) : ic = icyU ic x := (if_neg (fun h9 => h9 h)).symm
theorem icyU_t {ic : fN} {x : Int32} (h : inP x) : upd ic x.toNatClampNeg (mnI (ic x.toNatClampNeg + 1) 50) = icyU ic x := (if_pos h).symm
theorem workU_no {pa fl cold wt : Int32} {sn ic : fN} (h : ¬ fl ≤ wt) : workU pa fl cold (sn, ic, wt) = (sn, ic, wt) := if_pos (Int32.not_le.mp h)
theorem workU_ice {pa fl cold wt : Int32} {sn ic : fN} (h : fl ≤ wt) (h2 : ¬ cold ≤ -2) : workU pa fl cold (sn, ic, wt) = (sn, icyU ic pa, wt - fl) := by
  unfold workU
  rw [if_neg (Int32.not_lt.mpr h), if_pos (Int32.not_le.mp h2)]
theorem workU_snow {pa fl cold wt : Int32} {sn ic : fN} (h : fl ≤ wt) (h2 : cold ≤ -2) : workU pa fl cold (sn, ic, wt) = (layU (layU (layU sn pa (fl * mnI (-cold) 8 / 2)) (pa - 1) (fl * mnI (-cold) 8 / 4)) (pa + 1) (fl * mnI (-cold) 8 / 4), ic, wt - fl) := by
  unfold workU
  rw [if_neg (Int32.not_lt.mpr h), if_neg (Int32.not_lt.mpr h2)]
theorem pumpsU_0 {pa fl ru : fN} {cold : Int32} {n : Nat} (σ : fN × fN × Int32) (h : ru n = 0) : pumpsU pa fl ru cold n σ = pumpsU pa fl ru cold (n + 1) σ := (if_pos h).symm
theorem pumpsU_1 {pa fl ru : fN} {cold : Int32} {n : Nat} (σ : fN × fN × Int32) (h : ¬ ru n = 0) : workU (pa n) (fl n) cold (pumpsU pa fl ru cold n σ) = pumpsU pa fl ru cold (n + 1) σ := (if_neg h).symm
theorem airU_0 {w : Int32} (σ : fN × fN × Int32) (h : w ≤ 0) : σ = airU w σ := (if_neg (Int32.not_lt.mpr h)).symm
theorem airU_1 {w : Int32} (σ : fN × fN × Int32) (h : ¬ w ≤ 0) : (meltS σ.1 w 20, meltI σ.2.1 20, σ.2.2) = airU w σ := (if_pos (Int32.not_le.mp h)).symm
def cntU (f : fN) (x : Int32) : Nat → Int32
  | 0 => 0
  | n + 1 => if f n = x then cntU f x n + 1 else cntU f x n
def f8 (fe : Int32) : Int32 := if fe = 0 then 0 else 8
def tellU (jr ln pt fa ho : fN) (k : Nat) : fN := fun j => if j = 0 then jr k else if j = 1 then ln k else if j = 2 then pt k else if j = 3 then fa k else ho k
/-- the best and the second points of one among the jumps 0 .. n - 1 -/
def btU (jr pt : fN) (who : Int32) : Nat → Int32 × Int32
  | 0 => (0, 0)
  | n + 1 => if jr n = who then (mxI (btU jr pt who n).1 (pt n), mxI (btU jr pt who n).2 (mnI (btU jr pt who n).1 (pt n))) else btU jr pt who n
theorem btU_t {jr pt : fN} {who : Int32} {n : Nat} (h : jr n = who) : btU jr pt who (n + 1) = (mxI (btU jr pt who n).1 (pt n), mxI (btU jr pt who n).2 (mnI (btU jr pt who n).1 (pt n))) := if_pos h
theorem btU_f {jr pt : fN} {who : Int32} {n : Nat} (h : ¬ jr n = who) : btU jr pt who (n + 1) = btU jr pt who n := if_neg h
def scU (jr pt : fN) (nj : Nat) (who : Int32) : Int32 := (btU jr pt who nj).1 + (btU jr pt who nj).2
def mkU (z : Int32) (st : fN) (n : Nat) : Int32 := mxI 0 (mnI (z - st n) 20)
/-- the marks of the judges 0 .. n - 1: their sum, the best, the worst -/
def mksU (z : Int32) (st : fN) : Nat → Int32 × Int32 × Int32
  | 0 => (0, 0, 20)
  | n + 1 => ((mksU z st n).1 + mkU z st n, mxI (mksU z st n).2.1 (mkU z st n), mnI (mksU z st n).2.2 (mkU z st n))
def dig1 (a : fN) : Nat → Int64 → Int64
  | 0, d => d
  | n + 1, d => dig1 a n d * 31 + (a n).toInt64
def dig3 (a b c : fN) : Nat → Int64 → Int64
  | 0, d => d
  | n + 1, d => ((dig3 a b c n d * 31 + (a n).toInt64) * 31 + (b n).toInt64) * 31 + (c n).toInt64
/-- rows of rows: the row n holds m numbers f n -/
def dig2 (f : Nat → fN) (m : Nat) : Nat → Int64 → Int64
  | 0, d => d
  | n + 1, d => dig1 (f n) m (dig2 f m n d)
theorem run01 {f : fN} {n : Nat} (h : ∀ i, f i = 0 ∨ f i = 1) (c : ¬ f n = 0) : sumU f n + 1 = sumU f (n + 1) := by
  show _ = sumU f n + f n
  rw [(h n).resolve_left c]
theorem run00 {f : fN} {n : Nat} (c : f n = 0) : sumU f n = sumU f (n + 1) := by
  show _ = sumU f n + f n
  rw [c, Int32.add_zero]
