/-! SPEC of the last comparison -/
theorem cnt_1 (pa : fN) (x : Int32) (q : Nat) : cntU pa x q + bi (pa q = x) = cntU pa x (q + 1) := by
  show _ = if pa q = x then cntU pa x q + 1 else cntU pa x q
  unfold bi
  split
  · rfl
  · exact Int32.add_zero _
theorem row5 {F : Nat → fN} {a k : Nat} {jr ln pt fa ho : fN} (h0 : F a 0 = jr k) (h1 : F a 1 = ln k) (h2 : F a 2 = pt k) (h3 : F a 3 = fa k) (h4 : F a 4 = ho k) : ∀ q, q < 5 → F a q = tellU jr ln pt fa ho k q := by
  intro q hq
  rcases (show q = 0 ∨ q = 1 ∨ q = 2 ∨ q = 3 ∨ q = 4 by omega) with rfl | rfl | rfl | rfl | rfl
  · exact h0
  · exact h1
  · exact h2
  · exact h3
  · exact h4
theorem tPart_ok {a q : Nat} (h0 : a < 20) (h1 : q < 4) : tPart (nI a) (nI q) = 0 := by
  unfold tPart
  rw [if_neg (outn (a := 0) (b := 19) (lo := 0) (hi := 19) rfl rfl (by omega) (by omega) (by omega)), if_neg (outn (a := 0) (b := 3) (lo := 0) (hi := 3) rfl rfl (by omega) (by omega) (by omega))]
theorem tCount_ok {q : Nat} (h1 : q < 11) : tCount (nI q) = 0 := by
  unfold tCount
  rw [if_neg (outn (a := 0) (b := 10) (lo := 0) (hi := 10) rfl rfl (by omega) (by omega) (by omega))]
theorem tScore_ok {q : Nat} (h1 : q < 10) : tScore (nI q) = 0 := by
  unfold tScore
  rw [if_neg (outn (a := 0) (b := 9) (lo := 0) (hi := 9) rfl rfl (by omega) (by omega) (by omega))]
theorem tTold_ok {i q nj : Nat} (h : i < nj) (hn : nj ≤ 30) (hq : q < 5) : tTold (nI i) (nI q) nj = 0 := by
  unfold tTold
  rw [if_neg, if_neg (outn (a := 0) (b := 4) (lo := 0) (hi := 4) rfl rfl (by omega) (by omega) (by omega))]
  rintro (h1 | h1)
  · exact nI_pos (by omega) h1
  · obtain ⟨m, rfl⟩ : ∃ m, nj = m + 1 := ⟨nj - 1, by omega⟩
    rw [nI_pred] at h1
    exact absurd ((nI_ltI (by omega) (by omega)).mp h1) (by omega)
/-- the leader among the jumpers 0 .. w - 1, as the law's hill finds it -/
def ldS (jr pt : fN) (nj w : Nat) : Int32 := if nj = 0 then -1 else if w = 0 then 0 else (ldU jr pt nj (w - 1)).1
theorem ldS_z {jr pt : fN} {nj : Nat} (c : ¬ nI nj = 0) : (0 : Int32) = ldS jr pt nj 0 := by
  unfold ldS
  rw [if_neg (fun h => c (by rw [h]; rfl)), if_pos rfl]
theorem ldS_0 {jr pt : fN} {nj : Nat} (hn : nj ≤ 30) (c : nI nj = 0) : (-1 : Int32) = ldS jr pt nj 0 := by
  unfold ldS
  rw [if_pos ((nI_eq (b := 0) (by omega) (by omega)).mp c)]
theorem ldS_n {jr pt : fN} {nj w : Nat} (hn : nj ≤ 30) (c : nI nj ≤ 0) : ldS jr pt nj w = ldS jr pt nj (w + 1) := by
  have h := (nI_leI (b := 0) (by omega) (by omega)).mp c
  unfold ldS
  rw [if_pos (by omega), if_pos (by omega)]
theorem pos_of {nj : Nat} (c : ¬ nI nj ≤ 0) : 0 < nj := Nat.pos_of_ne_zero (fun h => c (by rw [h]; exact Int32.le_refl _))
theorem ldU_sc (jr pt : fN) (nj : Nat) : ∀ n, (ldU jr pt nj n).2 = scU jr pt nj (ldU jr pt nj n).1 := by
  intro n
  induction n with
  | zero => rfl
  | succ n ih =>
    unfold ldU
    split
    · rfl
    · exact ih
theorem ldS_z' {jr pt : fN} {nj : Nat} (h0 : 0 < nj) : ldS jr pt nj 0 = 0 := by unfold ldS; rw [if_neg (Nat.ne_of_gt h0), if_pos rfl]
theorem ldS_u {jr pt : fN} {nj : Nat} (h0 : 0 < nj) (n : Nat) : ldS jr pt nj (n + 1) = (ldU jr pt nj n).1 := by unfold ldS; rw [if_neg (Nat.ne_of_gt h0), if_neg (Nat.succ_ne_zero n), Nat.add_sub_cancel]
theorem ldS_s {jr pt : fN} {nj w : Nat} (h0 : 0 < nj) (c : scU jr pt nj (nI w) ≤ scU jr pt nj (ldS jr pt nj w)) : ldS jr pt nj w = ldS jr pt nj (w + 1) := by
  cases w with
  | zero => rw [ldS_z' h0, ldS_u h0]; rfl
  | succ n =>
    rw [ldS_u h0] at c
    rw [ldS_u h0, ldS_u h0]
    show _ = (if (ldU jr pt nj n).2 < scU jr pt nj (nI (n + 1)) then (nI (n + 1), scU jr pt nj (nI (n + 1))) else ldU jr pt nj n).1
    rw [if_neg (by rw [ldU_sc]; exact Int32.not_lt.mpr c)]
theorem ldS_y {jr pt : fN} {nj w : Nat} (h0 : 0 < nj) (c : ¬ scU jr pt nj (nI w) ≤ scU jr pt nj (ldS jr pt nj w)) : nI w = ldS jr pt nj (w + 1) := by
  cases w with
  | zero => rw [ldS_z' h0] at c; exact absurd (Int32.le_refl _) c
  | succ n =>
    rw [ldS_u h0] at c
    rw [ldS_u h0]
    show _ = (if (ldU jr pt nj n).2 < scU jr pt nj (nI (n + 1)) then (nI (n + 1), scU jr pt nj (nI (n + 1))) else ldU jr pt nj n).1
    rw [if_pos (by rw [ldU_sc]; exact Int32.not_le.mp c)]
theorem ldS_10 (jr pt : fN) (nj : Nat) : leadU jr pt nj = ldS jr pt nj 10 := by
  unfold leadU ldS
  split <;> rfl
theorem sum_z (f : fN) (n : Nat) (hz : ∀ i, n ≤ i → f i = 0) : ∀ m, sumU f (n + m) = sumU f n := by
  intro m
  induction m with
  | zero => rfl
  | succ m ih => show sumU f (n + m) + f (n + m) = _; rw [ih, hz _ (by omega), Int32.add_zero]
theorem sum_5 {f : fN} {n : Nat} (hn : n ≤ 5) (hz : ∀ i, n ≤ i → f i = 0) : sumU f n = sumU f 5 := by
  have := sum_z f n hz (5 - n)
  rw [show n + (5 - n) = 5 by omega] at this
  exact this.symm
theorem sum_30 {f : fN} {n : Nat} (hn : n ≤ 30) (hz : ∀ i, n ≤ i → f i = 0) : sumU f n = sumU f 30 := by
  have := sum_z f n hz (30 - n)
  rw [show n + (30 - n) = 30 by omega] at this
  exact this.symm
theorem same_0 {pt : fN} {nj : Nat} (h : nj = 0) : Op.cmpValue (FP.dcmp (meanU pt nj) FP.dconst0) CmpOp.l = 0 := by
  unfold meanU
  rw [if_pos h]
  decide +kernel
theorem ord_eq {x : FP.Core.Datum} (h : x ≠ .nan) : FP.Core.order x x = some .eq := by
  cases x with
  | nan => exact absurd rfl h
  | inf s => exact congrArg some (by simp [compare, compareOfLessAndEq])
  | fin s c q => exact congrArg some (by simp [compare, compareOfLessAndEq])
theorem ddiv_dec {x : Int32} {n : Nat} (h0 : 0 < n) (hn : n ≤ 30) : FP.Core.decode FP.Core.b64 (FP.ddiv (FP.i2d x) (FP.i2d (nI n))).toNat ≠ .nan := by
  intro h
  have h1 := ddiv_ok (x := x) h0 hn
  have h2 := n64_dec h1
  unfold FP.Core.decode at h
  have e1 : FP.Core.fieldE FP.Core.b64 (FP.ddiv (FP.i2d x) (FP.i2d (nI n))).toNat = (FP.ddiv (FP.i2d x) (FP.i2d (nI n))).toNat / 2 ^ 52 % 2 ^ 11 := rfl
  have e2 : FP.Core.fieldT FP.Core.b64 (FP.ddiv (FP.i2d x) (FP.i2d (nI n))).toNat = (FP.ddiv (FP.i2d x) (FP.i2d (nI n))).toNat % 2 ^ 52 := rfl
  have e3 : FP.Core.b64.exps - 1 = 2047 := by decide
  rw [e1, e2, e3] at h
  split at h
  · split at h
    · cases h
    · rename_i c1 c2
      have h3 : isNaN64 (FP.ddiv (FP.i2d x) (FP.i2d (nI n))) = true := by
        rw [isNaN64_iff]
        have e : (FP.ddiv (FP.i2d x) (FP.i2d (nI n))).toNat &&& 0x7fffffffffffffff = (FP.ddiv (FP.i2d x) (FP.i2d (nI n))).toNat % 2 ^ 63 := Nat.and_two_pow_sub_one_eq_mod _ 63
        rw [e]
        omega
      rw [h2] at h3
      cases h3
  · split at h <;> cases h
theorem same_d {pt : fN} {nj : Nat} (h0 : 0 < nj) (hn : nj ≤ 30) (hz : ∀ i, nj ≤ i → pt i = 0) : Op.cmpValue (FP.dcmp (meanU pt nj) (FP.ddiv (FP.i2d (sumU pt nj)) (FP.i2d (nI nj)))) CmpOp.l = 0 := by
  unfold meanU
  rw [if_neg (by omega), sum_30 hn hz]
  have e : FP.dcmp (FP.ddiv (FP.i2d (sumU pt 30)) (FP.i2d (nI nj))) (FP.ddiv (FP.i2d (sumU pt 30)) (FP.i2d (nI nj))) = some .eq := ord_eq (ddiv_dec h0 hn)
  rw [e]
  rfl
