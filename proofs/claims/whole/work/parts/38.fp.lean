/-! NUMBERS WITH A NaN AMONG THEM: what the law's own comparison of the means needs -/
theorem ord_self (x : FP.Core.Datum) : FP.Core.order x x = none ∨ FP.Core.order x x = some .eq := by
  cases x with
  | nan => exact Or.inl rfl
  | inf s => exact Or.inr (congrArg some (by simp [compare, compareOfLessAndEq]))
  | fin s c q => exact Or.inr (congrArg some (by simp [compare, compareOfLessAndEq]))
theorem dc_self (x : UInt64) : FP.dcmp x x = none ∨ FP.dcmp x x = some .eq := ord_self _
theorem dec_nan {n : Nat} (h : 9218868437227405312 < n % 2 ^ 63) : FP.Core.decode FP.Core.b64 n = .nan := by
  unfold FP.Core.decode
  have e1 : FP.Core.fieldE FP.Core.b64 n = n / 2 ^ 52 % 2 ^ 11 := rfl
  have e2 : FP.Core.fieldT FP.Core.b64 n = n % 2 ^ 52 := rfl
  have e3 : FP.Core.b64.exps - 1 = 2047 := by decide
  rw [e1, e2, e3, if_pos (by omega), if_neg (by omega)]
theorem nan_dec {x : UInt64} (h : isNaN64 x = true) : FP.Core.decode FP.Core.b64 x.toNat = .nan := by
  rw [isNaN64_iff] at h
  refine dec_nan ?_
  have e : x.toNat &&& 0x7fffffffffffffff = x.toNat % 2 ^ 63 := Nat.and_two_pow_sub_one_eq_mod _ 63
  rw [e] at h
  exact h
theorem dc_nan {x : UInt64} (y : UInt64) (h : isNaN64 x = true) : FP.dcmp x y = none := by
  show FP.Core.order (FP.Core.decode FP.Core.b64 x.toNat) _ = none
  rw [nan_dec h]; rfl
/-- the law's test of two answers that are alike to one number -/
theorem dc_law {p q M : UInt64} (hp : alike64 p M = true) (hq : alike64 q M = true) : FP.dcmp p q = some .eq ∨ (FP.dcmp p q = none ∧ FP.dcmp p p = none ∧ FP.dcmp q q = none) := by
  have h : p = q ∨ (isNaN64 p = true ∧ isNaN64 q = true) := by
    simp only [alike64, Bool.or_eq_true, decide_eq_true_eq, Bool.and_eq_true] at hp hq
    rcases hp with rfl | ⟨h1, h2⟩
    · rcases hq with rfl | ⟨h3, h4⟩
      · exact Or.inl rfl
      · exact Or.inr ⟨h4, h3⟩
    · rcases hq with rfl | ⟨h3, h4⟩
      · exact Or.inr ⟨h1, h2⟩
      · exact Or.inr ⟨h1, h3⟩
  rcases h with rfl | ⟨h1, h2⟩
  · rcases dc_self p with h | h
    · exact Or.inr ⟨h, h, h⟩
    · exact Or.inl h
  · exact Or.inr ⟨dc_nan _ h1, dc_nan _ h1, dc_nan _ h2⟩
