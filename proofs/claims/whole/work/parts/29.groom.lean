/-! GROOMING from the last part down: what is left over, and that it is the same -/
/-- all the snow of n parts, as a number: A of it, q to each, r over -/
def grOK (sn : fN) (a n A : Nat) : Prop := sumR sn a n = nI A ∧ A ≤ 6000 ∧ 0 < n ∧ n ≤ 20
theorem sumR_N {sn : fN} {a : Nat} (hsn : ∀ i, i < 20 → ∃ k : Nat, k ≤ 300 ∧ sn i = nI k) : ∀ n, a + n ≤ 20 → ∃ A : Nat, A ≤ 300 * n ∧ sumR sn a n = nI A := by
  intro n
  induction n with
  | zero => intro _; exact ⟨0, Nat.le_refl _, rfl⟩
  | succ n ih =>
    intro h
    obtain ⟨A, hA, e⟩ := ih (by omega)
    obtain ⟨k, hk, e2⟩ := hsn (a + n) (by omega)
    refine ⟨A + k, by omega, ?_⟩
    show sumR sn a n + sn (a + n) = _
    rw [e, e2, nI_add]
theorem grT {sn : fN} {a n : Nat} (h0 : 0 < n) (h : a + n ≤ 20) (hsn : ∀ i, i < 20 → ∃ k : Nat, k ≤ 300 ∧ sn i = nI k) : ∃ A : Nat, grOK sn a n A := by
  obtain ⟨A, hA, e⟩ := sumR_N (a := a) hsn n h
  exact ⟨A, e, by omega, h0, by omega⟩
/-- what is left for the parts 0 .. i - 1 of n -/
def lftU (sn : fN) (a n i : Nat) : Int32 := quoU sn a n * nI i + (if nI i < remU sn a n then nI i else remU sn a n)
/-- the parts i .. n - 1 are groomed -/
def grD (sn : fN) (a n i : Nat) : fN := fun j => if a + i ≤ j ∧ j < a + n then cellU sn a n (j - a) else sn j
theorem grD_n (sn : fN) (a n : Nat) : grD sn a n n = sn := by
  funext j
  have : ¬ (a + n ≤ j ∧ j < a + n) := by omega
  simp only [grD, if_neg this]
theorem grD_0 (sn : fN) (a n : Nat) : grD sn a n 0 = grU sn a n n := rfl
theorem grD_at (sn : fN) (a n i : Nat) (h : i < n) : grD sn a n i (a + i) = cellU sn a n i := by
  unfold grD
  rw [if_pos (by omega)]
  congr 1; omega
theorem grD_1 (sn : fN) (a n i : Nat) (h : i < n) : upd (grD sn a n (i + 1)) (a + i) (cellU sn a n i) = grD sn a n i := by
  funext j
  simp only [grD, upd]
  by_cases h1 : j = a + i
  · subst h1
    rw [if_pos rfl, if_pos (by omega)]
    congr 1; omega
  · rw [if_neg h1]
    by_cases h2 : a + (i + 1) ≤ j ∧ j < a + n
    · rw [if_pos h2, if_pos (by omega)]
    · rw [if_neg h2, if_neg (by omega)]
theorem quo_N {sn : fN} {a n A : Nat} (h : grOK sn a n A) : quoU sn a n = nI (A / n) := by
  unfold quoU
  rw [h.1]
  exact pk_div (by have := h.2.1; omega) h.2.2.1 (by have := h.2.2.2; omega)
theorem rem_N {sn : fN} {a n A : Nat} (h : grOK sn a n A) : remU sn a n = nI (A % n) := by
  unfold remU
  rw [h.1]
  exact pk_rem (by have := h.2.1; omega) h.2.2.1 (by have := h.2.2.2; omega)
def cellN (A n i : Nat) : Nat := if i < A % n then A / n + 1 else A / n
def lftN (A n i : Nat) : Nat := A / n * i + (if i < A % n then i else A % n)
theorem cell_N {sn : fN} {a n A i : Nat} (h : grOK sn a n A) (hi : i < n) : cellU sn a n i = nI (cellN A n i) := by
  unfold cellU cellN
  rw [quo_N h, rem_N h]
  have hr : A % n < n := Nat.mod_lt _ h.2.2.1
  have hn := h.2.2.2
  by_cases c : i < A % n
  · rw [if_pos c, if_pos ((nI_ltI (by omega) (by omega)).mpr c)]; exact nI_1 _
  · rw [if_neg c, if_neg (fun q => c ((nI_ltI (by omega) (by omega)).mp q))]
theorem lft_N {sn : fN} {a n A i : Nat} (h : grOK sn a n A) (hi : i ≤ n) : lftU sn a n i = nI (lftN A n i) := by
  unfold lftU lftN
  rw [quo_N h, rem_N h, pk_mul]
  have hr : A % n < n := Nat.mod_lt _ h.2.2.1
  have hn := h.2.2.2
  by_cases c : i < A % n
  · rw [if_pos c, if_pos ((nI_ltI (by omega) (by omega)).mpr c)]; exact nI_add _ _
  · rw [if_neg c, if_neg (fun q => c ((nI_ltI (by omega) (by omega)).mp q))]; exact nI_add _ _
theorem lftN_le {A n i : Nat} (hn : 0 < n) (hi : i ≤ n) : lftN A n i ≤ A := by
  unfold lftN
  have h1 : A / n * i ≤ A / n * n := Nat.mul_le_mul_left _ hi
  have h2 := Nat.div_add_mod A n
  rw [Nat.mul_comm] at h2
  split <;> omega
theorem lftN_div {A n i : Nat} (hi : i < n) : lftN A n (i + 1) / (i + 1) = cellN A n i := by
  unfold lftN cellN
  by_cases c : i < A % n
  · rw [if_pos c]
    by_cases c2 : i + 1 < A % n
    · rw [if_pos c2, Nat.add_div_right _ (by omega), Nat.mul_div_cancel _ (by omega)]
    · rw [if_neg c2, show A % n = i + 1 by omega, Nat.add_div_right _ (by omega), Nat.mul_div_cancel _ (by omega)]
  · rw [if_neg c, if_neg (by omega)]
    rw [Nat.mul_comm (A / n) (i + 1), Nat.mul_add_div (by omega), Nat.div_eq_of_lt (a := A % n) (b := i + 1) (by omega), Nat.add_zero]
theorem lftN_sub {A n i : Nat} (hi : i < n) : lftN A n (i + 1) = lftN A n i + cellN A n i := by
  unfold lftN cellN
  rw [Nat.mul_succ]
  by_cases c : i < A % n
  · rw [if_pos c, if_pos c]
    by_cases c2 : i + 1 < A % n
    · rw [if_pos c2]; omega
    · rw [if_neg c2]; omega
  · rw [if_neg c, if_neg c, if_neg (by omega)]; omega
theorem lft_n (sn : fN) (a n : Nat) (h : ∃ A : Nat, grOK sn a n A) : lftU sn a n n = sumR sn a n := by
  obtain ⟨A, h⟩ := h
  rw [lft_N h (Nat.le_refl _), h.1]
  unfold lftN
  have hr : A % n < n := Nat.mod_lt _ h.2.2.1
  rw [if_neg (by omega), Nat.mul_comm, Nat.div_add_mod]
theorem lft_div {sn : fN} {a n i : Nat} (h : ∃ A : Nat, grOK sn a n A) (hi : i < n) : lftU sn a n (i + 1) / nI (i + 1) = cellU sn a n i := by
  obtain ⟨A, h⟩ := h
  have h1 := lftN_le (A := A) (n := n) (i := i + 1) h.2.2.1 hi
  have h2 := h.2.1
  have h3 := h.2.2.2
  rw [lft_N (i := i + 1) h hi, cell_N h hi, pk_div (by omega) (by omega) (by omega), lftN_div hi]
theorem lft_sub {sn : fN} {a n i : Nat} (h : ∃ A : Nat, grOK sn a n A) (hi : i < n) : lftU sn a n (i + 1) - cellU sn a n i = lftU sn a n i := by
  obtain ⟨A, h⟩ := h
  rw [lft_N (i := i + 1) h hi, lft_N (i := i) h (by omega), cell_N h hi, lftN_sub hi, pk_sub (by omega)]
  congr 1; omega
theorem grx {a i : Nat} (h : a + i < 2 ^ 31) (c : nI (a + i) - 1 < nI a) : i = 0 := by
  cases i with
  | zero => rfl
  | succ i =>
    rw [show a + (i + 1) = (a + i) + 1 by omega, nI_pred] at c
    have := (nI_ltI (by omega) (by omega)).mp c
    omega
theorem gry {a i : Nat} (h : a + i < 2 ^ 31) (c : ¬ nI (a + i) - 1 < nI a) : 0 < i := by
  cases i with
  | zero =>
    exfalso
    apply c
    cases a with
    | zero => decide
    | succ a => rw [Nat.add_zero, nI_pred]; exact nI_lt (by omega) (by omega)
  | succ i => omega
theorem dec1 (x : Int32) : x + Int32.ofInt (-1) = x - 1 := by
  rw [Int32.sub_eq_add_neg]
  exact congrArg (fun y => x + y) (by decide)
theorem hrz_up {ru : fN} {np k : Nat} (hz : ∀ i, np ≤ i → ru i = 0) (hk : k < np) : ∀ i, np ≤ i → upd ru k 1 i = 0 := fun i hi => by rw [upd_n _ _ (by omega)]; exact hz i hi
theorem cnt_f {pa : fN} {x : Int32} {i : Nat} (h : ¬ pa i = x) : cntU pa x i + 0 = cntU pa x (i + 1) := by
  rw [Int32.add_zero]; exact (if_neg h).symm
theorem lenU_c (gate gu style : Int32) : mxI 0 (mnI 99 (4 * gate + 2 * gu + style / 4)) = lenU gate gu style := by
  unfold lenU; rw [mnI_comm]
theorem mkU_c (x y f : Int32) (st : fN) (i : Nat) : mxI 0 (mnI 20 (x - abI y - st i - f)) = mkU (x - abI y - f) st i := by
  unfold mkU; rw [mnI_comm, sub_sw]
theorem fo478 {x : Int32} (h : ¬ (¬ x = 4 ∧ ¬ x = 7 ∧ ¬ x = 8)) : x = 4 ∨ x = 7 ∨ x = 8 := by
  by_cases h4 : x = 4
  · exact Or.inl h4
  · by_cases h7 : x = 7
    · exact Or.inr (Or.inl h7)
    · by_cases h8 : x = 8
      · exact Or.inr (Or.inr h8)
      · exact absurd ⟨h4, h7, h8⟩ h
theorem fo_ix {x : Int32} (h : x = 4 ∨ x = 7 ∨ x = 8) : x = nI (ix x) := by rcases h with rfl | rfl | rfl <;> rfl
theorem fo_lt {x : Int32} (h : x = 4 ∨ x = 7 ∨ x = 8) : ix x < 11 := by rcases h with rfl | rfl | rfl <;> decide
theorem ad0 {x : Int32} (h : x = 0 ∨ x = 1) (c : ¬ x = 1) : x = 0 := h.resolve_right c
theorem ad1 {x : Int32} (_ : x = 0 ∨ x = 1) (c : x = 1) : ¬ x = 0 := fun h => by rw [h] at c; exact absurd c (by decide)
theorem upd5 {f : fN} : ∀ j, j < 5 → upd (upd (upd (upd (upd f 0 0) 1 1) 2 2) 3 3) 4 4 j = nI j := by
  intro j hj
  rcases (show j = 0 ∨ j = 1 ∨ j = 2 ∨ j = 3 ∨ j = 4 by omega) with rfl | rfl | rfl | rfl | rfl <;> rfl
theorem bk_z : (fun _ => 0 : fN) = bkU (fun _ => 0) (fun _ => 0) (fun _ => 0) (fun _ => 0) (fun _ => 0) := by
  funext i
  simp [bkU, tellU]
