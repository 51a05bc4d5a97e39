/-! what the law asks, of numbers -/
section
variable {sn ic : fN} {a n i : Nat}
theorem gr_in (h : i < n) : grU sn a n n (a + i) = cellU sn a n i := by
  unfold grU
  rw [if_pos (by omega), Nat.add_sub_cancel_left]
theorem gr_out (h : i < a ∨ a + n ≤ i) : grU sn a n n i = sn i := by
  unfold grU
  rw [if_neg (by omega)]
theorem icZ_in (h : i < n) : icZ ic a n (a + i) = 0 := by
  unfold icZ
  rw [if_pos (by omega)]
theorem icZ_icZ : icZ (icZ ic a n) a n = icZ ic a n := by
  funext i
  unfold icZ
  split <;> rfl
theorem gr_Rk {A : Nat} (h : grOK sn a n A) : ∀ k, k ≤ n → sumR (grU sn a n n) a k = nI (k * (A / n) + min k (A % n)) := by
  intro k
  induction k with
  | zero => intro _; show (0 : Int32) = _; rw [Nat.zero_mul, Nat.zero_min]; rfl
  | succ k ih =>
    intro hk
    show sumR (grU sn a n n) a k + grU sn a n n (a + k) = _
    rw [ih (by omega), gr_in (by omega), cell_N h (by omega), nI_add]
    congr 1
    unfold cellN
    rw [Nat.succ_mul]
    split <;> omega
theorem gr_R (h : SR sn) (h0 : 0 < n) (hn : a + n ≤ 20) : sumR (grU sn a n n) a n = sumR sn a n := by
  obtain ⟨A, hA, hk⟩ := grT h0 hn h
  rw [gr_Rk hk n (Nat.le_refl _), hk.1]
  congr 1
  have h1 := Nat.div_add_mod A n
  have h2 := Nat.mod_lt A h0
  rw [Nat.min_eq_right (by omega)]
  exact h1
theorem sum_R (f : fN) (m : Nat) : ∀ r, sumU f (m + r) = sumU f m + sumR f m r := by
  intro r
  induction r with
  | zero => exact (Int32.add_zero _).symm
  | succ r ih =>
    show sumU f (m + r) + f (m + r) = sumU f m + (sumR f m r + f (m + r))
    rw [ih, Int32.add_assoc]
theorem sum_cg {f g : fN} : ∀ m, (∀ i, i < m → f i = g i) → sumU f m = sumU g m := by
  intro m
  induction m with
  | zero => intro _; rfl
  | succ m ih =>
    intro h
    show sumU f m + f m = sumU g m + g m
    rw [ih (fun i hi => h i (by omega)), h m (by omega)]
theorem sumR_cg {f g : fN} {m : Nat} : ∀ r, (∀ i, i < r → f (m + i) = g (m + i)) → sumR f m r = sumR g m r := by
  intro r
  induction r with
  | zero => intro _; rfl
  | succ r ih =>
    intro h
    show sumR f m r + f (m + r) = sumR g m r + g (m + r)
    rw [ih (fun i hi => h i (by omega)), h r (by omega)]
theorem gr_sum (h : SR sn) (h0 : 0 < n) (hn : a + n ≤ 20) : sumU (grU sn a n n) 20 = sumU sn 20 := by
  have e : 20 = a + n + (20 - (a + n)) := by omega
  generalize 20 - (a + n) = r at e
  rw [e, sum_R, sum_R, sum_R, sum_R, gr_R h h0 hn, sum_cg a (fun i hi => gr_out (Or.inl hi)), sumR_cg r (fun i hi => gr_out (Or.inr (by omega)))]
theorem gr_gr (h : SR sn) (h0 : 0 < n) (hn : a + n ≤ 20) : grU (grU sn a n n) a n n = grU sn a n n := by
  have e : ∀ i, cellU (grU sn a n n) a n i = cellU sn a n i := fun i => by
    unfold cellU remU quoU
    rw [gr_R h h0 hn]
  funext i
  show (if a ≤ i ∧ i < a + n then cellU (grU sn a n n) a n (i - a) else grU sn a n n i) = _
  rw [e]
  split
  · rename_i c
    unfold grU
    rw [if_pos c]
  · rfl
theorem cellN_b (A : Nat) (h : i < n) : cellN A n i ≤ cellN A n 0 ∧ cellN A n 0 ≤ cellN A n i + 1 := by
  unfold cellN
  split <;> split <;> omega
theorem gr_le (h : SR sn) (h0 : 0 < n) (hn : a + n ≤ 20) (hi : i < n) : ¬ grU sn a n n a < grU sn a n n (a + i) := by
  obtain ⟨A, hA, hk⟩ := grT h0 hn h
  have e : grU sn a n n a = cellU sn a n 0 := gr_in (a := a) (i := 0) h0
  rw [e, gr_in hi, cell_N hk h0, cell_N hk hi]
  have h1 := (cellN_b A hi).1
  have h2 := cellN_le (i := 0) hA h0
  intro c
  have := ngt (by omega) (by omega) c
  omega
theorem gr_ge (h : SR sn) (h0 : 0 < n) (hn : a + n ≤ 20) (hi : i < n) : ¬ grU sn a n n (a + i) < grU sn a n n a - 1 := by
  obtain ⟨A, hA, hk⟩ := grT h0 hn h
  have e : grU sn a n n a = cellU sn a n 0 := gr_in (a := a) (i := 0) h0
  rw [e, gr_in hi, cell_N hk h0, cell_N hk hi]
  have h1 := cellN_b A hi
  have h2 := cellN_le (i := 0) hA h0
  intro c
  have e1 : (nI (cellN A n 0) - 1).toInt = (cellN A n 0 : Int) - 1 := pk_sub_toInt (a := cellN A n 0) (b := 1) (by omega) (by decide)
  rw [i_lt, e1, nI_toInt (by omega)] at c
  omega
theorem gr_mono (h : SR sn) (h0 : 0 < n) (hn : a + n ≤ 20) (hi : i < n) (h1 : 0 < i) : grU sn a n n (a + i) ≤ grU sn a n n (a + i - 1) := by
  obtain ⟨A, hA, hk⟩ := grT h0 hn h
  have e : a + i - 1 = a + (i - 1) := by omega
  rw [e, gr_in hi, gr_in (by omega), cell_N hk hi, cell_N hk (by omega)]
  have h2 := cellN_le (i := i - 1) hA h0
  have h3 := cellN_le (i := i) hA h0
  have h4 : cellN A n i ≤ cellN A n (i - 1) := by
    unfold cellN
    split <;> split <;> omega
  exact (nI_leI (by omega) (by omega)).mpr h4
end
