/-! what the law asks of a jump -/
theorem sum_u30 {fa : fN} {nj : Nat} {x : Int32} (h : fa nj = 0) : ∀ n, sumU (upd fa nj x) n = sumU fa n + (if nj < n then x else 0) := by
  intro n
  induction n with
  | zero => rw [if_neg (Nat.not_lt_zero _)]; rfl
  | succ n ih =>
    show sumU (upd fa nj x) n + upd fa nj x n = sumU fa n + fa n + _
    rw [ih]
    by_cases c : n = nj
    · subst c
      rw [upd_s, if_neg (Nat.lt_irrefl _), if_pos (Nat.lt_succ_self _), h, Int32.add_zero]
    · rw [upd_n _ _ c]
      by_cases c2 : nj < n
      · rw [if_pos c2, if_pos (by omega), Int32.add_assoc, Int32.add_assoc, Int32.add_comm x]
      · rw [if_neg c2, if_neg (by omega), Int32.add_zero, Int32.add_zero]
theorem fall_1 {fa : fN} {nj : Nat} {x : Int32} (h : fa nj = 0) (hn : nj < 30) : sumU (upd fa nj x) 30 - sumU fa 30 = x := by
  rw [sum_u30 h, if_pos hn, Int32.add_comm, Int32.add_sub_cancel]
theorem one_1 (n : Nat) (h : n < 2 ^ 30) : nI (n + 1) - nI n = 1 := by
  rw [pk_sub (by omega), Nat.add_sub_cancel_left]
  rfl
theorem mx_N {x y B : Nat} (hx : x ≤ B) (hy : y ≤ B) (hB : B < 2 ^ 31) : ∃ z, z ≤ B ∧ x ≤ z ∧ y ≤ z ∧ mxI (nI x) (nI y) = nI z := by
  unfold mxI
  split
  · rename_i c
    have := ngt (by omega) (by omega) c
    exact ⟨y, hy, by omega, Nat.le_refl _, rfl⟩
  · rename_i c
    have := nngt (by omega) (by omega) c
    exact ⟨x, hx, Nat.le_refl _, this, rfl⟩
theorem mn_N {x y B : Nat} (hx : x ≤ B) (hy : y ≤ B) : ∃ z, z ≤ B ∧ mnI (nI x) (nI y) = nI z := by
  unfold mnI
  split
  · exact ⟨y, hy, rfl⟩
  · exact ⟨x, hx, rfl⟩
theorem bt_N {jr pt : fN} {who : Int32} : ∀ n, (∀ i, i < n → ∃ q : Nat, q ≤ 159 ∧ pt i = nI q) → ∃ x y : Nat, x ≤ 159 ∧ y ≤ 159 ∧ btU jr pt who n = (nI x, nI y) := by
  intro n
  induction n with
  | zero => intro _; exact ⟨0, 0, by decide, by decide, rfl⟩
  | succ n ih =>
    intro h
    obtain ⟨x, y, hx, hy, e⟩ := ih (fun i hi => h i (by omega))
    obtain ⟨q, hq, eq⟩ := h n (by omega)
    by_cases c : jr n = who
    · obtain ⟨u, hu, -, -, eu⟩ := mx_N hx hq (by decide)
      obtain ⟨v, hv, ev⟩ := mn_N hx hq
      obtain ⟨t, ht, -, -, et⟩ := mx_N hy hv (by decide)
      rw [btU_t c, e, eq]
      show ∃ x' y' : Nat, x' ≤ 159 ∧ y' ≤ 159 ∧ (mxI (nI x) (nI q), mxI (nI y) (mnI (nI x) (nI q))) = (nI x', nI y')
      rw [eu, ev, et]
      exact ⟨u, t, hu, ht, rfl⟩
    · rw [btU_f c]
      exact ⟨x, y, hx, hy, e⟩
theorem sc_ge {jr pt : fN} {nj w q : Nat} (hq : q ≤ 159) (h : ∀ i, i < nj + 1 → ∃ q' : Nat, q' ≤ 159 ∧ upd pt nj (nI q) i = nI q') : ¬ scU (upd jr nj (nI w)) (upd pt nj (nI q)) (nj + 1) (nI w) < nI q := by
  obtain ⟨x, y, hx, hy, e⟩ := bt_N (jr := upd jr nj (nI w)) (pt := upd pt nj (nI q)) (who := nI w) nj (fun i hi => h i (by omega))
  obtain ⟨u, hu, -, hqu, eu⟩ := mx_N hx hq (by decide)
  obtain ⟨v, hv, ev⟩ := mn_N hx hq
  obtain ⟨t, ht, -, -, et⟩ := mx_N hy hv (by decide)
  unfold scU
  rw [btU_t (upd_s _ _ _), e, upd_s]
  show ¬ mxI (nI x) (nI q) + mxI (nI y) (mnI (nI x) (nI q)) < nI q
  rw [eu, ev, et, nI_add]
  intro c
  have := (nI_ltI (by omega) (by omega)).mp c
  omega
theorem ld_N (jr pt : fN) (nj : Nat) : ∀ n, ∃ m : Nat, m ≤ n ∧ (ldU jr pt nj n).1 = nI m := by
  intro n
  induction n with
  | zero => exact ⟨0, Nat.le_refl _, rfl⟩
  | succ n ih =>
    show ∃ m : Nat, m ≤ n + 1 ∧ (if (ldU jr pt nj n).2 < scU jr pt nj (nI (n + 1)) then (nI (n + 1), scU jr pt nj (nI (n + 1))) else ldU jr pt nj n).1 = nI m
    split
    · exact ⟨n + 1, Nat.le_refl _, rfl⟩
    · obtain ⟨m, hm, e⟩ := ih
      exact ⟨m, by omega, e⟩
theorem lead_nn {jr pt : fN} {nj : Nat} (h : 0 < nj) : 0 ≤ leadU jr pt nj := by
  obtain ⟨m, hm, e⟩ := ld_N jr pt nj 9
  unfold leadU
  rw [if_neg (by omega), e]
  exact (nI_leI (by decide) (by omega)).mpr (Nat.zero_le m)
