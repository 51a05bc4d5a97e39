/-! what the law asks of a hill that stands still -/
theorem SR_b {sn : fN} {i : Nat} (h : SR sn) (hi : i < 20) : ¬ sn i < 0 ∧ ¬ 300 < sn i := by
  obtain ⟨a, ha, e⟩ := h i hi
  have := outn (x := a) (a := 0) (b := 300) (lo := 0) (hi := 300) rfl rfl (Nat.zero_le _) ha (by decide)
  rw [e]
  exact ⟨fun q => this (Or.inl q), fun q => this (Or.inr q)⟩
theorem IR_b {ic : fN} {i : Nat} (h : IR ic) (hi : i < 20) : ¬ ic i < 0 ∧ ¬ 50 < ic i := by
  obtain ⟨a, ha, e⟩ := h i hi
  have := outn (x := a) (a := 0) (b := 50) (lo := 0) (hi := 50) rfl rfl (Nat.zero_le _) ha (by decide)
  rw [e]
  exact ⟨fun q => this (Or.inl q), fun q => this (Or.inr q)⟩
theorem ge10 {x : Int32} (h : ¬ x ≤ 9) : 10 ≤ x := by
  have e1 : (9 : Int32).toInt = 9 := by decide
  have e2 : (10 : Int32).toInt = 10 := by decide
  rw [i_le, e1] at h
  rw [i_le, e2]
  omega
theorem nb10 {x y : Int32} (h1 : ¬ x < 30) (h : y ≤ 9) : ¬ (x < 30 ∨ 10 ≤ y) := by
  have e1 : (9 : Int32).toInt = 9 := by decide
  have e2 : (10 : Int32).toInt = 10 := by decide
  rw [i_le, e1] at h
  rintro (q | q)
  · exact h1 q
  · rw [i_le, e2] at q; omega
theorem bi_ne1 {c : Prop} [Decidable c] (h : ¬ bi c = 1) : 0 = bi c := ((bi_01 c).resolve_right h).symm
theorem R_le {ru : fN} {np : Nat} (h1 : ∀ i, ru i = 0 ∨ ru i = 1) (hz : ∀ i, np ≤ i → ru i = 0) (hn : np ≤ 5) : ¬ nI np < sumU ru 5 := by
  rw [rN_sum h1, rN_5 hn hz]
  have := rN_le ru np
  intro q
  have := ngt (by omega) (by omega) q
  omega
theorem R_lt {ru : fN} {np j : Nat} (h1 : ∀ i, ru i = 0 ∨ ru i = 1) (hz : ∀ i, np ≤ i → ru i = 0) (hn : np ≤ 5) (hr : ru j = 0) (hj : j < np) : ¬ sumU ru 5 = nI np := by
  rw [rN_sum h1, rN_5 hn hz]
  have := rN_lt hr np hj
  intro q
  have := (nI_eq (by omega) (by omega)).mp q
  omega
theorem len_eq (g u s : Int32) : mxI 0 (mnI 99 (4 * g + 2 * u + s / 4)) = lenU g u s := by
  unfold lenU
  rw [mnI_comm]
theorem gate_bi {sn ic : fN} {gu s : Int32} {g i : Nat} (hb : 1 ≤ g → ¬ badU sn ic (landU (nI g) gu s)) (hh : ∀ k, g < k → k ≤ 20 → badU sn ic (landU (nI k) gu s)) (h1 : g ≤ i) (h2 : i ≤ 20) (h3 : 1 ≤ i) (_ : i < 2 ^ 31) : bi (badU sn ic (landU (nI i) gu s)) = bi (nI g < nI i) := by
  by_cases c : g = i
  · subst c
    rw [bi_f (hb h3), bi_f (fun q => Int32.lt_irrefl q)]
  · rw [bi_t (hh i (by omega) h2), bi_t ((nI_ltI (by omega) (by omega)).mpr (by omega))]
theorem en_ok {wa da pa fl ru sn ic : fN} {tm p : Nat} {wt need : Int32} (h : p < 20) : enU need (fun k9 => (hoursU wa da pa fl ru tm k9 (sn, ic, wt)).1 (ix (nI p))) = 0 ↔ need ≤ sn p := by
  rw [enough_ok]
  show need ≤ sn (ix (nI p)) ↔ _
  rw [ix_nI (by omega)]
theorem ngm1 {n : Nat} (h : n < 2 ^ 31) : ¬ nI n ≤ -1 := by
  have e : (-1 : Int32).toInt = -1 := by decide
  rw [i_le, e, nI_toInt h]
  omega
theorem nn_lt {n : Nat} (h : n < 2 ^ 31) : ¬ nI n < 0 := by
  have e : (0 : Int32).toInt = 0 := by decide
  rw [i_lt, e, nI_toInt h]
  omega
theorem ru_back {ru : fN} {j : Nat} (h : ru j = 0) : upd (upd ru j 1) j (bi (upd ru j 1 j = 0)) = ru := by
  rw [upd_s, bi_f (by decide)]
  funext i
  by_cases c : i = j
  · subst c; rw [upd_s, h]
  · rw [upd_n _ _ c, upd_n _ _ c]
