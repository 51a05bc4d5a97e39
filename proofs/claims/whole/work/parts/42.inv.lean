/-! WHAT HOLDS BETWEEN TWO CALLS, and that each call keeps it -/
def SR (sn : fN) : Prop := ∀ i, i < 20 → ∃ k : Nat, k ≤ 300 ∧ sn i = nI k
def INV (wa da pa fl sn ru pt fa : fN) (tm np nj k : Nat) : Prop :=
  np ≤ 5 ∧ nj ≤ 30 ∧ tm ≤ 96 * k ∧ (∀ i, ru i = 0 ∨ ru i = 1) ∧ (∀ i, np ≤ i → ru i = 0) ∧ (∀ i, i < np → inP (pa i)) ∧ (∀ i, i < np → ¬ (fl i < 1 ∨ 9 < fl i)) ∧ SR sn ∧ (∀ i, nj ≤ i → fa i = 0) ∧ (∀ i, nj ≤ i → pt i = 0) ∧ (∀ i, ¬ (wa i < -30 ∨ 20 < wa i)) ∧ (∀ i, ¬ (da i < 0 ∨ 100 < da i))
theorem bm32 {n : Int} (h1 : -2 ^ 31 ≤ n) (h2 : n < 2 ^ 31) : n.bmod (2 ^ 32) = n := Int.bmod_eq_of_le (by omega) (by omega)
theorem wet_rng {wa da : fN} {k : Nat} (hw : ¬ (wa k < -30 ∨ 20 < wa k)) (hd : ¬ (da k < 0 ∨ 100 < da k)) : -100 ≤ wetU wa da k := by
  obtain ⟨e1, b1⟩ := rng (x := da k) (n := 100) (by decide) hd
  have h1 : (100 - da k) / 10 = nI ((100 - ix (da k)) / 10) := by
    have e2 : 100 - da k = nI (100 - ix (da k)) := by
      rw [e1, ix_nI (by omega)]
      exact pk_sub (a := 100) b1
    rw [e2]
    exact pk_div (a := 100 - ix (da k)) (d := 10) (by omega) (by omega) (by omega)
  unfold wetU
  rw [h1, i_le, Int32.toInt_sub, nI_toInt (by omega)]
  simp only [i_lt, not_or] at hw
  have h2 : (-30 : Int32).toInt = -30 := by decide
  have h3 : (20 : Int32).toInt = 20 := by decide
  have h4 : (-100 : Int32).toInt = -100 := by decide
  rw [h2, h3] at hw
  rw [h4, bm32 (by omega) (by omega)]
  omega
theorem cold_rng {cold : Int32} (hc : cold ≤ -2) (hc2 : -100 ≤ cold) : ∃ c : Nat, c ≤ 8 ∧ mnI (-cold) 8 = nI c := by
  have h2 : (-2 : Int32).toInt = -2 := by decide
  have h4 : (-100 : Int32).toInt = -100 := by decide
  rw [i_le, h2] at hc
  rw [i_le, h4] at hc2
  have h5 : (-cold).toInt = -cold.toInt := by rw [Int32.toInt_neg]; exact bm32 (by omega) (by omega)
  have h0 : ¬ mnI (-cold) 8 < 0 := by
    unfold mnI
    split
    · decide
    · rw [i_lt, h5]
      have : (0 : Int32).toInt = 0 := rfl
      omega
  have h1 : mnI (-cold) 8 ≤ nI 8 := by
    unfold mnI
    split
    · exact Int32.le_refl _
    · rename_i h; exact Int32.not_lt.mp h
  obtain ⟨k, hk, e⟩ := nI_of2 (x := mnI (-cold) 8) (M := nI 8) (n := 8) (nI_toInt (by decide)) h0 h1
  exact ⟨k, hk, e⟩
theorem flow_rng {fl : Int32} (hf : ¬ (fl < 1 ∨ 9 < fl)) : ∃ f : Nat, f ≤ 9 ∧ fl = nI f := by
  obtain ⟨e, b⟩ := rng (x := fl) (n := 9) (by decide) (fun h => hf (h.imp (fun q => Int32.lt_trans q (by decide)) id))
  exact ⟨_, b, e⟩
theorem SR_upd {sn : fN} {k : Nat} {v : Int32} (h : SR sn) (hv : ∃ j : Nat, j ≤ 300 ∧ v = nI j) : SR (upd sn k v) := by
  intro i hi
  by_cases c : i = k
  · subst c; rw [upd_s]; exact hv
  · rw [upd_n _ _ c]; exact h i hi
theorem SR_lay {sn : fN} {x : Int32} {m : Nat} (h : SR sn) (hm : m ≤ 1000) : SR (layU sn x (nI m)) := by
  unfold layU
  split
  · rename_i hx
    refine SR_upd h ?_
    obtain ⟨e, b⟩ := rng (x := x) (n := 19) (by decide) hx
    have hk : x.toNatClampNeg < 20 := by have : ix x ≤ 19 := b; unfold ix at this; omega
    obtain ⟨a, ha, e2⟩ := h _ hk
    rw [e2, nI_add]
    unfold mnI
    split
    · exact ⟨300, Nat.le_refl _, rfl⟩
    · rename_i c
      refine ⟨a + m, ?_, rfl⟩
      exact nngt (N := 300) (by decide) (by omega) c
  · exact h
theorem SR_work {pa fl cold : Int32} {σ : fN × fN × Int32} (h : SR σ.1) (hf : ¬ (fl < 1 ∨ 9 < fl)) (hc : -100 ≤ cold) : SR (workU pa fl cold σ).1 := by
  unfold workU
  split
  · exact h
  · split
    · exact h
    · rename_i c1 c2
      obtain ⟨f, hf9, ef⟩ := flow_rng hf
      obtain ⟨c, hc8, ec⟩ := cold_rng (Int32.not_lt.mp c2) hc
      have hm : f * c ≤ 72 := Nat.mul_le_mul hf9 hc8
      have e2 : fl * mnI (-cold) 8 / 2 = nI (f * c / 2) := by rw [ef, ec, pk_mul]; exact pk_div (d := 2) (by omega) (by omega) (by omega)
      have e4 : fl * mnI (-cold) 8 / 4 = nI (f * c / 4) := by rw [ef, ec, pk_mul]; exact pk_div (d := 4) (by omega) (by omega) (by omega)
      show SR (layU (layU (layU σ.1 pa (fl * mnI (-cold) 8 / 2)) (pa - 1) (fl * mnI (-cold) 8 / 4)) (pa + 1) (fl * mnI (-cold) 8 / 4))
      rw [e2, e4]
      exact SR_lay (SR_lay (SR_lay h (by omega)) (by omega)) (by omega)
theorem SR_pumps {pa fl ru : fN} {cold : Int32} {np : Nat} {σ : fN × fN × Int32} (h : SR σ.1) (hz : ∀ i, np ≤ i → ru i = 0) (hf : ∀ i, i < np → ¬ (fl i < 1 ∨ 9 < fl i)) (hc : -100 ≤ cold) : ∀ n, SR (pumpsU pa fl ru cold n σ).1 := by
  intro n
  induction n with
  | zero => exact h
  | succ n ih =>
    unfold pumpsU
    split
    · exact ih
    · rename_i c
      refine SR_work ih (hf n ?_) hc
      rcases Nat.lt_or_ge n np with q | q
      · exact q
      · exact absurd (hz n q) c
theorem sub_max {a : Nat} {w : Int32} (ha : a ≤ 300) (hw : 0 < w) (hw2 : w ≤ 20) : ∃ j : Nat, j ≤ 300 ∧ mxI 0 (nI a - w) = nI j := by
  obtain ⟨c, hc, rfl⟩ := nI_of2 (x := w) (M := 20) (n := 20) (by decide) (fun q => Int32.lt_irrefl (Int32.lt_trans hw q)) hw2
  rcases Nat.lt_or_ge a c with q | q
  · refine ⟨0, by omega, ?_⟩
    unfold mxI
    exact if_neg (fun h => Int32.lt_irrefl (Int32.lt_trans h (pk_sneg (by omega) q)))
  · refine ⟨a - c, by omega, ?_⟩
    rw [pk_sub q]
    unfold mxI
    split
    · rfl
    · rename_i h
      have : a - c ≤ 0 := nngt (N := 0) (i := a - c) (by decide) (by omega) h
      rw [show a - c = 0 by omega]; rfl
theorem SR_air {w : Int32} {σ : fN × fN × Int32} (h : SR σ.1) (hw : ¬ (w < -30 ∨ 20 < w)) : SR (airU w σ).1 := by
  unfold airU
  split
  · rename_i c
    intro i hi
    show ∃ k : Nat, k ≤ 300 ∧ meltS σ.1 w 20 i = nI k
    obtain ⟨a, ha, e⟩ := h i hi
    unfold meltS
    rw [if_pos hi, e]
    exact sub_max ha c (Int32.not_lt.mp (fun q => hw (Or.inr q)))
  · exact h
theorem SR_hours {wa da pa fl ru : fN} {tm np : Nat} {σ : fN × fN × Int32} (h : SR σ.1) (hz : ∀ i, np ≤ i → ru i = 0) (hf : ∀ i, i < np → ¬ (fl i < 1 ∨ 9 < fl i)) (hw : ∀ i, ¬ (wa i < -30 ∨ 20 < wa i)) (hd : ∀ i, ¬ (da i < 0 ∨ 100 < da i)) : ∀ n, SR (hoursU wa da pa fl ru tm n σ).1 := by
  intro n
  induction n with
  | zero => exact h
  | succ n ih => exact SR_air (SR_pumps ih hz hf (wet_rng (hw _) (hd _)) 5) (hw _)
theorem SR_groom {sn : fN} {a n : Nat} (h : SR sn) (hn : a + n ≤ 20) (h0 : 0 < n) : SR (grU sn a n n) := by
  intro i hi
  unfold grU
  split
  · rename_i c
    obtain ⟨A, hA, e⟩ := sumR_N (a := a) h n hn
    have hok : grOK sn a n A := ⟨e, by omega, h0, by omega⟩
    refine ⟨cellN A n (i - a), ?_, cell_N hok (by omega)⟩
    have hr : A % n < n := Nat.mod_lt _ h0
    have hdm := Nat.div_add_mod A n
    unfold cellN
    split
    · have : ¬ 300 ≤ A / n := fun q => by
        have := Nat.mul_le_mul_left n q
        rw [Nat.mul_comm n 300] at this
        omega
      omega
    · exact Nat.div_le_of_le_mul (by rw [Nat.mul_comm]; exact hA)
  · exact h i hi
theorem upd_all {P : Int32 → Prop} {f : fN} {k : Nat} {v : Int32} (h : ∀ i, P (f i)) (hv : P v) : ∀ i, P (upd f k v i) := by
  intro i
  by_cases c : i = k
  · subst c; rw [upd_s]; exact hv
  · rw [upd_n _ _ c]; exact h i
theorem upd_lt {P : Int32 → Prop} {f : fN} {n : Nat} {v : Int32} (h : ∀ i, i < n → P (f i)) (hv : P v) : ∀ i, i < n + 1 → P (upd f n v i) := by
  intro i hi
  by_cases c : i = n
  · subst c; rw [upd_s]; exact hv
  · rw [upd_n _ _ c]; exact h i (by omega)
theorem upd_ge {f : fN} {n m k : Nat} {v : Int32} (h : ∀ i, n ≤ i → f i = 0) (hnm : n ≤ m) (hk : k < m) : ∀ i, m ≤ i → upd f k v i = 0 := by
  intro i hi
  rw [upd_n _ _ (by omega)]
  exact h i (by omega)
theorem sum_30 {f : fN} {n : Nat} (hn : n ≤ 30) (hz : ∀ i, n ≤ i → f i = 0) : sumU f n = sumU f 30 := by
  have := sum_z f n hz (30 - n)
  rw [show n + (30 - n) = 30 by omega] at this
  exact this.symm
section
variable {wa da gu pa fl sn ic ru pt fa : fN} {wt : Int32} {tm np nj k : Nat}
theorem INV.next (h : INV wa da pa fl sn ru pt fa tm np nj k) : INV wa da pa fl sn ru pt fa tm np nj (k + 1) := by
  obtain ⟨h1, h2, h3, h⟩ := h
  exact ⟨h1, h2, by omega, h⟩
theorem INV.wea {v0 v1 v2 v3 : Int32} (h : INV wa da pa fl sn ru pt fa tm np nj k) (ht : tSetW v0 v1 v2 v3 = 0) : INV (upd wa (ix v0) v1) (upd da (ix v0) v2) pa fl sn ru pt fa tm np nj (k + 1) := by
  obtain ⟨h1, h2, h3, h4, h5, h6, h7, h8, h9, h10, h11, h12⟩ := h
  obtain ⟨n1, n2, n3, n4⟩ := tSetW_0 ht
  exact ⟨h1, h2, by omega, h4, h5, h6, h7, h8, h9, h10, upd_all (P := fun x => ¬ (x < -30 ∨ 20 < x)) h11 n2, upd_all (P := fun x => ¬ (x < 0 ∨ 100 < x)) h12 n3⟩
theorem INV.pump {v0 v1 : Int32} (h : INV wa da pa fl sn ru pt fa tm np nj k) (ht : tPump v0 v1 np = 0) : INV wa da (upd pa np v0) (upd fl np v1) sn ru pt fa tm (np + 1) nj (k + 1) := by
  obtain ⟨h1, h2, h3, h4, h5, h6, h7, h8, h9, h10, h11, h12⟩ := h
  obtain ⟨n1, n2, n3⟩ := tPump_0 ht
  exact ⟨by omega, h2, by omega, h4, fun i hi => h5 i (by omega), upd_lt (P := inP) h6 n1, upd_lt (P := fun x => ¬ (x < 1 ∨ 9 < x)) h7 n2, h8, h9, h10, h11, h12⟩
theorem INV.run {v0 : Int32} (h : INV wa da pa fl sn ru pt fa tm np nj k) (ht : tRun v0 np = 0) : INV wa da pa fl sn (upd ru (ix v0) (bi (ru (ix v0) = 0))) pt fa tm np nj (k + 1) := by
  obtain ⟨h1, h2, h3, h4, h5, h6, h7, h8, h9, h10, h11, h12⟩ := h
  obtain ⟨e1, b1⟩ := rngm (x := v0) (n := np) (by omega) (tRun_0 ht)
  exact ⟨h1, h2, by omega, upd_all (P := fun x => x = 0 ∨ x = 1) h4 (bi_01 _), upd_ge h5 (Nat.le_refl _) b1, h6, h7, h8, h9, h10, h11, h12⟩
theorem INV.groom {v0 v1 : Int32} (h : INV wa da pa fl sn ru pt fa tm np nj k) (ht : tGroom v0 v1 = 0) : INV wa da pa fl (grU sn (ix v0) (ix v1 - ix v0 + 1) (ix v1 - ix v0 + 1)) ru pt fa tm np nj (k + 1) := by
  obtain ⟨h1, h2, h3, h4, h5, h6, h7, h8, h9, h10, h11, h12⟩ := h
  obtain ⟨n1, n2, n3⟩ := tGroom_0 ht
  obtain ⟨e1, b1⟩ := rng (x := v0) (n := 19) (by decide) n1
  obtain ⟨e2, b2⟩ := rng (x := v1) (n := 19) (by decide) n2
  have hab := ix_le (n := 19) (by decide) e1 e2 b1 b2 n3
  exact ⟨h1, h2, by omega, h4, h5, h6, h7, SR_groom h8 (by omega) (by omega), h9, h10, h11, h12⟩
theorem INV.jump {v9 w9 : Int32} {k9 : Nat} (hk9 : k9 < 20) (h : INV wa da pa fl sn ru pt fa tm np nj k) {v0 v1 v2 : Int32} (ht : tJump v0 v1 v2 nj = 0) : INV wa da pa fl (upd sn k9 (mxI 0 (sn k9 - 3))) ru (upd pt nj v9) (upd fa nj w9) tm np (nj + 1) (k + 1) := by
  obtain ⟨h1, h2, h3, h4, h5, h6, h7, h8, h9, h10, h11, h12⟩ := h
  obtain ⟨n1, n2, n3, n4⟩ := tJump_0 ht
  obtain ⟨a, ha, e⟩ := h8 k9 hk9
  exact ⟨h1, by omega, by omega, h4, h5, h6, h7, SR_upd h8 (by rw [e]; exact sub_max ha (by decide) (by decide)), upd_ge h9 (Nat.le_succ _) (Nat.lt_succ_self _), upd_ge h10 (Nat.le_succ _) (Nat.lt_succ_self _), h11, h12⟩
theorem INV.pass {v0 : Int32} (h : INV wa da pa fl sn ru pt fa tm np nj k) (ht : tPass v0 = 0) : INV wa da pa fl (hoursU wa da pa fl ru tm (ix v0) (sn, ic, wt)).1 ru pt fa (tm + ix v0) np nj (k + 1) := by
  obtain ⟨h1, h2, h3, h4, h5, h6, h7, h8, h9, h10, h11, h12⟩ := h
  have n1 := tPass_0 ht
  have b1 := (rng (x := v0) (n := 96) (by decide) (fun h9 => n1 (h9.imp (fun q9 => Int32.lt_trans q9 (by decide)) id))).2
  exact ⟨h1, h2, by omega, h4, h5, h6, h7, SR_hours (σ := (sn, ic, wt)) h8 h5 h7 h11 h12 _, h9, h10, h11, h12⟩
end
theorem INV_0 : INV (fun _ => -5) (fun _ => 50) (fun _ => 0) (fun _ => 0) (fun _ => 0) (fun _ => 0) (fun _ => 0) (fun _ => 0) 0 0 0 0 :=
  ⟨by omega, by omega, by omega, fun _ => Or.inl rfl, fun _ _ => rfl, fun i h => absurd h (by omega), fun i h => absurd h (by omega), fun i _ => ⟨0, by omega, rfl⟩, fun _ _ => rfl, fun _ _ => rfl, fun _ => (by decide : ¬ ((-5 : Int32) < -30 ∨ 20 < (-5 : Int32))), fun _ => (by decide : ¬ ((50 : Int32) < 0 ∨ 100 < (50 : Int32)))⟩
