/-! SPEC of an hour on the law's own hill, and of its marks -/
def SR (sn : fN) : Prop := ∀ i, i < 20 → ∃ k : Nat, k ≤ 300 ∧ sn i = nI k
def IR (ic : fN) : Prop := ∀ i, i < 20 → ∃ k : Nat, k ≤ 50 ∧ ic i = nI k
theorem IR_upd {ic : fN} {k : Nat} {v : Int32} (h : IR ic) (hv : ∃ j : Nat, j ≤ 50 ∧ v = nI j) : IR (upd ic k v) := by
  intro i hi
  by_cases c : i = k
  · subst c; rw [upd_s]; exact hv
  · rw [upd_n _ _ c]; exact h i hi
theorem inP_lt {x : Int32} (h : inP x) : x.toNatClampNeg < 20 := by
  have : ix x ≤ 19 := (rng (x := x) (n := 19) (by decide) h).2
  unfold ix at this
  omega
theorem IR_icy {ic : fN} {x : Int32} (h : IR ic) : IR (icyU ic x) := by
  unfold icyU
  split
  · rename_i hx
    obtain ⟨a, ha, e⟩ := h _ (inP_lt hx)
    refine IR_upd h ?_
    rw [e, nI_1]
    unfold mnI
    split
    · exact ⟨50, Nat.le_refl _, rfl⟩
    · rename_i c; exact ⟨a + 1, nngt (N := 50) (by decide) (by omega) c, rfl⟩
  · exact h
theorem IR_work {pa fl cold : Int32} {σ : fN × fN × Int32} (h : IR σ.2.1) : IR (workU pa fl cold σ).2.1 := by
  unfold workU
  split
  · exact h
  · split
    · exact IR_icy h
    · exact h
theorem IR_pumps {pa fl ru : fN} {cold : Int32} {σ : fN × fN × Int32} (h : IR σ.2.1) : ∀ n, IR (pumpsU pa fl ru cold n σ).2.1 := by
  intro n
  induction n with
  | zero => exact h
  | succ n ih =>
    unfold pumpsU
    split
    · exact ih
    · exact IR_work ih
theorem melt_1 {a : Nat} (ha : a ≤ 50) : mxI 0 (nI a - 1) = nI (a - 1) := by
  cases a with
  | zero => decide
  | succ n =>
    rw [nI_pred]
    exact (mx0_ge (nI_pos' (by omega))).symm
theorem IR_air {w : Int32} {σ : fN × fN × Int32} (h : IR σ.2.1) : IR (airU w σ).2.1 := by
  unfold airU
  split
  · intro i hi
    obtain ⟨a, ha, e⟩ := h i hi
    refine ⟨a - 1, by omega, ?_⟩
    show meltI σ.2.1 20 i = _
    unfold meltI
    rw [if_pos hi, e]
    exact melt_1 ha
  · exact h
/-- what holds of the hill and what lies about it -/
def OKH (wa da pa fl ru sn ic : fN) (np : Nat) : Prop := (∀ i, ¬ (wa i < -30 ∨ 20 < wa i)) ∧ (∀ i, ¬ (da i < 0 ∨ 100 < da i)) ∧ (∀ i, i < np → inP (pa i)) ∧ (∀ i, i < np → ¬ (fl i < 1 ∨ 9 < fl i)) ∧ (∀ i, ru i = 0 ∨ ru i = 1) ∧ (∀ i, np ≤ i → ru i = 0) ∧ SR sn ∧ IR ic ∧ np ≤ 5
theorem bm32 {n : Int} (h1 : -2 ^ 31 ≤ n) (h2 : n < 2 ^ 31) : n.bmod (2 ^ 32) = n := Int.bmod_eq_of_le (by omega) (by omega)
theorem wet_rng {wa da : fN} {k : Nat} (hw : ¬ (wa k < -30 ∨ 20 < wa k)) (hd : ¬ (da k < 0 ∨ 100 < da k)) : -100 ≤ wetU wa da k := by
  obtain ⟨e1, b1⟩ := rng (x := da k) (n := 100) (by decide) hd
  have h1 : (100 - da k) / 10 = nI ((100 - ix (da k)) / 10) := by
    have e2 : 100 - da k = nI (100 - ix (da k)) := by
      rw [e1, ix_nI (by omega)]
      exact pk_sub (a := 100) b1
    rw [e2]
    exact pk_div (a := 100 - ix (da k)) (d := 10) (by omega) (by omega) (by omega)
  unfold wetU
  rw [h1, i_le, Int32.toInt_sub, nI_toInt (by omega)]
  simp only [i_lt, not_or] at hw
  have h2 : (-30 : Int32).toInt = -30 := by decide
  have h3 : (20 : Int32).toInt = 20 := by decide
  have h4 : (-100 : Int32).toInt = -100 := by decide
  rw [h2, h3] at hw
  rw [h4, bm32 (by omega) (by omega)]
  omega
theorem neg_lt2 {x : Int32} (h : -100 ≤ x) : -x < 2 ↔ -2 < x := by
  rw [i_le] at h
  rw [i_lt, i_lt, Int32.toInt_neg]
  have h4 : (-100 : Int32).toInt = -100 := by decide
  have h2 : (-2 : Int32).toInt = -2 := by decide
  have h3 : (2 : Int32).toInt = 2 := by decide
  have hx := Int32.toInt_lt x
  rw [h4] at h
  rw [h2, h3, bm32 (by omega) (by omega)]
  omega
theorem layU_comm {sn : fN} {x y a b : Int32} (h : inP x → inP y → x.toNatClampNeg ≠ y.toNatClampNeg) : layU (layU sn x a) y b = layU (layU sn y b) x a := by
  by_cases hx : inP x <;> by_cases hy : inP y
  · have hn := h hx hy
    rw [← layU_t hx, ← layU_t hy, ← layU_t hx, ← layU_t hy, upd_n _ _ hn, upd_n _ _ (Ne.symm hn)]
    funext j
    by_cases c1 : j = x.toNatClampNeg <;> by_cases c2 : j = y.toNatClampNeg
    · exact absurd (c1.symm.trans c2) hn
    · rw [upd_n _ _ c2, c1, upd_s, upd_s]
    · rw [c2, upd_s, upd_n _ _ (Ne.symm hn), upd_s]
    · rw [upd_n _ _ c2, upd_n _ _ c1, upd_n _ _ c1, upd_n _ _ c2]
  · have e : ∀ f : fN, layU f y b = f := fun f => if_neg hy
    rw [e, e]
  · have e : ∀ f : fN, layU f x a = f := fun f => if_neg hx
    rw [e, e]
  · have e : ∀ f : fN, layU f x a = f := fun f => if_neg hx
    rw [e, e]
theorem pred_ne {p : Int32} (h1 : inP (p - 1)) (h2 : inP p) : (p - 1).toNatClampNeg ≠ p.toNatClampNeg := by
  obtain ⟨e, b⟩ := rng (x := p) (n := 19) (by decide) h2
  cases hk : ix p with
  | zero =>
    rw [hk] at e
    rw [e] at h1
    exact absurd h1 (by decide)
  | succ k =>
    rw [hk] at e b
    rw [e, nI_pred, nI_clamp (by omega), nI_clamp (by omega)]
    omega
theorem work_snow {pa fl cold : Int32} {σ : fN × fN × Int32} (h : fl ≤ σ.2.2) (hc : -100 ≤ cold) (h2 : ¬ -cold < 2) : workU pa fl cold σ = (layU (layU (layU σ.1 (pa - 1) (fl * mnI (-cold) 8 / 4)) pa (fl * mnI (-cold) 8 / 2)) (pa + 1) (fl * mnI (-cold) 8 / 4), σ.2.1, σ.2.2 - fl) := by
  unfold workU
  rw [if_neg (Int32.not_lt.mpr h), if_neg (mt (neg_lt2 hc).mpr h2), layU_comm (x := pa - 1) pred_ne]
theorem work_ice {pa fl cold : Int32} {σ : fN × fN × Int32} (h : fl ≤ σ.2.2) (hc : -100 ≤ cold) (h2 : -cold < 2) : workU pa fl cold σ = (σ.1, icyU σ.2.1 pa, σ.2.2 - fl) := by
  unfold workU
  rw [if_neg (Int32.not_lt.mpr h), if_pos ((neg_lt2 hc).mp h2)]
theorem work_no {pa fl cold : Int32} {σ : fN × fN × Int32} (h : ¬ fl ≤ σ.2.2) : workU pa fl cold σ = σ := if_pos (Int32.not_le.mp h)
theorem icy_50 {ic : fN} {x : Int32} (h : IR ic) (hx : inP x) (c : 50 ≤ ic x.toNatClampNeg) : ic = icyU ic x := by
  obtain ⟨a, ha, e⟩ := h _ (inP_lt hx)
  rw [← icyU_t hx]
  have : a = 50 := by
    rw [e] at c
    have := (nI_leI (a := 50) (by omega) (by omega)).mp c
    omega
  subst this
  have e2 : mnI (ic x.toNatClampNeg + 1) 50 = ic x.toNatClampNeg := by rw [e]; decide
  rw [e2, upd_id]
theorem icy_lt {ic : fN} {x : Int32} (h : IR ic) (hx : inP x) (c : ¬ 50 ≤ ic x.toNatClampNeg) : upd ic x.toNatClampNeg (ic x.toNatClampNeg + 1) = icyU ic x := by
  obtain ⟨a, ha, e⟩ := h _ (inP_lt hx)
  rw [← icyU_t hx]
  have h2 : a < 50 := by
    rw [e] at c
    have := mt (nI_leI (a := 50) (b := a) (by omega) (by omega)).mpr c
    omega
  congr 1
  rw [e, nI_1]
  unfold mnI
  exact (if_neg (show ¬ (50 : Int32) < nI (a + 1) from nI_nlt (a := 50) (b := a + 1) (by omega) (by omega))).symm
theorem pumps_np {pa fl ru : fN} {cold : Int32} {np : Nat} {σ : fN × fN × Int32} (hz : ∀ i, np ≤ i → ru i = 0) : ∀ m, pumpsU pa fl ru cold (np + m) σ = pumpsU pa fl ru cold np σ := by
  intro m
  induction m with
  | zero => rfl
  | succ m ih => exact ((pumpsU_0 σ (hz (np + m) (by omega))).symm).trans ih
/-- the air's part of an hour, part by part -/
def mSU (S : fN) (w : Int32) (k : Nat) : fN := if 0 < w then meltS S w k else S
def mIU (I : fN) (w : Int32) (k : Nat) : fN := if 0 < w then meltI I k else I
theorem mSU_0 (S : fN) (w : Int32) : S = mSU S w 0 := by unfold mSU; split; · exact (meltS_0 _ _).symm
                                                         · rfl
theorem mIU_0 (I : fN) (w : Int32) : I = mIU I w 0 := by unfold mIU; split; · exact (meltI_0 _).symm
                                                         · rfl
theorem mSU_n {S : fN} {w : Int32} {k : Nat} (h : ¬ 0 < w) : mSU S w k = mSU S w (k + 1) := by unfold mSU; rw [if_neg h, if_neg h]
theorem mIU_n {I : fN} {w : Int32} {k : Nat} (h : ¬ 0 < w) : mIU I w k = mIU I w (k + 1) := by unfold mIU; rw [if_neg h, if_neg h]
theorem mSU_r (S : fN) (w : Int32) (k : Nat) : mSU S w k k = S k := by unfold mSU meltS; split; · exact if_neg (Nat.lt_irrefl _)
                                                                       · rfl
theorem mIU_r (I : fN) (w : Int32) (k : Nat) : mIU I w k k = I k := by unfold mIU meltI; split; · exact if_neg (Nat.lt_irrefl _)
                                                                       · rfl
theorem mSU_y {S : fN} {w : Int32} {k : Nat} (h : 0 < w) : upd (mSU S w k) k (mxI 0 (S k - w)) = mSU S w (k + 1) := by
  have e := mSU_r S w k
  unfold mSU at e ⊢
  rw [if_pos h] at e ⊢
  rw [if_pos h, ← meltS_1, e]
theorem mIU_y {I : fN} {w : Int32} {k : Nat} (h : 0 < w) : upd (mIU I w k) k (mxI 0 (I k - 1)) = mIU I w (k + 1) := by
  have e := mIU_r I w k
  unfold mIU at e ⊢
  rw [if_pos h] at e ⊢
  rw [if_pos h, ← meltI_1, e]
theorem mIU_z {I : fN} {w : Int32} {k : Nat} (hI : IR I) (hk : k < 20) (h : 0 < w) (c : I k ≤ 0) : mIU I w k = mIU I w (k + 1) := by
  rw [← mIU_y h]
  obtain ⟨a, ha, e⟩ := hI k hk
  have : a = 0 := by
    rw [e] at c
    have := (nI_leI (b := 0) (by omega) (by omega)).mp c
    omega
  subst this
  have e2 : mxI 0 (I k - 1) = mIU I w k k := by rw [mIU_r, e]; decide
  rw [e2, upd_id]
theorem mIU_p {I : fN} {w : Int32} {k : Nat} (hI : IR I) (hk : k < 20) (h : 0 < w) (c : ¬ I k ≤ 0) : upd (mIU I w k) k (I k - 1) = mIU I w (k + 1) := by
  rw [← mIU_y h]
  obtain ⟨a, ha, e⟩ := hI k hk
  cases a with
  | zero => exact absurd (by rw [e]; exact Int32.le_refl _) c
  | succ n => rw [e, melt_1 ha, nI_pred, Nat.add_sub_cancel]
theorem mS_ge {S : fN} {w : Int32} {k : Nat} (hS : SR S) (hk : k < 20) (h : 0 < w) (hw : ¬ 20 < w) (c : w ≤ S k) : S k - w = mxI 0 (S k - w) := by
  obtain ⟨a, ha, e⟩ := hS k hk
  obtain ⟨b, hb, rfl⟩ := nI_of2 (x := w) (M := 20) (n := 20) (by decide) (fun q => Int32.lt_irrefl (Int32.lt_trans h q)) (Int32.not_lt.mp hw)
  rw [e] at c ⊢
  rw [pk_sub ((nI_leI (by omega) (by omega)).mp c)]
  exact mx0_ge (nI_pos' (by omega))
theorem mS_lt {S : fN} {w : Int32} {k : Nat} (hS : SR S) (hk : k < 20) (h : 0 < w) (hw : ¬ 20 < w) (c : ¬ w ≤ S k) : (0 : Int32) = mxI 0 (S k - w) := by
  obtain ⟨a, ha, e⟩ := hS k hk
  obtain ⟨b, hb, rfl⟩ := nI_of2 (x := w) (M := 20) (n := 20) (by decide) (fun q => Int32.lt_irrefl (Int32.lt_trans h q)) (Int32.not_lt.mp hw)
  rw [e] at c ⊢
  have : a < b := by
    have := mt (nI_leI (a := b) (b := a) (by omega) (by omega)).mpr c
    omega
  exact mx0_lt (Int32.not_le.mpr (pk_sneg (by omega) this))
theorem air_1 (w : Int32) (σ : fN × fN × Int32) : mSU σ.1 w 20 = (airU w σ).1 := by unfold mSU airU; split <;> rfl
theorem air_2 (w : Int32) (σ : fN × fN × Int32) : mIU σ.2.1 w 20 = (airU w σ).2.1 := by unfold mIU airU; split <;> rfl
theorem air_3 (w : Int32) (σ : fN × fN × Int32) : σ.2.2 = (airU w σ).2.2 := by unfold airU; split <;> rfl
theorem hour_np {wa da pa fl ru sn ic : fN} {np c : Nat} {wt : Int32} (h : OKH wa da pa fl ru sn ic np) : hourU wa da pa fl ru c (sn, ic, wt) = airU (wa c) (pumpsU pa fl ru (wetU wa da c) np (sn, ic, wt)) := by
  obtain ⟨h1, h2, h3, h4, h5, h6, h7, h8, h9⟩ := h
  unfold hourU
  have := pumps_np (pa := pa) (fl := fl) (cold := wetU wa da c) (σ := (sn, ic, wt)) h6 (5 - np)
  rw [show np + (5 - np) = 5 by omega] at this
  rw [this]
theorem cold_rng {cold : Int32} (hc : cold ≤ -2) (hc2 : -100 ≤ cold) : ∃ c : Nat, c ≤ 8 ∧ mnI (-cold) 8 = nI c := by
  have h2 : (-2 : Int32).toInt = -2 := by decide
  have h4 : (-100 : Int32).toInt = -100 := by decide
  rw [i_le, h2] at hc
  rw [i_le, h4] at hc2
  have h5 : (-cold).toInt = -cold.toInt := by rw [Int32.toInt_neg]; exact bm32 (by omega) (by omega)
  have h0 : ¬ mnI (-cold) 8 < 0 := by
    unfold mnI
    split
    · decide
    · rw [i_lt, h5]
      have : (0 : Int32).toInt = 0 := rfl
      omega
  have h1 : mnI (-cold) 8 ≤ nI 8 := by
    unfold mnI
    split
    · exact Int32.le_refl _
    · rename_i h; exact Int32.not_lt.mp h
  obtain ⟨k, hk, e⟩ := nI_of2 (x := mnI (-cold) 8) (M := nI 8) (n := 8) (nI_toInt (by decide)) h0 h1
  exact ⟨k, hk, e⟩
theorem flow_rng {fl : Int32} (hf : ¬ (fl < 1 ∨ 9 < fl)) : ∃ f : Nat, f ≤ 9 ∧ fl = nI f := by
  obtain ⟨e, b⟩ := rng (x := fl) (n := 9) (by decide) (fun h => hf (h.imp (fun q => Int32.lt_trans q (by decide)) id))
  exact ⟨_, b, e⟩
theorem SR_upd {sn : fN} {k : Nat} {v : Int32} (h : SR sn) (hv : ∃ j : Nat, j ≤ 300 ∧ v = nI j) : SR (upd sn k v) := by
  intro i hi
  by_cases c : i = k
  · subst c; rw [upd_s]; exact hv
  · rw [upd_n _ _ c]; exact h i hi
theorem SR_lay {sn : fN} {x : Int32} {m : Nat} (h : SR sn) (hm : m ≤ 1000) : SR (layU sn x (nI m)) := by
  unfold layU
  split
  · rename_i hx
    refine SR_upd h ?_
    obtain ⟨e, b⟩ := rng (x := x) (n := 19) (by decide) hx
    have hk : x.toNatClampNeg < 20 := by have : ix x ≤ 19 := b; unfold ix at this; omega
    obtain ⟨a, ha, e2⟩ := h _ hk
    rw [e2, nI_add]
    unfold mnI
    split
    · exact ⟨300, Nat.le_refl _, rfl⟩
    · rename_i c
      refine ⟨a + m, ?_, rfl⟩
      exact nngt (N := 300) (by decide) (by omega) c
  · exact h
theorem SR_work {pa fl cold : Int32} {σ : fN × fN × Int32} (h : SR σ.1) (hf : ¬ (fl < 1 ∨ 9 < fl)) (hc : -100 ≤ cold) : SR (workU pa fl cold σ).1 := by
  unfold workU
  split
  · exact h
  · split
    · exact h
    · rename_i c1 c2
      obtain ⟨f, hf9, ef⟩ := flow_rng hf
      obtain ⟨c, hc8, ec⟩ := cold_rng (Int32.not_lt.mp c2) hc
      have hm : f * c ≤ 72 := Nat.mul_le_mul hf9 hc8
      have e2 : fl * mnI (-cold) 8 / 2 = nI (f * c / 2) := by rw [ef, ec, pk_mul]; exact pk_div (d := 2) (by omega) (by omega) (by omega)
      have e4 : fl * mnI (-cold) 8 / 4 = nI (f * c / 4) := by rw [ef, ec, pk_mul]; exact pk_div (d := 4) (by omega) (by omega) (by omega)
      show SR (layU (layU (layU σ.1 pa (fl * mnI (-cold) 8 / 2)) (pa - 1) (fl * mnI (-cold) 8 / 4)) (pa + 1) (fl * mnI (-cold) 8 / 4))
      rw [e2, e4]
      exact SR_lay (SR_lay (SR_lay h (by omega)) (by omega)) (by omega)
theorem SR_pumps {pa fl ru : fN} {cold : Int32} {np : Nat} {σ : fN × fN × Int32} (h : SR σ.1) (hz : ∀ i, np ≤ i → ru i = 0) (hf : ∀ i, i < np → ¬ (fl i < 1 ∨ 9 < fl i)) (hc : -100 ≤ cold) : ∀ n, SR (pumpsU pa fl ru cold n σ).1 := by
  intro n
  induction n with
  | zero => exact h
  | succ n ih =>
    unfold pumpsU
    split
    · exact ih
    · rename_i c
      refine SR_work ih (hf n ?_) hc
      rcases Nat.lt_or_ge n np with q | q
      · exact q
      · exact absurd (hz n q) c
theorem sub_max {a : Nat} {w : Int32} (ha : a ≤ 300) (hw : 0 < w) (hw2 : w ≤ 20) : ∃ j : Nat, j ≤ 300 ∧ mxI 0 (nI a - w) = nI j := by
  obtain ⟨c, hc, rfl⟩ := nI_of2 (x := w) (M := 20) (n := 20) (by decide) (fun q => Int32.lt_irrefl (Int32.lt_trans hw q)) hw2
  rcases Nat.lt_or_ge a c with q | q
  · refine ⟨0, by omega, ?_⟩
    unfold mxI
    exact if_neg (fun h => Int32.lt_irrefl (Int32.lt_trans h (pk_sneg (by omega) q)))
  · refine ⟨a - c, by omega, ?_⟩
    rw [pk_sub q]
    unfold mxI
    split
    · rfl
    · rename_i h
      have : a - c ≤ 0 := nngt (N := 0) (i := a - c) (by decide) (by omega) h
      rw [show a - c = 0 by omega]; rfl
theorem SR_air {w : Int32} {σ : fN × fN × Int32} (h : SR σ.1) (hw : ¬ (w < -30 ∨ 20 < w)) : SR (airU w σ).1 := by
  unfold airU
  split
  · rename_i c
    intro i hi
    show ∃ k : Nat, k ≤ 300 ∧ meltS σ.1 w 20 i = nI k
    obtain ⟨a, ha, e⟩ := h i hi
    unfold meltS
    rw [if_pos hi, e]
    exact sub_max ha c (Int32.not_lt.mp (fun q => hw (Or.inr q)))
  · exact h
theorem SR_hours {wa da pa fl ru : fN} {tm np : Nat} {σ : fN × fN × Int32} (h : SR σ.1) (hz : ∀ i, np ≤ i → ru i = 0) (hf : ∀ i, i < np → ¬ (fl i < 1 ∨ 9 < fl i)) (hw : ∀ i, ¬ (wa i < -30 ∨ 20 < wa i)) (hd : ∀ i, ¬ (da i < 0 ∨ 100 < da i)) : ∀ n, SR (hoursU wa da pa fl ru tm n σ).1 := by
  intro n
  induction n with
  | zero => exact h
  | succ n ih => exact SR_air (SR_pumps ih hz hf (wet_rng (hw _) (hd _)) 5) (hw _)
