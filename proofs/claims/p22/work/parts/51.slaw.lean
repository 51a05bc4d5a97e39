/-! SPEC of the law's own checks -/
/-- the pumps of the parts 0 .. i - 1 -/
def pcU (pa : fN) (np : Nat) : Nat → Int32
  | 0 => 0
  | i + 1 => pcU pa np i + cntU pa (nI i) np
theorem pcU_0 (pa : fN) : ∀ m, pcU pa 0 m = 0 := by
  intro m
  induction m with
  | zero => rfl
  | succ m ih => show pcU pa 0 m + 0 = 0; rw [ih]; rfl
theorem pcU_1 {pa : fN} {n j : Nat} (hj : j < 20) (e : pa n = nI j) : ∀ m, m ≤ 20 → pcU pa (n + 1) m = pcU pa n m + nI (if j < m then 1 else 0) := by
  intro m
  induction m with
  | zero => intro _; rfl
  | succ m ih =>
    intro hm
    show pcU pa (n + 1) m + (if pa n = nI m then cntU pa (nI m) n + 1 else cntU pa (nI m) n) = pcU pa n m + cntU pa (nI m) n + _
    rw [ih (by omega), e]
    by_cases c : j = m
    · subst c
      rw [if_pos rfl, if_neg (Nat.lt_irrefl _), if_pos (Nat.lt_succ_self _)]
      show pcU pa n j + 0 + (cntU pa (nI j) n + 1) = _
      rw [Int32.add_zero, Int32.add_assoc]; rfl
    · rw [if_neg (fun h => c ((nI_eq (by omega) (by omega)).mp h))]
      by_cases c2 : j < m
      · rw [if_pos c2, if_pos (by omega), Int32.add_assoc, Int32.add_assoc, Int32.add_comm (nI 1)]
      · rw [if_neg c2, if_neg (by omega)]
        show pcU pa n m + 0 + cntU pa (nI m) n = pcU pa n m + cntU pa (nI m) n + 0
        rw [Int32.add_zero, Int32.add_zero]
theorem pcU_np {pa : fN} : ∀ np, (∀ i, i < np → inP (pa i)) → pcU pa np 20 = nI np := by
  intro np
  induction np with
  | zero => intro _; exact pcU_0 _ _
  | succ n ih =>
    intro h
    obtain ⟨e, b⟩ := rng (x := pa n) (n := 19) (by decide) (h n (by omega))
    rw [pcU_1 (j := ix (pa n)) (by omega) e 20 (Nat.le_refl _), ih (fun i hi => h i (by omega)), if_pos (by omega), nI_add]
/-- how many of the pumps 0 .. n - 1 run -/
def rN (ru : fN) : Nat → Nat
  | 0 => 0
  | n + 1 => if ru n = 0 then rN ru n else rN ru n + 1
theorem rN_sum {ru : fN} (h : ∀ i, ru i = 0 ∨ ru i = 1) : ∀ n, sumU ru n = nI (rN ru n) := by
  intro n
  induction n with
  | zero => rfl
  | succ n ih =>
    show sumU ru n + ru n = nI (if ru n = 0 then rN ru n else rN ru n + 1)
    rw [ih]
    split
    · rename_i c; rw [c]; exact Int32.add_zero _
    · rename_i c; rw [(h n).resolve_left c]; exact nI_1 _
theorem rN_le (ru : fN) : ∀ n, rN ru n ≤ n := by
  intro n
  induction n with
  | zero => exact Nat.le_refl _
  | succ n ih => show (if ru n = 0 then rN ru n else rN ru n + 1) ≤ _; split <;> omega
theorem rN_lt {ru : fN} {i : Nat} (h : ru i = 0) : ∀ n, i < n → rN ru n < n := by
  intro n
  induction n with
  | zero => intro h; exact absurd h (Nat.not_lt_zero _)
  | succ n ih =>
    intro hi
    show (if ru n = 0 then rN ru n else rN ru n + 1) < _
    have := rN_le ru n
    split
    · omega
    · rename_i c
      rcases (show i < n ∨ i = n by omega) with q | q
      · have := ih q; omega
      · subst q; exact absurd h c
theorem rN_np {ru : fN} {np : Nat} (hz : ∀ i, np ≤ i → ru i = 0) : ∀ m, rN ru (np + m) = rN ru np := by
  intro m
  induction m with
  | zero => rfl
  | succ m ih => show (if ru (np + m) = 0 then rN ru (np + m) else rN ru (np + m) + 1) = _; rw [if_pos (hz _ (by omega)), ih]
theorem rN_5 {ru : fN} {np : Nat} (hn : np ≤ 5) (hz : ∀ i, np ≤ i → ru i = 0) : rN ru 5 = rN ru np := by
  have := rN_np hz (5 - np)
  rw [show np + (5 - np) = 5 by omega] at this
  exact this
/-! the gate, the hours until, the advice -/
theorem gate_ok (sn ic : fN) (gu style : Int32) : ∀ n, ∃ g, g ≤ n ∧ gaU sn ic gu style n = nI g ∧ (1 ≤ g → ¬ badU sn ic (landU (nI g) gu style)) ∧ ∀ k, g < k → k ≤ n → badU sn ic (landU (nI k) gu style) := by
  intro n
  induction n with
  | zero => exact ⟨0, Nat.le_refl _, rfl, fun h => absurd h (by omega), fun k h1 h2 => absurd h1 (by omega)⟩
  | succ n ih =>
    by_cases c : badU sn ic (landU (nI (n + 1)) gu style)
    · obtain ⟨g, h1, h2, h3, h4⟩ := ih
      refine ⟨g, by omega, (if_pos c).trans h2, h3, fun k hk hk2 => ?_⟩
      rcases (show k ≤ n ∨ k = n + 1 by omega) with q | q
      · exact h4 k hk q
      · subst q; exact c
    · exact ⟨n + 1, Nat.le_refl _, if_neg c, fun _ => c, fun k h1 h2 => absurd h1 (by omega)⟩
theorem enK_ge (need : Int32) (f : Nat → Int32) : ∀ n k, k ≤ enK need f n k := by
  intro n
  induction n with
  | zero => intro k; exact Nat.le_refl _
  | succ n ih =>
    intro k
    unfold enK
    split
    · exact Nat.le_refl _
    · have := ih (k + 1); omega
theorem enough_ok {need : Int32} {f : Nat → Int32} : enU need f = 0 ↔ need ≤ f 0 := by
  have e : enK need f 241 0 = if need ≤ f 0 then 0 else enK need f 240 1 := rfl
  unfold enU
  by_cases c : need ≤ f 0
  · rw [if_pos c] at e
    rw [e]
    exact ⟨fun _ => c, fun _ => rfl⟩
  · rw [if_neg c] at e
    have h1 := enK_ge need f 240 1
    have h2 := enK_le need f 240 1
    rw [e]
    generalize enK need f 240 1 = x at *
    refine ⟨fun h => ?_, fun h => absurd h c⟩
    exfalso
    split at h
    · revert h; decide
    · have := (nI_eq (a := x) (b := 0) (by omega) (by omega)).mp h
      omega
theorem adv_ok {wa da pa fl ru : fN} {tm n : Nat} {σ : fN × fN × Int32} : ∀ i, ((adB wa da pa fl ru tm n σ i).2 = -1 ∧ (adB wa da pa fl ru tm n σ i).1 = sumU (hoursU wa da pa fl ru tm n σ).1 20) ∨ ∃ j, j < i ∧ (adB wa da pa fl ru tm n σ i).2 = nI j ∧ ru j = 0 ∧ (adB wa da pa fl ru tm n σ i).1 = adS wa da pa fl ru tm n σ j ∧ sumU (hoursU wa da pa fl ru tm n σ).1 20 < adS wa da pa fl ru tm n σ j := by
  intro i
  induction i with
  | zero => exact Or.inl ⟨rfl, rfl⟩
  | succ i ih =>
    have e : adB wa da pa fl ru tm n σ (i + 1) = if ru i = 0 then (if (adB wa da pa fl ru tm n σ i).1 < adS wa da pa fl ru tm n σ i then (adS wa da pa fl ru tm n σ i, nI i) else adB wa da pa fl ru tm n σ i) else adB wa da pa fl ru tm n σ i := rfl
    rw [e]
    have keep : (∃ j, j < i ∧ (adB wa da pa fl ru tm n σ i).2 = nI j ∧ ru j = 0 ∧ (adB wa da pa fl ru tm n σ i).1 = adS wa da pa fl ru tm n σ j ∧ sumU (hoursU wa da pa fl ru tm n σ).1 20 < adS wa da pa fl ru tm n σ j) → ∃ j, j < i + 1 ∧ (adB wa da pa fl ru tm n σ i).2 = nI j ∧ ru j = 0 ∧ (adB wa da pa fl ru tm n σ i).1 = adS wa da pa fl ru tm n σ j ∧ sumU (hoursU wa da pa fl ru tm n σ).1 20 < adS wa da pa fl ru tm n σ j := fun ⟨j, hj, h⟩ => ⟨j, by omega, h⟩
    by_cases c : ru i = 0
    · rw [if_pos c]
      by_cases c2 : (adB wa da pa fl ru tm n σ i).1 < adS wa da pa fl ru tm n σ i
      · rw [if_pos c2]
        refine Or.inr ⟨i, by omega, rfl, c, rfl, ?_⟩
        rcases ih with ⟨-, h⟩ | ⟨j, hj, -, -, h, h2⟩
        · rw [← h]; exact c2
        · rw [h] at c2; exact Int32.lt_trans h2 c2
      · rw [if_neg c2]; exact ih.imp id keep
    · rw [if_neg c]; exact ih.imp id keep
/-! an hour, in whole numbers -/
def sI (f : fN) : Nat → Int
  | 0 => 0
  | n + 1 => sI f n + (f n).toInt
theorem sI_nat {f : fN} {B : Nat} (hB : B ≤ 1000) : ∀ n, n ≤ 20 → (∀ i, i < n → ∃ k : Nat, k ≤ B ∧ f i = nI k) → (0 ≤ sI f n ∧ sI f n ≤ B * n) ∧ (sumU f n).toInt = sI f n := by
  intro n
  induction n with
  | zero => intro _ _; exact ⟨⟨Int.le_refl _, Int.le_refl _⟩, rfl⟩
  | succ n ih =>
    intro hn h
    obtain ⟨⟨h1, h2⟩, h3⟩ := ih (by omega) (fun i hi => h i (by omega))
    obtain ⟨k, hk, e⟩ := h n (by omega)
    have ek : (f n).toInt = k := by rw [e, nI_toInt (by omega)]
    have hBn : (B : Int) * n ≤ 20000 := by
      have h9 : B * n ≤ 1000 * 20 := Nat.mul_le_mul hB (by omega)
      rw [← Int.natCast_mul]
      exact Int.ofNat_le.mpr h9
    refine ⟨⟨?_, ?_⟩, ?_⟩
    · show 0 ≤ sI f n + (f n).toInt; omega
    · show sI f n + (f n).toInt ≤ B * ((n + 1 : Nat) : Int)
      rw [ek, Int.natCast_succ, Int.mul_add, Int.mul_one]
      omega
    · show (sumU f n + f n).toInt = sI f n + (f n).toInt
      rw [Int32.toInt_add, h3, ek, bm32 (by omega) (by omega)]
theorem sI_upd {f : fN} {k : Nat} {v : Int32} : ∀ n, sI (upd f k v) n = sI f n + (if k < n then v.toInt - (f k).toInt else 0) := by
  intro n
  induction n with
  | zero => rw [if_neg (Nat.not_lt_zero _)]; rfl
  | succ n ih =>
    show sI (upd f k v) n + (upd f k v n).toInt = sI f n + (f n).toInt + _
    rw [ih]
    by_cases c : n = k
    · subst c; rw [upd_s, if_neg (Nat.lt_irrefl _), if_pos (Nat.lt_succ_self _)]; omega
    · rw [upd_n _ _ c]
      by_cases c2 : k < n
      · rw [if_pos c2, if_pos (by omega)]; omega
      · rw [if_neg c2, if_neg (by omega)]; omega
theorem sI_mono {f g : fN} : ∀ n, (∀ i, i < n → (f i).toInt ≤ (g i).toInt) → sI f n ≤ sI g n := by
  intro n
  induction n with
  | zero => intro _; exact Int.le_refl _
  | succ n ih =>
    intro h
    have h1 := ih (fun i hi => h i (by omega))
    have h2 := h n (by omega)
    show sI f n + (f n).toInt ≤ sI g n + (g n).toInt
    omega
/-- one part gets snow -/
theorem lay_bd {sn : fN} {x : Int32} {m : Nat} (h : SR sn) (hm : m ≤ 1000) : (∀ i, i < 20 → (sn i).toInt ≤ (layU sn x (nI m) i).toInt ∧ (layU sn x (nI m) i).toInt ≤ (sn i).toInt + (if nI i = x then m else 0)) ∧ sI sn 20 ≤ sI (layU sn x (nI m)) 20 ∧ sI (layU sn x (nI m)) 20 ≤ sI sn 20 + m := by
  by_cases hx : inP x
  · obtain ⟨e, b⟩ := rng (x := x) (n := 19) (by decide) hx
    have hk : x.toNatClampNeg = ix x := rfl
    obtain ⟨a, ha, ea⟩ := h (ix x) (by omega)
    have hv : (a : Int) ≤ (mnI (sn (ix x) + nI m) 300).toInt ∧ (mnI (sn (ix x) + nI m) 300).toInt ≤ (a : Int) + m := by
      rw [ea, nI_add]
      unfold mnI
      split
      · rename_i c
        have := ngt (N := 300) (i := a + m) (by decide) (by omega) c
        have e3 : (300 : Int32).toInt = 300 := by decide
        rw [e3]; omega
      · rw [nI_toInt (by omega)]; omega
    have eq : layU sn x (nI m) = upd sn (ix x) (mnI (sn (ix x) + nI m) 300) := (layU_t hx).symm
    rw [eq]
    have ea2 : (sn (ix x)).toInt = a := by rw [ea, nI_toInt (by omega)]
    refine ⟨fun i hi => ?_, ?_, ?_⟩
    · by_cases c : i = ix x
      · rw [c, upd_s, if_pos e.symm, ea2]; omega
      · rw [upd_n _ _ c]; split <;> omega
    · rw [sI_upd, if_pos (by omega)]; omega
    · rw [sI_upd, if_pos (by omega)]; omega
  · have eq : layU sn x (nI m) = sn := if_neg hx
    rw [eq]
    exact ⟨fun i hi => by split <;> omega, Int.le_refl _, by omega⟩
theorem near (p : Nat) (hp : p < 20) (i : Nat) (hi : i < 20) (u v : Nat) (hu : u ≤ 36) (hv : v ≤ 18) : (if nI i = nI p then (u : Int) else 0) + (if nI i = nI p - 1 then (v : Int) else 0) + (if nI i = nI p + 1 then (v : Int) else 0) ≤ 36 := by
  have h1 : nI i = nI p ↔ i = p := nI_eq (by omega) (by omega)
  have h2 : nI i = nI p + 1 ↔ i = p + 1 := by rw [nI_1]; exact nI_eq (by omega) (by omega)
  have h3 : nI i = nI p - 1 ↔ i + 1 = p := by
    have e9 : (nI p - 1).toInt = (p : Int) - 1 := pk_sub_toInt (a := p) (b := 1) (by omega) (by omega)
    rw [i_eq, e9, nI_toInt (by omega)]
    omega
  simp only [h1, h2, h3]
  repeat' split
  all_goals omega
/-- what one pump does -/
theorem work_bd {pa fl cold : Int32} {σ : fN × fN × Int32} (hS : SR σ.1) (hI : IR σ.2.1) (hW : WB σ.2.2) (hp : inP pa) (hf : ¬ (fl < 1 ∨ 9 < fl)) (hc : -100 ≤ cold) :
    (∀ i, i < 20 → (σ.1 i).toInt ≤ ((workU pa fl cold σ).1 i).toInt ∧ ((workU pa fl cold σ).1 i).toInt ≤ (σ.1 i).toInt + 36) ∧ (sI σ.1 20 ≤ sI (workU pa fl cold σ).1 20 ∧ sI (workU pa fl cold σ).1 20 ≤ sI σ.1 20 + 72) ∧
    (∀ i, i < 20 → (σ.2.1 i).toInt ≤ ((workU pa fl cold σ).2.1 i).toInt ∧ ((workU pa fl cold σ).2.1 i).toInt ≤ (σ.2.1 i).toInt + 1) ∧ (σ.2.2.toInt - 9 ≤ (workU pa fl cold σ).2.2.toInt ∧ (workU pa fl cold σ).2.2.toInt ≤ σ.2.2.toInt) ∧
    (cold ≤ -2 → (workU pa fl cold σ).2.1 = σ.2.1) ∧ (-2 < cold → (workU pa fl cold σ).1 = σ.1) := by
  obtain ⟨q, hq, eq⟩ := hW
  obtain ⟨f, hf9, ef⟩ := flow_rng hf
  have wq : σ.2.2.toInt = q := by rw [eq, nI_toInt (by omega)]
  by_cases c : σ.2.2 < fl
  · have e : workU pa fl cold σ = σ := if_pos c
    rw [e]
    exact ⟨fun i hi => ⟨Int.le_refl _, by omega⟩, ⟨Int.le_refl _, by omega⟩, fun i hi => ⟨Int.le_refl _, by omega⟩, ⟨by omega, Int.le_refl _⟩, fun _ => rfl, fun _ => rfl⟩
  · have hqf : f ≤ q := by
      rw [eq, ef] at c
      have := mt (nI_ltI (a := q) (b := f) (by omega) (by omega)).mpr c
      omega
    have ww : (σ.2.2 - fl).toInt = (q : Int) - f := by rw [eq, ef]; exact pk_sub_toInt (by omega) (by omega)
    by_cases c2 : -2 < cold
    · have e : workU pa fl cold σ = (σ.1, icyU σ.2.1 pa, σ.2.2 - fl) := by unfold workU; rw [if_neg c, if_pos c2]
      rw [e]
      refine ⟨fun i hi => ⟨Int.le_refl _, by show (σ.1 i).toInt ≤ _; omega⟩, ⟨Int.le_refl _, by show sI σ.1 20 ≤ _; omega⟩, fun i hi => ?_, ⟨by show _ ≤ (σ.2.2 - fl).toInt; omega, by show (σ.2.2 - fl).toInt ≤ _; omega⟩, fun h => absurd c2 (Int32.not_lt.mpr h), fun _ => rfl⟩
      show (σ.2.1 i).toInt ≤ (icyU σ.2.1 pa i).toInt ∧ (icyU σ.2.1 pa i).toInt ≤ _
      rw [← icyU_t hp]
      by_cases ci : i = pa.toNatClampNeg
      · obtain ⟨a, ha, ea⟩ := hI _ (inP_lt hp)
        rw [ci, upd_s, ea, nI_1, nI_toInt (by omega)]
        unfold mnI
        split
        · rename_i c3
          have := ngt (N := 50) (i := a + 1) (by decide) (by omega) c3
          have e3 : (50 : Int32).toInt = 50 := by decide
          rw [e3]; omega
        · rw [nI_toInt (by omega)]; omega
      · rw [upd_n _ _ ci]; omega
    · obtain ⟨cc, hc8, ec⟩ := cold_rng (Int32.not_lt.mp c2) hc
      have hm : f * cc ≤ 72 := Nat.mul_le_mul hf9 hc8
      have e2 : fl * mnI (-cold) 8 / 2 = nI (f * cc / 2) := by rw [ef, ec, pk_mul]; exact pk_div (d := 2) (by omega) (by omega) (by omega)
      have e4 : fl * mnI (-cold) 8 / 4 = nI (f * cc / 4) := by rw [ef, ec, pk_mul]; exact pk_div (d := 4) (by omega) (by omega) (by omega)
      have e : workU pa fl cold σ = (layU (layU (layU σ.1 pa (nI (f * cc / 2))) (pa - 1) (nI (f * cc / 4))) (pa + 1) (nI (f * cc / 4)), σ.2.1, σ.2.2 - fl) := by unfold workU; rw [if_neg c, if_neg c2, e2, e4]
      rw [e]
      generalize f * cc = M at *
      obtain ⟨l1, l2, l3⟩ := lay_bd (x := pa) (m := M / 2) hS (by omega)
      have s1 : SR (layU σ.1 pa (nI (M / 2))) := SR_lay hS (by omega)
      obtain ⟨m1, m2, m3⟩ := lay_bd (x := pa - 1) (m := M / 4) s1 (by omega)
      have s2 := SR_lay (x := pa - 1) (m := M / 4) s1 (by omega)
      obtain ⟨n1, n2, n3⟩ := lay_bd (x := pa + 1) (m := M / 4) s2 (by omega)
      obtain ⟨ep, bp⟩ := rng (x := pa) (n := 19) (by decide) hp
      refine ⟨fun i hi => ?_, ⟨?_, ?_⟩, fun i hi => ⟨Int.le_refl _, by show (σ.2.1 i).toInt ≤ _; omega⟩, ⟨by show _ ≤ (σ.2.2 - fl).toInt; omega, by show (σ.2.2 - fl).toInt ≤ _; omega⟩, fun _ => rfl, fun h => absurd h c2⟩
      · have a1 := l1 i hi
        have a2 := m1 i hi
        have a3 := n1 i hi
        have a4 := near (ix pa) (by omega) i hi (M / 2) (M / 4) (by omega) (by omega)
        rw [← ep] at a4
        show _ ≤ (layU (layU (layU σ.1 pa (nI (M / 2))) (pa - 1) (nI (M / 4))) (pa + 1) (nI (M / 4)) i).toInt ∧ (layU (layU (layU σ.1 pa (nI (M / 2))) (pa - 1) (nI (M / 4))) (pa + 1) (nI (M / 4)) i).toInt ≤ _
        refine ⟨by omega, ?_⟩
        have b1 : ∀ (P : Prop) [Decidable P] (u : Nat), (((if P then u else 0 : Nat)) : Int) = if P then (u : Int) else 0 := fun P _ u => by split <;> rfl
        simp only [b1] at a1 a2 a3
        omega
      · show _ ≤ sI (layU (layU (layU σ.1 pa (nI (M / 2))) (pa - 1) (nI (M / 4))) (pa + 1) (nI (M / 4))) 20; omega
      · show sI (layU (layU (layU σ.1 pa (nI (M / 2))) (pa - 1) (nI (M / 4))) (pa + 1) (nI (M / 4))) 20 ≤ _; omega
/-- what all the pumps do -/
theorem pumps_bd {pa fl ru : fN} {cold : Int32} {np : Nat} {σ : fN × fN × Int32} (hS : SR σ.1) (hI : IR σ.2.1) (hW : WB σ.2.2) (hz : ∀ i, np ≤ i → ru i = 0) (hp : ∀ i, i < np → inP (pa i)) (hf : ∀ i, i < np → ¬ (fl i < 1 ∨ 9 < fl i)) (hc : -100 ≤ cold) : ∀ n,
    (∀ i, i < 20 → (σ.1 i).toInt ≤ ((pumpsU pa fl ru cold n σ).1 i).toInt ∧ ((pumpsU pa fl ru cold n σ).1 i).toInt ≤ (σ.1 i).toInt + 36 * (rN ru n : Int)) ∧ (sI σ.1 20 ≤ sI (pumpsU pa fl ru cold n σ).1 20 ∧ sI (pumpsU pa fl ru cold n σ).1 20 ≤ sI σ.1 20 + 72 * (rN ru n : Int)) ∧
    (∀ i, i < 20 → (σ.2.1 i).toInt ≤ ((pumpsU pa fl ru cold n σ).2.1 i).toInt ∧ ((pumpsU pa fl ru cold n σ).2.1 i).toInt ≤ (σ.2.1 i).toInt + (rN ru n : Int)) ∧ (σ.2.2.toInt - 9 * (rN ru n : Int) ≤ (pumpsU pa fl ru cold n σ).2.2.toInt ∧ (pumpsU pa fl ru cold n σ).2.2.toInt ≤ σ.2.2.toInt) ∧
    (cold ≤ -2 → (pumpsU pa fl ru cold n σ).2.1 = σ.2.1) ∧ (-2 < cold → (pumpsU pa fl ru cold n σ).1 = σ.1) ∧ (rN ru n = 0 → pumpsU pa fl ru cold n σ = σ) := by
  intro n
  induction n with
  | zero => exact ⟨fun i hi => ⟨Int.le_refl _, by show (σ.1 i).toInt ≤ (σ.1 i).toInt + 36 * 0; omega⟩, ⟨Int.le_refl _, by show sI σ.1 20 ≤ sI σ.1 20 + 72 * 0; omega⟩, fun i hi => ⟨Int.le_refl _, by show (σ.2.1 i).toInt ≤ (σ.2.1 i).toInt + 0; omega⟩, ⟨by show σ.2.2.toInt - 9 * 0 ≤ σ.2.2.toInt; omega, Int.le_refl _⟩, fun _ => rfl, fun _ => rfl, fun _ => rfl⟩
  | succ n ih =>
    by_cases c : ru n = 0
    · have e : pumpsU pa fl ru cold (n + 1) σ = pumpsU pa fl ru cold n σ := (pumpsU_0 σ c).symm
      have e2 : rN ru (n + 1) = rN ru n := if_pos c
      rw [e, e2]
      exact ih
    · have e : pumpsU pa fl ru cold (n + 1) σ = workU (pa n) (fl n) cold (pumpsU pa fl ru cold n σ) := (pumpsU_1 σ c).symm
      have e2 : rN ru (n + 1) = rN ru n + 1 := if_neg c
      have hn : n < np := by
        rcases Nat.lt_or_ge n np with q | q
        · exact q
        · exact absurd (hz n q) c
      have k1 := SR_pumps (pa := pa) (cold := cold) (σ := σ) hS hz hf hc n
      have k2 := IR_pumps (pa := pa) (fl := fl) (ru := ru) (cold := cold) (σ := σ) hI n
      have k3 := WB_pumps (pa := pa) (cold := cold) (σ := σ) hW hz hf n
      obtain ⟨w1, ⟨w2, w3⟩, w4, ⟨w5, w6⟩, w7, w8⟩ := work_bd k1 k2 k3 (hp n hn) (hf n hn) hc
      obtain ⟨p1, ⟨p2, p3⟩, p4, ⟨p5, p6⟩, p7, p8, p9⟩ := ih
      rw [e, e2]
      generalize workU (pa n) (fl n) cold (pumpsU pa fl ru cold n σ) = τ at *
      generalize pumpsU pa fl ru cold n σ = ρ at *
      have ec : ((rN ru n + 1 : Nat) : Int) = (rN ru n : Int) + 1 := rfl
      rw [ec]
      refine ⟨fun i hi => ?_, ⟨by omega, by omega⟩, fun i hi => ?_, ⟨by omega, by omega⟩, fun h => (w7 h).trans (p7 h), fun h => (w8 h).trans (p8 h), fun h => absurd h (Nat.succ_ne_zero _)⟩
      · have a1 := w1 i hi; have a2 := p1 i hi; omega
      · have a1 := w4 i hi; have a2 := p4 i hi; omega
