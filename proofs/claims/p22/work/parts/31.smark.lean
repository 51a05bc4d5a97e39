/-! SPEC of the marks: what sorting five marks and taking the middle three gives -/
def mkF (z e : Int32) (st : fN) (i : Nat) : fN := fun k => if k < i then mxI 0 (z - st k - e) else 0
theorem mkF_0 (z e : Int32) (st : fN) : (fun _ => 0) = mkF z e st 0 := by funext k; simp [mkF]
theorem mkF_1 (z e v : Int32) (st : fN) (i : Nat) : upd (upd (mkF z e st i) i v) i (mxI 0 (z - st i - e)) = mkF z e st (i + 1) := by
  rw [upd_upd]
  funext k
  by_cases c : k = i
  · subst c; rw [upd_s]; unfold mkF; rw [if_pos (by omega)]
  · rw [upd_n _ _ c]
    unfold mkF
    by_cases c2 : k < i
    · rw [if_pos c2, if_pos (by omega)]
    · rw [if_neg c2, if_neg (by omega)]
theorem ab_neg {x : Int32} (h : ¬ 0 ≤ x) : -x = abI x := by
  unfold abI
  rw [if_neg h]
  simp
theorem ab_pos {x : Int32} (h : 0 ≤ x) : x = abI x := (if_pos h).symm
def STK (st : fN) : Prop := ∀ k, k < 5 → ∃ j : Nat, j ≤ 4 ∧ st k = nI j
theorem ab_rng {g : Int32} (h : ¬ (g < -9 ∨ 9 < g)) : ∃ j : Nat, j ≤ 9 ∧ abI g = nI j := by
  have e0 : (0 : Int32).toInt = 0 := rfl
  have e1 : (-9 : Int32).toInt = -9 := by decide
  have e2 : (9 : Int32).toInt = 9 := by decide
  simp only [i_lt, not_or, e1, e2] at h
  have h0 : ¬ abI g < 0 := by
    unfold abI
    split
    · rename_i c; exact Int32.not_lt.mpr c
    · rename_i c
      rw [i_le, e0] at c
      rw [i_lt, e0, Int32.toInt_sub, e0, bm32 (by omega) (by omega)]
      omega
  have h1 : abI g ≤ 9 := by
    unfold abI
    split
    · rw [i_le, e2]; omega
    · rename_i c
      rw [i_le, e0] at c
      rw [i_le, e2, Int32.toInt_sub, e0, bm32 (by omega) (by omega)]
      omega
  exact nI_of2 (x := abI g) (M := 9) (n := 9) (by decide) h0 h1
theorem sub3 {a b c d : Nat} (ha : a ≤ 1000) (hb : b ≤ 1000) (hc : c ≤ 1000) (hd : d ≤ 1000) : (nI a - nI b - nI c - nI d).toInt = (a : Int) - b - c - d := by
  have h1 : (nI a - nI b).toInt = (a : Int) - b := by rw [Int32.toInt_sub, nI_toInt (by omega), nI_toInt (by omega), bm32 (by omega) (by omega)]
  have h2 : (nI a - nI b - nI c).toInt = (a : Int) - b - c := by rw [Int32.toInt_sub, h1, nI_toInt (by omega), bm32 (by omega) (by omega)]
  rw [Int32.toInt_sub, h2, nI_toInt (by omega), bm32 (by omega) (by omega)]
/-- one mark as the law's hill has it and as the class has it -/
theorem mk_eq {s g e : Int32} {st : fN} {k : Nat} (hs : ∃ j : Nat, j ≤ 20 ∧ s = nI j) (hg : ¬ (g < -9 ∨ 9 < g)) (he : e = 0 ∨ e = 8) (hst : STK st) (hk : k < 5) : mxI 0 (s - abI g - st k - e) = mkU (s - abI g - e) st k ∧ ∃ j : Nat, j ≤ 20 ∧ mkU (s - abI g - e) st k = nI j := by
  obtain ⟨a, ha, rfl⟩ := hs
  obtain ⟨b, hb, eb⟩ := ab_rng hg
  obtain ⟨c, hc, ec⟩ := hst k hk
  obtain ⟨d, hd, rfl⟩ : ∃ d : Nat, d ≤ 8 ∧ e = nI d := by
    rcases he with rfl | rfl
    · exact ⟨0, by omega, rfl⟩
    · exact ⟨8, by omega, rfl⟩
  have h1 : (nI a - abI g - st k - nI d).toInt = (a : Int) - b - c - d := by rw [eb, ec]; exact sub3 (by omega) (by omega) (by omega) (by omega)
  have h2 : (nI a - abI g - nI d - st k).toInt = (a : Int) - b - d - c := by rw [eb, ec]; exact sub3 (by omega) (by omega) (by omega) (by omega)
  have e0 : (0 : Int32).toInt = 0 := rfl
  have e20 : (20 : Int32).toInt = 20 := by decide
  have h3 : nI a - abI g - st k - nI d = nI a - abI g - nI d - st k := by rw [i_eq, h1, h2]; omega
  have h4 : mnI (nI a - abI g - nI d - st k) 20 = nI a - abI g - nI d - st k := by
    unfold mnI
    rw [if_neg (by rw [i_lt, h2, e20]; omega)]
  unfold mkU
  rw [h4, h3]
  refine ⟨rfl, ?_⟩
  unfold mxI
  split
  · rename_i q
    refine nI_of2 (x := nI a - abI g - nI d - st k) (M := 20) (n := 20) (by decide) (by rw [i_lt, h2, e0]; rw [i_lt, h2, e0] at q; omega) (by rw [i_le, h2, e20]; omega)
  · exact ⟨0, by omega, rfl⟩
/-! the lowest and the sum -/
def mnU (f : fN) : Nat → Int32
  | 0 => 20
  | n + 1 => mnI (mnU f n) (f n)
theorem ins_low (x : Int32) : ∀ (k : Nat) (g : fN), (∀ j, j < k + 1 → g 0 ≤ g j) → insAt x (k + 1) g 0 = mnI (g 0) x ∧ ∀ j, j < k + 2 → insAt x (k + 1) g 0 ≤ insAt x (k + 1) g j := by
  intro k
  induction k with
  | zero =>
    intro g hg
    by_cases c : x < g 0
    · have e : insAt x 1 g = upd (upd g 1 (g 0)) 0 x := insAt_lt c
      have e0 : insAt x 1 g 0 = x := by rw [e, upd_s]
      refine ⟨by rw [e0]; unfold mnI; rw [if_pos c], fun j hj => ?_⟩
      rw [e0, e]
      rcases (show j = 0 ∨ j = 1 by omega) with rfl | rfl
      · rw [upd_s]; exact Int32.le_refl _
      · rw [upd_n _ _ (by omega), upd_s]; exact Int32.le_of_lt c
    · have e : insAt x 1 g = upd g 1 x := insAt_ge (Int32.not_lt.mp c)
      have e0 : insAt x 1 g 0 = g 0 := by rw [e, upd_n _ _ (by omega)]
      refine ⟨by rw [e0]; unfold mnI; rw [if_neg c], fun j hj => ?_⟩
      rw [e0, e]
      rcases (show j = 0 ∨ j = 1 by omega) with rfl | rfl
      · rw [upd_n _ _ (by omega)]; exact Int32.le_refl _
      · rw [upd_s]; exact Int32.not_lt.mp c
  | succ k ih =>
    intro g hg
    by_cases c : x < g (k + 1)
    · have e : insAt x (k + 2) g = insAt x (k + 1) (upd g (k + 2) (g (k + 1))) := insAt_lt c
      have z : upd g (k + 2) (g (k + 1)) 0 = g 0 := upd_n _ _ (by omega)
      obtain ⟨h1, h2⟩ := ih (upd g (k + 2) (g (k + 1))) (fun j hj => by rw [z, upd_n _ _ (by omega)]; exact hg j (by omega))
      rw [z] at h1
      refine ⟨by rw [e]; exact h1, fun j hj => ?_⟩
      rw [e]
      rcases (show j < k + 2 ∨ j = k + 2 by omega) with q | rfl
      · exact h2 j q
      · rw [h1, ins_hi _ _ _ _ (by omega), upd_s]
        have h3 := hg (k + 1) (by omega)
        unfold mnI
        split
        · exact Int32.le_of_lt c
        · exact h3
    · have e : insAt x (k + 2) g = upd g (k + 2) x := insAt_ge (Int32.not_lt.mp c)
      have e0 : insAt x (k + 2) g 0 = g 0 := by rw [e, upd_n _ _ (by omega)]
      have h3 := Int32.le_trans (hg (k + 1) (by omega)) (Int32.not_lt.mp c)
      refine ⟨by rw [e0]; unfold mnI; rw [if_neg (Int32.not_lt.mpr h3)], fun j hj => ?_⟩
      rw [e0, e]
      rcases (show j < k + 2 ∨ j = k + 2 by omega) with q | rfl
      · rw [upd_n _ _ (by omega)]; exact hg j q
      · rw [upd_s]; exact h3
theorem sort_bot {f : fN} (h : ∀ k, f k ≤ 20) : ∀ n, sortP f (n + 1) 0 = mnU f (n + 1) ∧ ∀ j, j < n + 1 → sortP f (n + 1) 0 ≤ sortP f (n + 1) j := by
  intro n
  induction n with
  | zero =>
    rw [← sortP_1]
    refine ⟨?_, fun j hj => ?_⟩
    · show _ = mnI 20 (f 0)
      unfold mnI
      split
      · rfl
      · rename_i c; exact Int32.le_antisymm (h 0) (Int32.not_lt.mp c)
    · obtain rfl : j = 0 := by omega
      exact Int32.le_refl _
  | succ n ih =>
    obtain ⟨h1, h2⟩ := ih
    have e : sortP f (n + 2) = insAt (f (n + 1)) (n + 1) (sortP f (n + 1)) := by show insAt (sortP f (n + 1) (n + 1)) _ _ = _; rw [sortP_hi _ _ _ (Nat.le_refl _)]
    obtain ⟨g1, g2⟩ := ins_low (f (n + 1)) n (sortP f (n + 1)) h2
    rw [e]
    exact ⟨by rw [g1, h1]; rfl, g2⟩
theorem sum_upd {f : fN} {k : Nat} {v : Int32} : ∀ n, n ≤ k → sumU (upd f k v) n = sumU f n := by
  intro n
  induction n with
  | zero => intro _; rfl
  | succ n ih => intro h; show sumU (upd f k v) n + upd f k v n = sumU f n + f n; rw [ih (by omega), upd_n _ _ (by omega)]
theorem ins_sum (x : Int32) : ∀ (n : Nat) (g : fN), sumU (insAt x n g) (n + 1) = sumU g n + x := by
  intro n
  induction n with
  | zero => intro g; show 0 + upd g 0 x 0 = 0 + x; rw [upd_s]
  | succ n ih =>
    intro g
    by_cases c : x < g n
    · rw [insAt_lt c]
      show sumU (insAt x n _) (n + 1) + insAt x n _ (n + 1) = sumU g n + g n + x
      rw [ih, ins_hi _ _ _ _ (by omega), upd_s, sum_upd _ (by omega), Int32.add_assoc, Int32.add_comm x, ← Int32.add_assoc]
    · rw [insAt_ge (Int32.not_lt.mp c)]
      show sumU (upd g (n + 1) x) (n + 1) + upd g (n + 1) x (n + 1) = sumU g (n + 1) + x
      rw [sum_upd _ (Nat.le_refl _), upd_s]
theorem sort_sum (f : fN) : ∀ n, sumU (sortP f n) n = sumU f n := by
  intro n
  induction n with
  | zero => rfl
  | succ n ih =>
    show sumU (insAt (sortP f n n) n (sortP f n)) (n + 1) = sumU f n + f n
    rw [ins_sum, ih, sortP_hi _ _ _ (Nat.le_refl _)]
theorem mid3 (l a b c d e : Int32) : l + b + c + d = l + (0 + a + b + c + d + e - e - a) := by
  first
    | grind
    | (rw [i_eq]; simp only [Int32.toInt_add, Int32.toInt_sub]; omega)
theorem mks_eq {z : Int32} {st f : fN} (h : ∀ k, k < 5 → f k = mkU z st k) : ∀ n, n ≤ 5 → mksU z st n = (sumU f n, (t2U f n).1, mnU f n) := by
  intro n
  induction n with
  | zero => intro _; rfl
  | succ n ih =>
    intro hn
    show ((mksU z st n).1 + mkU z st n, mxI (mksU z st n).2.1 (mkU z st n), mnI (mksU z st n).2.2 (mkU z st n)) = _
    rw [ih (by omega), ← h n (by omega)]
    rfl
theorem sum5 (G : fN) : sumU G 5 = 0 + G 0 + G 1 + G 2 + G 3 + G 4 := rfl
theorem sort_top_ {f : fN} (h0 : ∀ k, 0 ≤ f k) {n m k : Nat} (hm : m = n + 2) (hk : k = n + 1) : sortP f m k = (t2U f m).1 := by subst hm; subst hk; exact (sort_top h0 n).1
theorem sort_bot_ {f : fN} (h : ∀ k, f k ≤ 20) {n m : Nat} (hm : m = n + 1) : sortP f m 0 = mnU f m := by subst hm; exact (sort_bot h n).1
theorem mid_a (G : fN) (len : Int32) : len + G 1 + G 2 + G 3 = len + (sumU G 5 - G 4 - G 0) := by
  rw [sum5]
  exact mid3 _ _ _ _ _ _
theorem mid_b {z : Int32} {st f : fN} {S B M : Int32} (e : mksU z st 5 = (S, B, M)) : (mksU z st 5).1 - (mksU z st 5).2.1 - (mksU z st 5).2.2 = S - B - M := by rw [e]
theorem mid_f {len z : Int32} {st f : fN} (hf : ∀ k, k < 5 → f k = mkU z st k) (h0 : ∀ k, 0 ≤ f k) (h20 : ∀ k, f k ≤ 20) : len + sortP f 5 1 + sortP f 5 2 + sortP f 5 3 = len + ((mksU z st 5).1 - (mksU z st 5).2.1 - (mksU z st 5).2.2) := by
  rw [mid_b (f := f) (mks_eq hf 5 (Nat.le_refl _)), ← sort_sum f 5, ← sort_top_ h0 (n := 3) (m := 5) (k := 4) rfl rfl, ← sort_bot_ h20 (n := 4) (m := 5) rfl]
  exact mid_a (sortP f 5) len
theorem f8_08 (x : Int32) : f8 x = 0 ∨ f8 x = 8 := by
  unfold f8
  split
  · exact Or.inl rfl
  · exact Or.inr rfl
theorem marks_sort {len s g e : Int32} {st : fN} (hs : ∃ j : Nat, j ≤ 20 ∧ s = nI j) (hg : ¬ (g < -9 ∨ 9 < g)) (he : e = 0 ∨ e = 8) (hst : STK st) :
    len + sortP (mkF (s - abI g) e st 5) 5 1 + sortP (mkF (s - abI g) e st 5) 5 2 + sortP (mkF (s - abI g) e st 5) 5 3 = len + ((mksU (s - abI g - e) st 5).1 - (mksU (s - abI g - e) st 5).2.1 - (mksU (s - abI g - e) st 5).2.2) := by
  have hf : ∀ k, k < 5 → mkF (s - abI g) e st 5 k = mkU (s - abI g - e) st k := fun k hk => by
    unfold mkF
    rw [if_pos hk]
    exact (mk_eq hs hg he hst hk).1
  have hr : ∀ k, ∃ j : Nat, j ≤ 20 ∧ mkF (s - abI g) e st 5 k = nI j := fun k => by
    by_cases hk : k < 5
    · rw [hf k hk]; exact (mk_eq hs hg he hst hk).2
    · exact ⟨0, by omega, by unfold mkF; rw [if_neg hk]; rfl⟩
  have h0 : ∀ k, 0 ≤ mkF (s - abI g) e st 5 k := fun k => by obtain ⟨j, hj, e9⟩ := hr k; rw [e9]; exact nI_pos' (by omega)
  have h20 : ∀ k, mkF (s - abI g) e st 5 k ≤ 20 := fun k => by obtain ⟨j, hj, e9⟩ := hr k; rw [e9]; exact nI_le (b := 20) hj (by omega)
  exact mid_f (fun k hk => hf k hk) h0 h20
