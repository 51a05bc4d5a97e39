/-! SPEC of what the law does to both hills: its numbers lie within the class's bounds -/
def sel51 (v : Int32) : Nat := if bw (v >>> (9 &&& 31)) 2 = 0 then 51 else 20
def sel12 (v : Int32) : Nat := if bw (v >>> (9 &&& 31)) 2 = 0 then 0 else 12
def sel60 (v : Int32) : Nat := if bw (v >>> (7 &&& 31)) 4 = 0 then 9999 else 60
theorem sel51_pos (v : Int32) : 0 < sel51 v ∧ sel51 v < 2 ^ 31 := by unfold sel51; split <;> omega
theorem sel60_pos (v : Int32) : 0 < sel60 v ∧ sel60 v ≤ 9999 := by unfold sel60; split <;> omega
theorem sl_eq {b x y : Nat} (hb : b < 2 ^ 31) (h : nI b = 0) : nI x = nI (if b = 0 then x else y) := by
  rw [if_pos ((nI_eq (b := 0) hb (by omega)).mp h)]
theorem sl_ne {b x y : Nat} (h : ¬ nI b = 0) : nI y = nI (if b = 0 then x else y) := by
  rw [if_neg (fun q => h (by rw [q]; rfl))]
/-- a warmth that is drawn -/
def warmU (v : Int32) : Int32 := nI (bw (v >>> (5 &&& 31)) (sel51 v)) - 30 + nI (sel12 v)
theorem warm_rng (v : Int32) : ¬ (warmU v < -30 ∨ 20 < warmU v) := by
  have h := bw_lt (v >>> (5 &&& 31)) (sel51_pos v).1
  have h30 : (30 : Int32).toInt = 30 := by decide
  have h20 : (20 : Int32).toInt = 20 := by decide
  have hm : (-30 : Int32).toInt = -30 := by decide
  unfold warmU
  generalize bw (v >>> (5 &&& 31)) (sel51 v) = x at *
  unfold sel51 sel12 at *
  have hx : x < 51 := by split at h <;> omega
  have e1 : (nI x - 30).toInt = (x : Int) - 30 := by rw [Int32.toInt_sub, nI_toInt (by omega), h30, bm32 (by omega) (by omega)]
  rw [i_lt, i_lt, hm, h20, Int32.toInt_add, e1]
  split
  · rw [nI_toInt (by omega), bm32 (by omega) (by omega)]; omega
  · rename_i c
    rw [if_neg c] at h
    rw [nI_toInt (by omega), bm32 (by omega) (by omega)]; omega
theorem gust_rng (v : Int32) : ¬ (nI (bw v 19) - 9 < -9 ∨ 9 < nI (bw v 19) - 9) := by
  have h := bw_lt v (n := 19) (by decide)
  generalize bw v 19 = x at *
  have h9 : (9 : Int32).toInt = 9 := by decide
  have hm : (-9 : Int32).toInt = -9 := by decide
  have e1 : (nI x - 9).toInt = (x : Int) - 9 := by rw [Int32.toInt_sub, nI_toInt (by omega), h9, bm32 (by omega) (by omega)]
  rw [i_lt, i_lt, hm, h9, e1]
  omega
theorem outn {x lo hi : Nat} {a b : Int32} (ha : a = nI lo) (hb : b = nI hi) (h1 : lo ≤ x) (h2 : x ≤ hi) (h3 : hi < 2 ^ 31) : ¬ (nI x < a ∨ b < nI x) := by
  subst ha; subst hb; exact outN h1 h2 h3
theorem nI_rng {x lo hi : Nat} (h1 : lo ≤ x) (h2 : x ≤ hi) (h3 : hi < 2 ^ 31) : ¬ (nI x < nI lo ∨ nI hi < nI x) := outN h1 h2 h3
theorem tSetW_ok {h : Nat} {w d g : Int32} (h0 : h < 24) (h1 : ¬ (w < -30 ∨ 20 < w)) (h2 : ¬ (d < 0 ∨ 100 < d)) (h3 : ¬ (g < -9 ∨ 9 < g)) : tSetW (nI h) w d g = 0 := by
  unfold tSetW
  rw [if_neg (outn (a := 0) (b := 23) (lo := 0) (hi := 23) rfl rfl (by omega) (by omega) (by omega)), if_neg h1, if_neg h2, if_neg h3]
theorem tPump_ok {a : Nat} {f : Int32} {np : Nat} (h0 : a < 20) (h1 : ¬ (f < 1 ∨ 9 < f)) (h2 : np < 5) : tPump (nI a) f np = 0 := by
  unfold tPump
  rw [if_neg (outn (a := 0) (b := 19) (lo := 0) (hi := 19) rfl rfl (by omega) (by omega) (by omega)), if_neg h1, if_neg (by omega)]
theorem tPump_3 {a : Nat} {f : Int32} {np : Nat} (h0 : a < 20) (h1 : ¬ (f < 1 ∨ 9 < f)) (h2 : 5 ≤ np) : tPump (nI a) f np = 3 := by
  unfold tPump
  rw [if_neg (outn (a := 0) (b := 19) (lo := 0) (hi := 19) rfl rfl (by omega) (by omega) (by omega)), if_neg h1, if_pos h2]
theorem tRun_ok {i np : Nat} (h : i < np) (hn : np ≤ 5) : tRun (nI i) np = 0 := by
  unfold tRun
  rw [if_neg]
  rintro (h1 | h1)
  · exact nI_pos (by omega) h1
  · obtain ⟨m, rfl⟩ : ∃ m, np = m + 1 := ⟨np - 1, by omega⟩
    rw [nI_pred] at h1
    exact absurd ((nI_ltI (by omega) (by omega)).mp h1) (by omega)
theorem tFill_ok {x : Nat} (h1 : 1 ≤ x) (h2 : x ≤ 9999) : tFill (nI x) = 0 := by
  unfold tFill
  rw [if_neg (outn (a := 1) (b := 9999) (lo := 1) (hi := 9999) rfl rfl h1 h2 (by omega))]
theorem tGroom_ok {a b : Nat} (h1 : a ≤ b) (h2 : b < 20) : tGroom (nI a) (nI b) = 0 := by
  unfold tGroom
  rw [if_neg (outn (a := 0) (b := 19) (lo := 0) (hi := 19) rfl rfl (by omega) (by omega) (by omega)), if_neg (outn (a := 0) (b := 19) (lo := 0) (hi := 19) rfl rfl (by omega) (by omega) (by omega)), if_neg (nI_nlt h1 (by omega))]
theorem tJudge_ok {a b : Nat} (h1 : a < 5) (h2 : b < 5) : tJudge (nI a) (nI b) = 0 := by
  unfold tJudge
  rw [if_neg (outn (a := 0) (b := 4) (lo := 0) (hi := 4) rfl rfl (by omega) (by omega) (by omega)), if_neg (outn (a := 0) (b := 4) (lo := 0) (hi := 4) rfl rfl (by omega) (by omega) (by omega))]
theorem tJump_ok {w g q nj : Nat} (h0 : w < 10) (h1 : 1 ≤ g) (h2 : g ≤ 20) (h3 : q ≤ 20) (h4 : nj < 30) : tJump (nI w) (nI g) (nI q) nj = 0 := by
  unfold tJump
  rw [if_neg (outn (a := 0) (b := 9) (lo := 0) (hi := 9) rfl rfl (by omega) (by omega) (by omega)), if_neg (outn (a := 1) (b := 20) (lo := 1) (hi := 20) rfl rfl (by omega) (by omega) (by omega)), if_neg (outn (a := 0) (b := 20) (lo := 0) (hi := 20) rfl rfl (by omega) (by omega) (by omega)), if_neg (by omega)]
theorem tJump_2 {w g q nj : Nat} (h0 : w < 10) (h1 : 1 ≤ g) (h2 : g ≤ 20) (h3 : q ≤ 20) (h4 : 30 ≤ nj) : tJump (nI w) (nI g) (nI q) nj = 2 := by
  unfold tJump
  rw [if_neg (outn (a := 0) (b := 9) (lo := 0) (hi := 9) rfl rfl (by omega) (by omega) (by omega)), if_neg (outn (a := 1) (b := 20) (lo := 1) (hi := 20) rfl rfl (by omega) (by omega) (by omega)), if_neg (outn (a := 0) (b := 20) (lo := 0) (hi := 20) rfl rfl (by omega) (by omega) (by omega)), if_pos h4]
theorem one_sub {x : Int32} (h : x = 0 ∨ x = 1) : 1 - x = bi (x = 0) := by rcases h with rfl | rfl <;> rfl
theorem b1_eq {x : Int32} (_ : x = 0 ∨ x = 1) (c : x = 1) : 1 = x := c.symm
theorem b1_ne {x : Int32} (h : x = 0 ∨ x = 1) (c : ¬ x = 1) : 0 = x := (h.resolve_right c).symm
theorem cell_q (sn : fN) (a n i : Nat) : quoU sn a n + bi (nI i < remU sn a n) = cellU sn a n i := by
  unfold cellU bi
  split
  · rfl
  · exact Int32.add_zero _
theorem IR_icZ {ic : fN} {a n : Nat} (h : IR ic) : IR (icZ ic a n) := by
  intro i hi
  unfold icZ
  split
  · exact ⟨0, by omega, rfl⟩
  · exact h i hi
/-- all the snow of n parts, as a number -/
def grOK (sn : fN) (a n A : Nat) : Prop := sumR sn a n = nI A ∧ A ≤ 6000 ∧ 0 < n ∧ n ≤ 20
theorem sumR_N {sn : fN} {a : Nat} (hsn : ∀ i, i < 20 → ∃ k : Nat, k ≤ 300 ∧ sn i = nI k) : ∀ n, a + n ≤ 20 → ∃ A : Nat, A ≤ 300 * n ∧ sumR sn a n = nI A := by
  intro n
  induction n with
  | zero => intro _; exact ⟨0, Nat.le_refl _, rfl⟩
  | succ n ih =>
    intro h
    obtain ⟨A, hA, e⟩ := ih (by omega)
    obtain ⟨k, hk, e2⟩ := hsn (a + n) (by omega)
    refine ⟨A + k, by omega, ?_⟩
    show sumR sn a n + sn (a + n) = _
    rw [e, e2, nI_add]
theorem grT {sn : fN} {a n : Nat} (h0 : 0 < n) (h : a + n ≤ 20) (hsn : SR sn) : ∃ A : Nat, A ≤ 300 * n ∧ grOK sn a n A := by
  obtain ⟨A, hA, e⟩ := sumR_N (a := a) hsn n h
  exact ⟨A, hA, e, by omega, h0, by omega⟩
theorem quo_N {sn : fN} {a n A : Nat} (h : grOK sn a n A) : quoU sn a n = nI (A / n) := by
  unfold quoU
  rw [h.1]
  exact pk_div (by have := h.2.1; omega) h.2.2.1 (by have := h.2.2.2; omega)
theorem rem_N {sn : fN} {a n A : Nat} (h : grOK sn a n A) : remU sn a n = nI (A % n) := by
  unfold remU
  rw [h.1]
  exact pk_rem (by have := h.2.1; omega) h.2.2.1 (by have := h.2.2.2; omega)
def cellN (A n i : Nat) : Nat := if i < A % n then A / n + 1 else A / n
theorem cell_N {sn : fN} {a n A i : Nat} (h : grOK sn a n A) (hi : i < n) : cellU sn a n i = nI (cellN A n i) := by
  unfold cellU cellN
  rw [quo_N h, rem_N h]
  have hr : A % n < n := Nat.mod_lt _ h.2.2.1
  have hn := h.2.2.2
  by_cases c : i < A % n
  · rw [if_pos c, if_pos ((nI_ltI (by omega) (by omega)).mpr c)]; exact nI_1 _
  · rw [if_neg c, if_neg (fun q => c ((nI_ltI (by omega) (by omega)).mp q))]
theorem cellN_le {A n i : Nat} (hA : A ≤ 300 * n) (h0 : 0 < n) : cellN A n i ≤ 300 := by
  have hr : A % n < n := Nat.mod_lt _ h0
  have hdm := Nat.div_add_mod A n
  unfold cellN
  split
  · have : ¬ 300 ≤ A / n := fun q => by
      have := Nat.mul_le_mul_left n q
      rw [Nat.mul_comm n 300] at this
      omega
    omega
  · exact Nat.div_le_of_le_mul (by rw [Nat.mul_comm]; exact hA)
theorem SR_groom {sn : fN} {a n : Nat} (h : SR sn) (hn : a + n ≤ 20) (h0 : 0 < n) : SR (grU sn a n n) := by
  intro i hi
  unfold grU
  split
  · rename_i c
    obtain ⟨A, hA, hok⟩ := grT h0 hn h
    exact ⟨cellN A n (i - a), cellN_le hA h0, cell_N hok (by omega)⟩
  · exact h i hi
/-! a jump's numbers -/
theorem ins_all {P : Int32 → Prop} {x : Int32} (hx : P x) : ∀ (n : Nat) (g : fN), (∀ j, j < n → P (g j)) → ∀ j, j < n + 1 → P (insAt x n g j) := by
  intro n
  induction n with
  | zero => intro g _ j hj; obtain rfl : j = 0 := by omega
            show P (upd g 0 x 0); rw [upd_s]; exact hx
  | succ n ih =>
    intro g hg j hj
    by_cases c : x < g n
    · rw [insAt_lt c]
      rcases (show j < n + 1 ∨ j = n + 1 by omega) with q | rfl
      · exact ih _ (fun i hi => by rw [upd_n _ _ (by omega)]; exact hg i (by omega)) j q
      · rw [ins_hi _ _ _ _ (by omega), upd_s]; exact hg n (by omega)
    · rw [insAt_ge (Int32.not_lt.mp c)]
      rcases (show j < n + 1 ∨ j = n + 1 by omega) with q | rfl
      · rw [upd_n _ _ (by omega)]; exact hg j q
      · rw [upd_s]; exact hx
theorem sort_all {P : Int32 → Prop} {f : fN} : ∀ n, (∀ j, j < n → P (f j)) → ∀ j, j < n → P (sortP f n j) := by
  intro n
  induction n with
  | zero => intro _ j hj; exact absurd hj (Nat.not_lt_zero _)
  | succ n ih =>
    intro h
    show ∀ j, j < n + 1 → P (insAt (sortP f n n) n (sortP f n) j)
    rw [sortP_hi _ _ _ (Nat.le_refl _)]
    exact ins_all (h n (by omega)) n _ (ih (fun j hj => h j (by omega)))
/-- the middle three of five marks, each at most B -/
theorem mid_rng {z : Int32} {st : fN} {B : Nat} (hB : B ≤ 20) (h : ∀ k, k < 5 → ∃ j : Nat, j ≤ B ∧ mkU z st k = nI j) : ∃ M : Nat, M ≤ 3 * B ∧ (mksU z st 5).1 - (mksU z st 5).2.1 - (mksU z st 5).2.2 = nI M := by
  have hf : ∀ k, k < 5 → (fun k => if k < 5 then mkU z st k else 0 : fN) k = mkU z st k := fun k hk => if_pos hk
  generalize hF : (fun k => if k < 5 then mkU z st k else 0 : fN) = f at hf
  have hr : ∀ k, k < 5 → ∃ j : Nat, j ≤ B ∧ f k = nI j := fun k hk => by rw [hf k hk]; exact h k hk
  have hz : ∀ k, ∃ j : Nat, j ≤ 20 ∧ f k = nI j := fun k => by
    by_cases hk : k < 5
    · obtain ⟨j, hj, e⟩ := hr k hk; exact ⟨j, by omega, e⟩
    · exact ⟨0, by omega, by rw [← hF]; exact if_neg hk⟩
  have e := mid_f (len := 0) hf (fun k => by obtain ⟨j, hj, e⟩ := hz k; rw [e]; exact nI_pos' (by omega)) (fun k => by obtain ⟨j, hj, e⟩ := hz k; rw [e]; exact nI_le (b := 20) hj (by omega))
  have hs := sort_all (P := fun x => ∃ j : Nat, j ≤ B ∧ x = nI j) 5 hr
  obtain ⟨a, ha, e1⟩ := hs 1 (by omega)
  obtain ⟨b, hb, e2⟩ := hs 2 (by omega)
  obtain ⟨c, hc, e3⟩ := hs 3 (by omega)
  rw [e1, e2, e3, Int32.zero_add, Int32.zero_add, nI_add, nI_add] at e
  exact ⟨a + b + c, by omega, e.symm⟩
theorem mk_rng {a : Nat} {g e : Int32} {st : fN} {f : Nat} (ha : a ≤ 20) (hg : ¬ (g < -9 ∨ 9 < g)) (hf : f ≤ 1) (he : e = f8 (nI f)) (hst : STK st) : ∀ k, k < 5 → ∃ j : Nat, j ≤ 20 - 8 * f ∧ mkU (nI a - abI g - e) st k = nI j := by
  intro k hk
  obtain ⟨b, hb, eb⟩ := ab_rng hg
  obtain ⟨c, hc, ec⟩ := hst k hk
  have ee : e = nI (8 * f) := by
    rw [he]
    rcases (show f = 0 ∨ f = 1 by omega) with rfl | rfl <;> rfl
  have h2 : (nI a - abI g - e - st k).toInt = (a : Int) - b - (8 * f : Nat) - c := by rw [eb, ec, ee]; exact sub3 (by omega) (by omega) (by omega) (by omega)
  have e0 : (0 : Int32).toInt = 0 := rfl
  have e20 : (20 : Int32).toInt = 20 := by decide
  have h4 : mnI (nI a - abI g - e - st k) 20 = nI a - abI g - e - st k := by
    unfold mnI
    rw [if_neg (by rw [i_lt, h2, e20]; omega)]
  unfold mkU
  rw [h4]
  unfold mxI
  split
  · rename_i q
    refine nI_of2 (x := nI a - abI g - e - st k) (M := nI (20 - 8 * f)) (n := 20 - 8 * f) (nI_toInt (by omega)) (by rw [i_lt, h2, e0]; rw [i_lt, h2, e0] at q; omega) (by rw [i_le, h2, nI_toInt (by omega)]; omega)
  · exact ⟨0, by omega, rfl⟩
theorem bi_nat (c : Prop) [Decidable c] : ∃ f : Nat, f ≤ 1 ∧ bi c = nI f := by
  by_cases h : c
  · exact ⟨1, by omega, bi_t h⟩
  · exact ⟨0, by omega, bi_f h⟩
/-- the length and the points of a jump -/
theorem jump_rng {gate g : Int32} {a : Nat} {st : fN} {c : Prop} [Decidable c] (ha : a ≤ 20) (hg : ¬ (g < -9 ∨ 9 < g)) (hst : STK st) : ∃ x q f : Nat, x ≤ 99 ∧ x ≤ q ∧ q + 24 * f ≤ x + 60 ∧ f ≤ 1 ∧ lenU gate g (nI a) = nI x ∧ bi c = nI f ∧ lenU gate g (nI a) + ((mksU (nI a - abI g - f8 (bi c)) st 5).1 - (mksU (nI a - abI g - f8 (bi c)) st 5).2.1 - (mksU (nI a - abI g - f8 (bi c)) st 5).2.2) = nI q := by
  obtain ⟨x, hx, ex⟩ := lenU_rng gate g (nI a)
  obtain ⟨f, hf, ef⟩ := bi_nat c
  obtain ⟨M, hM, eM⟩ := mid_rng (B := 20 - 8 * f) (by omega) (mk_rng (e := f8 (bi c)) ha hg hf (by rw [ef]) hst)
  exact ⟨x, x + M, f, hx, by omega, by omega, hf, ex, ef, by rw [eM, ex, nI_add]⟩
section
variable {p : Program} {l : Launch} {e : Env} {R : Room} {s : State} {m : MethodId} {args : Array Value} {below : List Frame} {meth : Method} {c : Code} {H H0 : Heap} {locs : List Loc} {cells slots : Nat} {Q : State → Prop} {ls : Array Slot} {rest : List Value} {cc : ByteArray} {pc : Nat} {D : va_G} {Y : Nat → ClassId} {A : Nat → Prop}
variable {y : MethodName} {bytes : ByteArray} {maxL nL mc ms n index : Nat} {ret : Option FieldType} {rm : Room} {Ts wsY : List Cond} {own Cn host : String} {b : Nat} {As : List Value} {wc w1 ws ws' r : va_W} {st : List Value}
/-- a static call of a method that has no cells -/
theorem gS0i {E : Int32} (S : CallFix p m c cc nL s args Ts own) (hM : MI l y wsY rm D Y As H.size [] E [] mc ms) (cw : CallB R s args own index y bytes maxL ret wsY rm mc ms n ∧ (Cond.static y).before args s = true) (hKN : KN D Y s) (hP : va_P D vwCl ws H) (hD : va_D A ws) (hS : va_S A H0 H locs) (hA : ∀ q, H0.size ≤ q → A q)
    (hst : st = As.reverse ++ rest) (hln : As.length = n) (hsz : ls.size = nL) (hW : (rest.map fun v => v.category).sum ≤ 8) (hdg : decode cc pc = .ok (.invokestatic index, 3)) (hf : cells + mc ≤ R.cells ∧ slots + ms ≤ R.slots)
    (kk : ∀ (H1 : Heap) (locs1 : List Loc), va_P D vwCl ws H1 → va_D A ws → va_S A H0 H1 locs1 → W p l e R s m args below meth c H1 locs1 (cells + mc) (slots + ms) Q (F0 m (pc + 3) ls (.int E :: rest))) : W p l e R s m args below meth c H locs cells slots Q (F0 m pc ls st) :=
  gSi S hM cw hKN hP hD hS hA (r := ws) (List.Perm.refl _) (List.Perm.refl _) hst hln hsz hW hdg hf kk
theorem pSXG (hKN : KN D Y s) (hEX : EX s) (hZX : ZX A s H0) (hP : va_P D vwCl ws H) (hD : va_D A ws) (hS : va_S A H0 H locs) (hA : ∀ q, H0.size ≤ q → A q) (hp : ws.Perm (wc ++ r)) : PreS s H (pcX D Y As H.size wc) As := by
  refine ⟨pcX_blind, fun U hU hW => ?_⟩
  obtain ⟨-, h2⟩ := pSG (Y := Y) (As := As) hKN hP hD hp
  obtain ⟨q0, q1, q2, q3, q4⟩ := h2 U hU hW
  refine ⟨q0, q1, q2, q3, q4, hEX.warm hW, ?_⟩
  rw [hU]
  exact ZX.moved hW.alike ((hZX.kept hS.2.1).narrow (va_freeG hD hS hA hp))
/-- a call of a method that throws -/
theorem gXV {E : String} (S : CallFix p m c cc nL s args Ts own) (hM : MX l y wsY rm D Y (.ref b :: As) H.size wc E mc ms) (cw : CallW R s args own Cn index y bytes maxL ret wsY rm mc ms n) (hKN : KN D Y s) (hEX : EX s) (hZX : ZX A s H0) (hP : va_P D vwCl ws H) (hD : va_D A ws) (hS : va_S A H0 H locs) (hA : ∀ q, H0.size ≤ q → A q) (hp : ws.Perm (wc ++ r))
    (q0 ci : Nat) {fs : List Value} {T : u_T} {N : Nat} (hq : ws[q0]? = some (b, .inr (ci, fs))) (hc : vwCl[ci]? = some (Cn, T, N))
    (hst : st = As.reverse ++ .ref b :: rest) (hln : As.length = n) (hsz : ls.size = nL) (hW : (rest.map fun v => v.category).sum ≤ 8) (hdg : decode cc pc = .ok (.invokevirtual index, 3)) (hf : cells + mc ≤ R.cells ∧ slots + ms ≤ R.slots)
    (kk : ∀ (ce : Cell) (q9 : Addr) (H1 : Heap) (locs1 : List Loc), va_P D vwCl ws H1 → va_D A ws → va_S A H0 H1 locs1 → H1[q9]? = some ce → ce.vm = .none → s.vm.findClass E = some ce.cls → vx_W p l e R s m args below meth c H1 locs1 (cells + mc) (slots + ms) Q (F0 m pc ls rest) q9) : W p l e R s m args below meth c H locs cells slots Q (F0 m pc ls st) := by
  subst hst
  have hFc := va_freeG hD hS hA hp
  have hpre : PreV s H Cn b (pcX D Y (.ref b :: As) H.size wc) As := ⟨(pSXG (Y := Y) (As := .ref b :: As) hKN hEX hZX hP hD hS hA hp).1, va_recv hKN.1 hP hc hq, (pSXG (Y := Y) (As := .ref b :: As) hKN hEX hZX hP hD hS hA hp).2⟩
  refine vx_calli (vx_runV (As := As) (rest := rest) S hM cw hpre rfl hln hsz rfl (lv_room hW) hdg hf) hS (fun q _ h => hFc q h) hFc (fun q _ h => hFc q h) (fun E' ce q9 u t H1 locs ht hvm hw hB hz1 hk1 hS hq9 hv9 hcl => ?_) (fun r u t H1 locs ht hvm hw hB hz1 hk1 hS => hw.elim)
  obtain ⟨rfl, hP1, hD1⟩ := hB
  rw [ht] at hP1
  obtain ⟨hP2, hD2⟩ := fr hP hD hp hk1 hFc hP1 hD1
  exact kk ce q9 H1 locs (hP2.perm hp.symm) (hD2.perm hp.symm) hS hq9 hv9 hcl
/-- a call whose new cells are told by their addresses -/
theorem gVA {w1 ws' : (Nat → Nat) → va_W} (S : CallFix p m c cc nL s args Ts own) (hM : MA l y wsY rm D Y (.ref b :: As) H.size wc w1 mc ms) (cw : CallW R s args own Cn index y bytes maxL none wsY rm mc ms n) (hKN : KN D Y s) (hP : va_P D vwCl ws H) (hD : va_D A ws) (hS : va_S A H0 H locs) (hA : ∀ q, H0.size ≤ q → A q) (hp : ws.Perm (wc ++ r)) (hp' : ∀ ad, (w1 ad ++ r).Perm (ws' ad))
    (q0 ci : Nat) {fs : List Value} {T : u_T} {N : Nat} (hq : ws[q0]? = some (b, .inr (ci, fs))) (hc : vwCl[ci]? = some (Cn, T, N))
    (hst : st = As.reverse ++ .ref b :: rest) (hln : As.length = n) (hsz : ls.size = nL) (hW : (rest.map fun v => v.category).sum ≤ 8) (hdg : decode cc pc = .ok (.invokevirtual index, 3)) (hf : cells + mc ≤ R.cells ∧ slots + ms ≤ R.slots)
    (kk : ∀ (ad : Nat → Nat) (H1 : Heap) (locs1 : List Loc), va_P D vwCl (ws' ad) H1 → va_D A (ws' ad) → va_S A H0 H1 locs1 → W p l e R s m args below meth c H1 locs1 (cells + mc) (slots + ms) Q (F0 m (pc + 3) ls rest)) : W p l e R s m args below meth c H locs cells slots Q (F0 m pc ls st) := by
  subst hst
  have hFc := va_freeG hD hS hA hp
  refine va_callv (va_runV (As := As) (rest := rest) S hM cw (pVG hKN hP hD hp q0 ci hq hc) rfl hln hsz rfl (lv_room hW) hdg hf) hS (fun q _ h => hFc q h) hFc (fun ad t H1 locs ht hvm hw hB hz1 hk1 hS => ?_)
  obtain ⟨hP1, hD1⟩ := hB
  rw [ht] at hP1
  obtain ⟨hP2, hD2⟩ := fr hP hD hp hk1 hFc hP1 hD1
  exact kk ad H1 locs (hP2.perm (hp' ad)) (hD2.perm (hp' ad)) hS
end
theorem pl_fst (Y : Nat → ClassId) (L : List Nat) (N : Nat → Nat) (F : Nat → fN) : (pl Y L N F).map Prod.fst = L := by
  unfold pl va_pl
  rw [List.map_map]
  exact List.map_id L
theorem pool_nd {A : Nat → Prop} {Y : Nat → ClassId} {C X : va_W} {q : Nat} {L : List Nat} {N : Nat → Nat} {F : Nat → fN} (hD : va_D A (wp C (wp X (pl Y (q :: L) N F)))) : q ∉ L := by
  have h := hD.nd
  rw [List.map_append, List.map_append, pl_fst] at h
  have h2 := (List.nodup_append.mp (List.nodup_append.mp h).2.1).2.1
  exact (List.nodup_cons.mp h2).1
