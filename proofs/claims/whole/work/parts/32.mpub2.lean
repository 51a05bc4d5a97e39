abbrev rm_kX7_told : Room := { frames := 1, cells := 0, slots := 0, locals := 22 }
set_option maxHeartbeats 4000000 in
set_option maxRecDepth 100000 in
theorem kX7_told (l : Launch) (D : va_G) (Y : Nat → ClassId) (sz : Nat) (z : Nat) (z1 : Nat) (z2 : Nat) (z3 : Nat) (z4 : Nat) (z5 : Nat) (z6 : Nat) (z7 : Nat) (q : Nat) (r : Nat) (jr : fN) (ln : fN) (pt : fN) (fa : fN) (ho : fN) (th : Int32) (np : Nat) (nj : Nat) (v0 : Int32) (v1 : Int32) (ht : tTold v0 v1 nj = 0) (hnj : nj ≤ 30) : MI l yX7_told wsX7_told rm_kX7_told D Y [.ref z, .int v0, .int v1] sz [(z, .inr (7, [.int th, .ref z1, .ref z2, .ref z3, .int (nI np), .ref z4, .ref z5, .ref z6, .int (nI nj), .ref z7, .ref q, .ref r])), (z7, .inl (Y 0, 150, .inl (bkU jr ln pt fa ho)))] (tellU jr ln pt fa ho (ix v0) (ix v1)) [(z, .inr (7, [.int (0 : Int32), .ref z1, .ref z2, .ref z3, .int (nI np), .ref z4, .ref z5, .ref z6, .int (nI nj), .ref z7, .ref q, .ref r])), (z7, .inl (Y 0, 150, .inl (bkU jr ln pt fa ho)))] 0 0 := by
  refine pcW_start (cc := cX7_told) (maxL := 3) (ret := (some .int)) (Qc := fun A => va_Qi (fun (r : Int32) (_ : Unit) => r = (tellU jr ln pt fa ho (ix v0) (ix v1))) (qW D A [(z, .inr (7, [.int (0 : Int32), .ref z1, .ref z2, .ref z3, .int (nI np), .ref z4, .ref z5, .ref z6, .int (nI nj), .ref z7, .ref q, .ref r])), (z7, .inl (Y 0, 150, .inl (bkU jr ln pt fa ho)))]) A) (by decide) rfl (Nat.le_of_ble_eq_true rfl) ?_
  intro p e s m below meth c A ls hE hKN hA hP hD hl
  obtain ⟨hx, hb, hr, hml, hown, hts, hlk, hin⟩ := hE
  have hown : s.vm.findClass RX7 = some m.cls := hown
  have hS : va_S A s.heap s.heap [] := va_S.rf
  have hi7 : ∀ w ∈ wsX70, w ∈ wsX7_told := by decide +kernel
  have hl : lv_has ls 3 [(0, .ref z), (1, .int v0), (2, .int v1)] := hl
  have n0 := tTold_0 ht
  obtain ⟨n1, n2⟩ := n0
  obtain ⟨e1, b1⟩ := rngm (x := v0) (n := nj) (by omega) n1
  obtain ⟨e2, b2⟩ := rng (x := v1) (n := 4) (by decide) n2
  refine lv_aload_n hx hb dX7_told_0 rfl (lv_at hl 0 rfl) ?_
  refine lv_iconst (v := (0 : Int32)) hx hb dX7_told_1 (by decide) ?_
  refine va_put (D := D) (ci := 7) (v := .int (0 : Int32)) (ty := .int) (C := RX7) (T := TX7) (N := 12) hx hb hts hi7 tyX7 tyX7_ok nmX7 hown hKN.1 hP hD hS 0 rfl rfl 0 (by decide) (hts (.fieldLink RX7 41 "SnowPumpsModel" "thrown" "I") (by decide +kernel)) (fun _ h9 => h9) rfl (by decide +kernel) rfl rfl (Nat.le_of_ble_eq_true rfl) dX7_told_2 (fun H locs hP hD hS => ?_)
  have hP : va_P D vwCl [(z, .inr (7, [.int (0 : Int32), .ref z1, .ref z2, .ref z3, .int (nI np), .ref z4, .ref z5, .ref z6, .int (nI nj), .ref z7, .ref q, .ref r])), (z7, .inl (Y 0, 150, .inl (bkU jr ln pt fa ho)))] _ := hP
  have hD : va_D A [(z, .inr (7, [.int (0 : Int32), .ref z1, .ref z2, .ref z3, .int (nI np), .ref z4, .ref z5, .ref z6, .int (nI nj), .ref z7, .ref q, .ref r])), (z7, .inl (Y 0, 150, .inl (bkU jr ln pt fa ho)))] := hD
  refine lv_iload_n hx hb dX7_told_5 rfl (lv_at hl 1 rfl) ?_
  refine lv_iconst (v := (0 : Int32)) hx hb dX7_told_6 (by decide) ?_
  refine lv_aload_n hx hb dX7_told_7 rfl (lv_at hl 0 rfl) ?_
  refine va_get (D := D) (ci := 7) (v := .int (nI nj)) (C := RX7) (T := TX7) (N := 12) hx hb hts hi7 hown hKN.1 hP 0 rfl rfl 8 (by decide) (hts (.fieldLink RX7 102 "SnowPumpsModel" "jumps" "I") (by decide +kernel)) (fun _ h9 => h9) rfl dX7_told_8 ?_
  refine lv_iconst (v := (1 : Int32)) hx hb dX7_told_11 (by decide) ?_
  refine lv_isub hx hb dX7_told_12 ?_
  refine cSi (As := [.int v0, .int (0 : Int32), .int ((nI nj) - (1 : Int32))]) (rest := []) (ws' := [(z, .inr (7, [.int (0 : Int32), .ref z1, .ref z2, .ref z3, .int (nI np), .ref z4, .ref z5, .ref z6, .int (nI nj), .ref z7, .ref q, .ref r])), (z7, .inl (Y 0, 150, .inl (bkU jr ln pt fa ho)))]) ⟨hx, hb, hml, hown, hts⟩ (kX7_isIn l D Y _ v0 (0 : Int32) ((nI nj) - (1 : Int32)) ) (va_cwS 3 hts gX7_told_X7_isIn rfl rfl rfl (by decide +kernel) ⟨Nat.le_of_ble_eq_true rfl, Nat.le_of_ble_eq_true rfl⟩) hKN hP hD hS hA [] [0, 1] [0, 1] rfl (by decide) rfl rfl rfl rfl hl.1 (Nat.le_of_ble_eq_true rfl) dX7_told_13 ⟨Nat.le_of_ble_eq_true rfl, Nat.le_of_ble_eq_true rfl⟩ (fun H locs hP hD hS => ?_)
  refine lv_eqi (y := (1 : Int32)) (by exact bi_t n1) ?_
  refine lv_if_eq (tgt := 41) hx hb dX7_told_16 (by decide) (fun c_16 => by exfalso; revert c_16; decide) (fun c_16 => ?_)
  refine lv_iload_n hx hb dX7_told_19 rfl (lv_at hl 2 rfl) ?_
  refine lv_iconst (v := (0 : Int32)) hx hb dX7_told_20 (by decide) ?_
  refine lv_iconst (v := (4 : Int32)) hx hb dX7_told_21 (by decide) ?_
  refine cSi (As := [.int v1, .int (0 : Int32), .int (4 : Int32)]) (rest := []) (ws' := [(z, .inr (7, [.int (0 : Int32), .ref z1, .ref z2, .ref z3, .int (nI np), .ref z4, .ref z5, .ref z6, .int (nI nj), .ref z7, .ref q, .ref r])), (z7, .inl (Y 0, 150, .inl (bkU jr ln pt fa ho)))]) ⟨hx, hb, hml, hown, hts⟩ (kX7_isIn l D Y _ v1 (0 : Int32) (4 : Int32) ) (va_cwS 3 hts gX7_told_X7_isIn rfl rfl rfl (by decide +kernel) ⟨Nat.le_of_ble_eq_true rfl, Nat.le_of_ble_eq_true rfl⟩) hKN hP hD hS hA [] [0, 1] [0, 1] rfl (by decide) rfl rfl rfl rfl hl.1 (Nat.le_of_ble_eq_true rfl) dX7_told_22 ⟨Nat.le_of_ble_eq_true rfl, Nat.le_of_ble_eq_true rfl⟩ (fun H locs hP hD hS => ?_)
  refine lv_eqi (y := (1 : Int32)) (by exact bi_t n2) ?_
  refine lv_if_eq (tgt := 41) hx hb dX7_told_25 (by decide) (fun c_25 => by exfalso; revert c_25; decide) (fun c_25 => ?_)
  have ec_1 : v0 = (nI (ix v0)) := by exact e1
  have hl : lv_has ls 3 [(0, .ref z), (1, .int (nI (ix v0))), (2, .int v1)] := (congrArg (fun zz9 => lv_has ls 3 [(0, .ref z), (1, .int zz9), (2, .int v1)]) ec_1).mp hl
  have ec_2 : v1 = (nI (ix v1)) := by exact e2
  have hl : lv_has ls 3 [(0, .ref z), (1, .int (nI (ix v0))), (2, .int (nI (ix v1)))] := (congrArg (fun zz9 => lv_has ls 3 [(0, .ref z), (1, .int (nI (ix v0))), (2, .int zz9)]) ec_2).mp hl
  refine lv_aload_n hx hb dX7_told_28 rfl (lv_at hl 0 rfl) ?_
  refine va_get (D := D) (ci := 7) (v := .ref z7) (C := RX7) (T := TX7) (N := 12) hx hb hts hi7 hown hKN.1 hP 0 rfl rfl 9 (by decide) (hts (.fieldLink RX7 28 "SnowPumpsModel" "book" "[I") (by decide +kernel)) (fun _ h9 => h9) rfl dX7_told_29 ?_
  refine lv_iconst (v := (5 : Int32)) hx hb dX7_told_32 (by decide) ?_
  refine lv_iload_n hx hb dX7_told_33 rfl (lv_at hl 1 rfl) ?_
  refine lv_imul hx hb dX7_told_34 ?_
  refine lv_eqi (y := nI (5 * ix v0)) (by exact pk_mul 5 _) ?_
  refine lv_iload_n hx hb dX7_told_35 rfl (lv_at hl 2 rfl) ?_
  refine lv_iadd hx hb dX7_told_36 ?_
  refine lv_eqi (y := nI (5 * ix v0 + ix v1)) (by exact nI_add _ _) ?_
  refine ia hx hb hKN.1 hP 1 0 rfl rfl (5 * ix v0 + ix v1) (by rfl) (by omega) (by first | decide | assumption | omega) dX7_told_37 ?_
  refine lv_eqi (y := tellU jr ln pt fa ho (ix v0) (ix v1)) (by exact bk_at (by omega)) ?_
  refine lv_goto (tgt := 46) hx hb dX7_told_38 (by decide) ?_
  exact eI hx hb hr hlk hP hD hS (by rfl) (by rfl) (by exact Nat.le_of_ble_eq_true rfl) (by exact Nat.le_of_ble_eq_true rfl) dX7_told_46
abbrev rm_kX7_told_bad : Room := { frames := 1, cells := 0, slots := 0, locals := 22 }
set_option maxHeartbeats 4000000 in
set_option maxRecDepth 100000 in
theorem kX7_told_bad (l : Launch) (D : va_G) (Y : Nat → ClassId) (sz : Nat) (z : Nat) (z1 : Nat) (z2 : Nat) (z3 : Nat) (z4 : Nat) (z5 : Nat) (z6 : Nat) (z7 : Nat) (q : Nat) (r : Nat) (jr : fN) (ln : fN) (pt : fN) (fa : fN) (ho : fN) (th : Int32) (np : Nat) (nj : Nat) (v0 : Int32) (v1 : Int32) (ht : ¬ tTold v0 v1 nj = 0) : MI l yX7_told wsX7_told rm_kX7_told_bad D Y [.ref z, .int v0, .int v1] sz [(z, .inr (7, [.int th, .ref z1, .ref z2, .ref z3, .int (nI np), .ref z4, .ref z5, .ref z6, .int (nI nj), .ref z7, .ref q, .ref r])), (z7, .inl (Y 0, 150, .inl (bkU jr ln pt fa ho)))] (0 : Int32) [(z, .inr (7, [.int (nI (tTold v0 v1 nj)), .ref z1, .ref z2, .ref z3, .int (nI np), .ref z4, .ref z5, .ref z6, .int (nI nj), .ref z7, .ref q, .ref r])), (z7, .inl (Y 0, 150, .inl (bkU jr ln pt fa ho)))] 0 0 := by
  refine pcW_start (cc := cX7_told) (maxL := 3) (ret := (some .int)) (Qc := fun A => va_Qi (fun (r : Int32) (_ : Unit) => r = (0 : Int32)) (qW D A [(z, .inr (7, [.int (nI (tTold v0 v1 nj)), .ref z1, .ref z2, .ref z3, .int (nI np), .ref z4, .ref z5, .ref z6, .int (nI nj), .ref z7, .ref q, .ref r])), (z7, .inl (Y 0, 150, .inl (bkU jr ln pt fa ho)))]) A) (by decide) rfl (Nat.le_of_ble_eq_true rfl) ?_
  intro p e s m below meth c A ls hE hKN hA hP hD hl
  obtain ⟨hx, hb, hr, hml, hown, hts, hlk, hin⟩ := hE
  have hown : s.vm.findClass RX7 = some m.cls := hown
  have hS : va_S A s.heap s.heap [] := va_S.rf
  have hi7 : ∀ w ∈ wsX70, w ∈ wsX7_told := by decide +kernel
  have hl : lv_has ls 3 [(0, .ref z), (1, .int v0), (2, .int v1)] := hl
  refine lv_aload_n hx hb dX7_told_0 rfl (lv_at hl 0 rfl) ?_
  refine lv_iconst (v := (0 : Int32)) hx hb dX7_told_1 (by decide) ?_
  refine va_put (D := D) (ci := 7) (v := .int (0 : Int32)) (ty := .int) (C := RX7) (T := TX7) (N := 12) hx hb hts hi7 tyX7 tyX7_ok nmX7 hown hKN.1 hP hD hS 0 rfl rfl 0 (by decide) (hts (.fieldLink RX7 41 "SnowPumpsModel" "thrown" "I") (by decide +kernel)) (fun _ h9 => h9) rfl (by decide +kernel) rfl rfl (Nat.le_of_ble_eq_true rfl) dX7_told_2 (fun H locs hP hD hS => ?_)
  have hP : va_P D vwCl [(z, .inr (7, [.int (0 : Int32), .ref z1, .ref z2, .ref z3, .int (nI np), .ref z4, .ref z5, .ref z6, .int (nI nj), .ref z7, .ref q, .ref r])), (z7, .inl (Y 0, 150, .inl (bkU jr ln pt fa ho)))] _ := hP
  have hD : va_D A [(z, .inr (7, [.int (0 : Int32), .ref z1, .ref z2, .ref z3, .int (nI np), .ref z4, .ref z5, .ref z6, .int (nI nj), .ref z7, .ref q, .ref r])), (z7, .inl (Y 0, 150, .inl (bkU jr ln pt fa ho)))] := hD
  refine lv_iload_n hx hb dX7_told_5 rfl (lv_at hl 1 rfl) ?_
  refine lv_iconst (v := (0 : Int32)) hx hb dX7_told_6 (by decide) ?_
  refine lv_aload_n hx hb dX7_told_7 rfl (lv_at hl 0 rfl) ?_
  refine va_get (D := D) (ci := 7) (v := .int (nI nj)) (C := RX7) (T := TX7) (N := 12) hx hb hts hi7 hown hKN.1 hP 0 rfl rfl 8 (by decide) (hts (.fieldLink RX7 102 "SnowPumpsModel" "jumps" "I") (by decide +kernel)) (fun _ h9 => h9) rfl dX7_told_8 ?_
  refine lv_iconst (v := (1 : Int32)) hx hb dX7_told_11 (by decide) ?_
  refine lv_isub hx hb dX7_told_12 ?_
  refine cSi (As := [.int v0, .int (0 : Int32), .int ((nI nj) - (1 : Int32))]) (rest := []) (ws' := [(z, .inr (7, [.int (0 : Int32), .ref z1, .ref z2, .ref z3, .int (nI np), .ref z4, .ref z5, .ref z6, .int (nI nj), .ref z7, .ref q, .ref r])), (z7, .inl (Y 0, 150, .inl (bkU jr ln pt fa ho)))]) ⟨hx, hb, hml, hown, hts⟩ (kX7_isIn l D Y _ v0 (0 : Int32) ((nI nj) - (1 : Int32)) ) (va_cwS 3 hts gX7_told_X7_isIn rfl rfl rfl (by decide +kernel) ⟨Nat.le_of_ble_eq_true rfl, Nat.le_of_ble_eq_true rfl⟩) hKN hP hD hS hA [] [0, 1] [0, 1] rfl (by decide) rfl rfl rfl rfl hl.1 (Nat.le_of_ble_eq_true rfl) dX7_told_13 ⟨Nat.le_of_ble_eq_true rfl, Nat.le_of_ble_eq_true rfl⟩ (fun H locs hP hD hS => ?_)
  refine lv_if_eq (tgt := 41) hx hb dX7_told_16 (by decide) (fun c_16 => ?_) (fun c_16 => ?_)
  · have e9 : tTold v0 v1 nj = 1 := by unfold tTold; rw [if_pos (bi_0n c_16)]
    refine lv_aload_n hx hb dX7_told_41 rfl (lv_at hl 0 rfl) ?_
    refine lv_iconst (v := (1 : Int32)) hx hb dX7_told_42 (by decide) ?_
    refine cVi (As := [.int (1 : Int32)]) (rest := []) (ws' := [(z, .inr (7, [.int (1 : Int32), .ref z1, .ref z2, .ref z3, .int (nI np), .ref z4, .ref z5, .ref z6, .int (nI nj), .ref z7, .ref q, .ref r])), (z7, .inl (Y 0, 150, .inl (bkU jr ln pt fa ho)))]) ⟨hx, hb, hml, hown, hts⟩ (kX7_no l D Y _ z z1 z2 z3 z4 z5 z6 z7 q r (0 : Int32) np nj (1 : Int32) ) (cwV 1 hts gX7_told_X7_no rfl rfl rfl (by decide +kernel) ⟨Nat.le_of_ble_eq_true rfl, Nat.le_of_ble_eq_true rfl⟩) hKN hP hD hS hA [0] [1] [1, 0] rfl (by decide) rfl rfl 0 7 rfl rfl rfl rfl hl.1 (Nat.le_of_ble_eq_true rfl) dX7_told_43 ⟨Nat.le_of_ble_eq_true rfl, Nat.le_of_ble_eq_true rfl⟩ (fun H locs hP hD hS => ?_)
    have ec_1 : (1 : Int32) = (nI (tTold v0 v1 nj)) := by rw [e9]; first | done | rfl
    have hP : va_P D vwCl [(z, .inr (7, [.int (nI (tTold v0 v1 nj)), .ref z1, .ref z2, .ref z3, .int (nI np), .ref z4, .ref z5, .ref z6, .int (nI nj), .ref z7, .ref q, .ref r])), (z7, .inl (Y 0, 150, .inl (bkU jr ln pt fa ho)))] _ := (congrArg (fun zz9 => va_P D vwCl [(z, .inr (7, [.int zz9, .ref z1, .ref z2, .ref z3, .int (nI np), .ref z4, .ref z5, .ref z6, .int (nI nj), .ref z7, .ref q, .ref r])), (z7, .inl (Y 0, 150, .inl (bkU jr ln pt fa ho)))] _) ec_1).mp hP
    have hD : va_D A [(z, .inr (7, [.int (nI (tTold v0 v1 nj)), .ref z1, .ref z2, .ref z3, .int (nI np), .ref z4, .ref z5, .ref z6, .int (nI nj), .ref z7, .ref q, .ref r])), (z7, .inl (Y 0, 150, .inl (bkU jr ln pt fa ho)))] := (congrArg (fun zz9 => va_D A [(z, .inr (7, [.int zz9, .ref z1, .ref z2, .ref z3, .int (nI np), .ref z4, .ref z5, .ref z6, .int (nI nj), .ref z7, .ref q, .ref r])), (z7, .inl (Y 0, 150, .inl (bkU jr ln pt fa ho)))]) ec_1).mp hD
    exact eI hx hb hr hlk hP hD hS (by rfl) (by rfl) (by exact Nat.le_of_ble_eq_true rfl) (by exact Nat.le_of_ble_eq_true rfl) dX7_told_46
  · have n1 : ¬ (v0 < 0 ∨ nI nj - 1 < v0) := bi_n c_16
    refine lv_iload_n hx hb dX7_told_19 rfl (lv_at hl 2 rfl) ?_
    refine lv_iconst (v := (0 : Int32)) hx hb dX7_told_20 (by decide) ?_
    refine lv_iconst (v := (4 : Int32)) hx hb dX7_told_21 (by decide) ?_
    refine cSi (As := [.int v1, .int (0 : Int32), .int (4 : Int32)]) (rest := []) (ws' := [(z, .inr (7, [.int (0 : Int32), .ref z1, .ref z2, .ref z3, .int (nI np), .ref z4, .ref z5, .ref z6, .int (nI nj), .ref z7, .ref q, .ref r])), (z7, .inl (Y 0, 150, .inl (bkU jr ln pt fa ho)))]) ⟨hx, hb, hml, hown, hts⟩ (kX7_isIn l D Y _ v1 (0 : Int32) (4 : Int32) ) (va_cwS 3 hts gX7_told_X7_isIn rfl rfl rfl (by decide +kernel) ⟨Nat.le_of_ble_eq_true rfl, Nat.le_of_ble_eq_true rfl⟩) hKN hP hD hS hA [] [0, 1] [0, 1] rfl (by decide) rfl rfl rfl rfl hl.1 (Nat.le_of_ble_eq_true rfl) dX7_told_22 ⟨Nat.le_of_ble_eq_true rfl, Nat.le_of_ble_eq_true rfl⟩ (fun H locs hP hD hS => ?_)
    refine lv_if_eq (tgt := 41) hx hb dX7_told_25 (by decide) (fun c_25 => ?_) (fun c_25 => ?_)
    · have e9 : tTold v0 v1 nj = 1 := by unfold tTold; rw [if_neg n1, if_pos (bi_0n c_25)]
      refine lv_aload_n hx hb dX7_told_41 rfl (lv_at hl 0 rfl) ?_
      refine lv_iconst (v := (1 : Int32)) hx hb dX7_told_42 (by decide) ?_
      refine cVi (As := [.int (1 : Int32)]) (rest := []) (ws' := [(z, .inr (7, [.int (1 : Int32), .ref z1, .ref z2, .ref z3, .int (nI np), .ref z4, .ref z5, .ref z6, .int (nI nj), .ref z7, .ref q, .ref r])), (z7, .inl (Y 0, 150, .inl (bkU jr ln pt fa ho)))]) ⟨hx, hb, hml, hown, hts⟩ (kX7_no l D Y _ z z1 z2 z3 z4 z5 z6 z7 q r (0 : Int32) np nj (1 : Int32) ) (cwV 1 hts gX7_told_X7_no rfl rfl rfl (by decide +kernel) ⟨Nat.le_of_ble_eq_true rfl, Nat.le_of_ble_eq_true rfl⟩) hKN hP hD hS hA [0] [1] [1, 0] rfl (by decide) rfl rfl 0 7 rfl rfl rfl rfl hl.1 (Nat.le_of_ble_eq_true rfl) dX7_told_43 ⟨Nat.le_of_ble_eq_true rfl, Nat.le_of_ble_eq_true rfl⟩ (fun H locs hP hD hS => ?_)
      have ec_2 : (1 : Int32) = (nI (tTold v0 v1 nj)) := by rw [e9]; first | done | rfl
      have hP : va_P D vwCl [(z, .inr (7, [.int (nI (tTold v0 v1 nj)), .ref z1, .ref z2, .ref z3, .int (nI np), .ref z4, .ref z5, .ref z6, .int (nI nj), .ref z7, .ref q, .ref r])), (z7, .inl (Y 0, 150, .inl (bkU jr ln pt fa ho)))] _ := (congrArg (fun zz9 => va_P D vwCl [(z, .inr (7, [.int zz9, .ref z1, .ref z2, .ref z3, .int (nI np), .ref z4, .ref z5, .ref z6, .int (nI nj), .ref z7, .ref q, .ref r])), (z7, .inl (Y 0, 150, .inl (bkU jr ln pt fa ho)))] _) ec_2).mp hP
      have hD : va_D A [(z, .inr (7, [.int (nI (tTold v0 v1 nj)), .ref z1, .ref z2, .ref z3, .int (nI np), .ref z4, .ref z5, .ref z6, .int (nI nj), .ref z7, .ref q, .ref r])), (z7, .inl (Y 0, 150, .inl (bkU jr ln pt fa ho)))] := (congrArg (fun zz9 => va_D A [(z, .inr (7, [.int zz9, .ref z1, .ref z2, .ref z3, .int (nI np), .ref z4, .ref z5, .ref z6, .int (nI nj), .ref z7, .ref q, .ref r])), (z7, .inl (Y 0, 150, .inl (bkU jr ln pt fa ho)))]) ec_2).mp hD
      exact eI hx hb hr hlk hP hD hS (by rfl) (by rfl) (by exact Nat.le_of_ble_eq_true rfl) (by exact Nat.le_of_ble_eq_true rfl) dX7_told_46
    · exfalso
      exact ht (by unfold tTold; rw [if_neg n1, if_neg (bi_n c_25)])
abbrev rm_kX7_score : Room := { frames := 2, cells := 0, slots := 0, locals := 39 }
set_option maxHeartbeats 4000000 in
set_option maxRecDepth 100000 in
theorem kX7_score (l : Launch) (D : va_G) (Y : Nat → ClassId) (sz : Nat) (z : Nat) (z1 : Nat) (z2 : Nat) (z3 : Nat) (z4 : Nat) (z5 : Nat) (z6 : Nat) (z7 : Nat) (q : Nat) (r : Nat) (jr : fN) (ln : fN) (pt : fN) (fa : fN) (ho : fN) (th : Int32) (np : Nat) (nj : Nat) (v0 : Int32) (ht : tScore v0 = 0) (hnj : nj ≤ 30) : MI l yX7_score wsX7_score rm_kX7_score D Y [.ref z, .int v0] sz [(z, .inr (7, [.int th, .ref z1, .ref z2, .ref z3, .int (nI np), .ref z4, .ref z5, .ref z6, .int (nI nj), .ref z7, .ref q, .ref r])), (z7, .inl (Y 0, 150, .inl (bkU jr ln pt fa ho)))] (scU jr pt nj v0) [(z, .inr (7, [.int (0 : Int32), .ref z1, .ref z2, .ref z3, .int (nI np), .ref z4, .ref z5, .ref z6, .int (nI nj), .ref z7, .ref q, .ref r])), (z7, .inl (Y 0, 150, .inl (bkU jr ln pt fa ho)))] 0 0 := by
  refine pcW_start (cc := cX7_score) (maxL := 2) (ret := (some .int)) (Qc := fun A => va_Qi (fun (r : Int32) (_ : Unit) => r = (scU jr pt nj v0)) (qW D A [(z, .inr (7, [.int (0 : Int32), .ref z1, .ref z2, .ref z3, .int (nI np), .ref z4, .ref z5, .ref z6, .int (nI nj), .ref z7, .ref q, .ref r])), (z7, .inl (Y 0, 150, .inl (bkU jr ln pt fa ho)))]) A) (by decide) rfl (Nat.le_of_ble_eq_true rfl) ?_
  intro p e s m below meth c A ls hE hKN hA hP hD hl
  obtain ⟨hx, hb, hr, hml, hown, hts, hlk, hin⟩ := hE
  have hown : s.vm.findClass RX7 = some m.cls := hown
  have hS : va_S A s.heap s.heap [] := va_S.rf
  have hi7 : ∀ w ∈ wsX70, w ∈ wsX7_score := by decide +kernel
  have hl : lv_has ls 2 [(0, .ref z), (1, .int v0)] := hl
  have n1 := tScore_0 ht
  refine lv_aload_n hx hb dX7_score_0 rfl (lv_at hl 0 rfl) ?_
  refine lv_iconst (v := (0 : Int32)) hx hb dX7_score_1 (by decide) ?_
  refine va_put (D := D) (ci := 7) (v := .int (0 : Int32)) (ty := .int) (C := RX7) (T := TX7) (N := 12) hx hb hts hi7 tyX7 tyX7_ok nmX7 hown hKN.1 hP hD hS 0 rfl rfl 0 (by decide) (hts (.fieldLink RX7 41 "SnowPumpsModel" "thrown" "I") (by decide +kernel)) (fun _ h9 => h9) rfl (by decide +kernel) rfl rfl (Nat.le_of_ble_eq_true rfl) dX7_score_2 (fun H locs hP hD hS => ?_)
  have hP : va_P D vwCl [(z, .inr (7, [.int (0 : Int32), .ref z1, .ref z2, .ref z3, .int (nI np), .ref z4, .ref z5, .ref z6, .int (nI nj), .ref z7, .ref q, .ref r])), (z7, .inl (Y 0, 150, .inl (bkU jr ln pt fa ho)))] _ := hP
  have hD : va_D A [(z, .inr (7, [.int (0 : Int32), .ref z1, .ref z2, .ref z3, .int (nI np), .ref z4, .ref z5, .ref z6, .int (nI nj), .ref z7, .ref q, .ref r])), (z7, .inl (Y 0, 150, .inl (bkU jr ln pt fa ho)))] := hD
  refine lv_iload_n hx hb dX7_score_5 rfl (lv_at hl 1 rfl) ?_
  refine lv_iconst (v := (0 : Int32)) hx hb dX7_score_6 (by decide) ?_
  refine lv_bipush (v := (9 : Int32)) hx hb dX7_score_7 (by decide) ?_
  refine cSi (As := [.int v0, .int (0 : Int32), .int (9 : Int32)]) (rest := []) (ws' := [(z, .inr (7, [.int (0 : Int32), .ref z1, .ref z2, .ref z3, .int (nI np), .ref z4, .ref z5, .ref z6, .int (nI nj), .ref z7, .ref q, .ref r])), (z7, .inl (Y 0, 150, .inl (bkU jr ln pt fa ho)))]) ⟨hx, hb, hml, hown, hts⟩ (kX7_isIn l D Y _ v0 (0 : Int32) (9 : Int32) ) (va_cwS 3 hts gX7_score_X7_isIn rfl rfl rfl (by decide +kernel) ⟨Nat.le_of_ble_eq_true rfl, Nat.le_of_ble_eq_true rfl⟩) hKN hP hD hS hA [] [0, 1] [0, 1] rfl (by decide) rfl rfl rfl rfl hl.1 (Nat.le_of_ble_eq_true rfl) dX7_score_9 ⟨Nat.le_of_ble_eq_true rfl, Nat.le_of_ble_eq_true rfl⟩ (fun H locs hP hD hS => ?_)
  refine lv_eqi (y := (1 : Int32)) (by exact bi_t n1) ?_
  refine lv_if_eq (tgt := 23) hx hb dX7_score_12 (by decide) (fun c_12 => by exfalso; revert c_12; decide) (fun c_12 => ?_)
  refine lv_aload_n hx hb dX7_score_15 rfl (lv_at hl 0 rfl) ?_
  refine lv_iload_n hx hb dX7_score_16 rfl (lv_at hl 1 rfl) ?_
  refine cVi (As := [.int v0]) (rest := []) (ws' := [(z, .inr (7, [.int (0 : Int32), .ref z1, .ref z2, .ref z3, .int (nI np), .ref z4, .ref z5, .ref z6, .int (nI nj), .ref z7, .ref q, .ref r])), (z7, .inl (Y 0, 150, .inl (bkU jr ln pt fa ho)))]) ⟨hx, hb, hml, hown, hts⟩ (kX7_scoreOf l D Y _ z z1 z2 z3 z4 z5 z6 z7 q r jr ln pt fa ho (0 : Int32) np nj v0 (by first | assumption | omega)) (cwV 1 hts gX7_score_X7_scoreOf rfl rfl rfl (by decide +kernel) ⟨Nat.le_of_ble_eq_true rfl, Nat.le_of_ble_eq_true rfl⟩) hKN hP hD hS hA [0, 1] [] [0, 1] rfl (by decide) rfl rfl 0 7 rfl rfl rfl rfl hl.1 (Nat.le_of_ble_eq_true rfl) dX7_score_17 ⟨Nat.le_of_ble_eq_true rfl, Nat.le_of_ble_eq_true rfl⟩ (fun H locs hP hD hS => ?_)
  refine lv_goto (tgt := 28) hx hb dX7_score_20 (by decide) ?_
  exact eI hx hb hr hlk hP hD hS (by rfl) (by rfl) (by exact Nat.le_of_ble_eq_true rfl) (by exact Nat.le_of_ble_eq_true rfl) dX7_score_28
abbrev rm_kX7_score_bad : Room := { frames := 1, cells := 0, slots := 0, locals := 22 }
set_option maxHeartbeats 4000000 in
set_option maxRecDepth 100000 in
theorem kX7_score_bad (l : Launch) (D : va_G) (Y : Nat → ClassId) (sz : Nat) (z : Nat) (z1 : Nat) (z2 : Nat) (z3 : Nat) (z4 : Nat) (z5 : Nat) (z6 : Nat) (z7 : Nat) (q : Nat) (r : Nat) (jr : fN) (ln : fN) (pt : fN) (fa : fN) (ho : fN) (th : Int32) (np : Nat) (nj : Nat) (v0 : Int32) (ht : ¬ tScore v0 = 0) : MI l yX7_score wsX7_score rm_kX7_score_bad D Y [.ref z, .int v0] sz [(z, .inr (7, [.int th, .ref z1, .ref z2, .ref z3, .int (nI np), .ref z4, .ref z5, .ref z6, .int (nI nj), .ref z7, .ref q, .ref r])), (z7, .inl (Y 0, 150, .inl (bkU jr ln pt fa ho)))] (0 : Int32) [(z, .inr (7, [.int (nI (tScore v0)), .ref z1, .ref z2, .ref z3, .int (nI np), .ref z4, .ref z5, .ref z6, .int (nI nj), .ref z7, .ref q, .ref r])), (z7, .inl (Y 0, 150, .inl (bkU jr ln pt fa ho)))] 0 0 := by
  refine pcW_start (cc := cX7_score) (maxL := 2) (ret := (some .int)) (Qc := fun A => va_Qi (fun (r : Int32) (_ : Unit) => r = (0 : Int32)) (qW D A [(z, .inr (7, [.int (nI (tScore v0)), .ref z1, .ref z2, .ref z3, .int (nI np), .ref z4, .ref z5, .ref z6, .int (nI nj), .ref z7, .ref q, .ref r])), (z7, .inl (Y 0, 150, .inl (bkU jr ln pt fa ho)))]) A) (by decide) rfl (Nat.le_of_ble_eq_true rfl) ?_
  intro p e s m below meth c A ls hE hKN hA hP hD hl
  obtain ⟨hx, hb, hr, hml, hown, hts, hlk, hin⟩ := hE
  have hown : s.vm.findClass RX7 = some m.cls := hown
  have hS : va_S A s.heap s.heap [] := va_S.rf
  have hi7 : ∀ w ∈ wsX70, w ∈ wsX7_score := by decide +kernel
  have hl : lv_has ls 2 [(0, .ref z), (1, .int v0)] := hl
  refine lv_aload_n hx hb dX7_score_0 rfl (lv_at hl 0 rfl) ?_
  refine lv_iconst (v := (0 : Int32)) hx hb dX7_score_1 (by decide) ?_
  refine va_put (D := D) (ci := 7) (v := .int (0 : Int32)) (ty := .int) (C := RX7) (T := TX7) (N := 12) hx hb hts hi7 tyX7 tyX7_ok nmX7 hown hKN.1 hP hD hS 0 rfl rfl 0 (by decide) (hts (.fieldLink RX7 41 "SnowPumpsModel" "thrown" "I") (by decide +kernel)) (fun _ h9 => h9) rfl (by decide +kernel) rfl rfl (Nat.le_of_ble_eq_true rfl) dX7_score_2 (fun H locs hP hD hS => ?_)
  have hP : va_P D vwCl [(z, .inr (7, [.int (0 : Int32), .ref z1, .ref z2, .ref z3, .int (nI np), .ref z4, .ref z5, .ref z6, .int (nI nj), .ref z7, .ref q, .ref r])), (z7, .inl (Y 0, 150, .inl (bkU jr ln pt fa ho)))] _ := hP
  have hD : va_D A [(z, .inr (7, [.int (0 : Int32), .ref z1, .ref z2, .ref z3, .int (nI np), .ref z4, .ref z5, .ref z6, .int (nI nj), .ref z7, .ref q, .ref r])), (z7, .inl (Y 0, 150, .inl (bkU jr ln pt fa ho)))] := hD
  refine lv_iload_n hx hb dX7_score_5 rfl (lv_at hl 1 rfl) ?_
  refine lv_iconst (v := (0 : Int32)) hx hb dX7_score_6 (by decide) ?_
  refine lv_bipush (v := (9 : Int32)) hx hb dX7_score_7 (by decide) ?_
  refine cSi (As := [.int v0, .int (0 : Int32), .int (9 : Int32)]) (rest := []) (ws' := [(z, .inr (7, [.int (0 : Int32), .ref z1, .ref z2, .ref z3, .int (nI np), .ref z4, .ref z5, .ref z6, .int (nI nj), .ref z7, .ref q, .ref r])), (z7, .inl (Y 0, 150, .inl (bkU jr ln pt fa ho)))]) ⟨hx, hb, hml, hown, hts⟩ (kX7_isIn l D Y _ v0 (0 : Int32) (9 : Int32) ) (va_cwS 3 hts gX7_score_X7_isIn rfl rfl rfl (by decide +kernel) ⟨Nat.le_of_ble_eq_true rfl, Nat.le_of_ble_eq_true rfl⟩) hKN hP hD hS hA [] [0, 1] [0, 1] rfl (by decide) rfl rfl rfl rfl hl.1 (Nat.le_of_ble_eq_true rfl) dX7_score_9 ⟨Nat.le_of_ble_eq_true rfl, Nat.le_of_ble_eq_true rfl⟩ (fun H locs hP hD hS => ?_)
  refine lv_if_eq (tgt := 23) hx hb dX7_score_12 (by decide) (fun c_12 => ?_) (fun c_12 => ?_)
  · have e9 : tScore v0 = 1 := by unfold tScore; rw [if_pos (bi_0n c_12)]
    refine lv_aload_n hx hb dX7_score_23 rfl (lv_at hl 0 rfl) ?_
    refine lv_iconst (v := (1 : Int32)) hx hb dX7_score_24 (by decide) ?_
    refine cVi (As := [.int (1 : Int32)]) (rest := []) (ws' := [(z, .inr (7, [.int (1 : Int32), .ref z1, .ref z2, .ref z3, .int (nI np), .ref z4, .ref z5, .ref z6, .int (nI nj), .ref z7, .ref q, .ref r])), (z7, .inl (Y 0, 150, .inl (bkU jr ln pt fa ho)))]) ⟨hx, hb, hml, hown, hts⟩ (kX7_no l D Y _ z z1 z2 z3 z4 z5 z6 z7 q r (0 : Int32) np nj (1 : Int32) ) (cwV 1 hts gX7_score_X7_no rfl rfl rfl (by decide +kernel) ⟨Nat.le_of_ble_eq_true rfl, Nat.le_of_ble_eq_true rfl⟩) hKN hP hD hS hA [0] [1] [1, 0] rfl (by decide) rfl rfl 0 7 rfl rfl rfl rfl hl.1 (Nat.le_of_ble_eq_true rfl) dX7_score_25 ⟨Nat.le_of_ble_eq_true rfl, Nat.le_of_ble_eq_true rfl⟩ (fun H locs hP hD hS => ?_)
    have ec_1 : (1 : Int32) = (nI (tScore v0)) := by rw [e9]; first | done | rfl
    have hP : va_P D vwCl [(z, .inr (7, [.int (nI (tScore v0)), .ref z1, .ref z2, .ref z3, .int (nI np), .ref z4, .ref z5, .ref z6, .int (nI nj), .ref z7, .ref q, .ref r])), (z7, .inl (Y 0, 150, .inl (bkU jr ln pt fa ho)))] _ := (congrArg (fun zz9 => va_P D vwCl [(z, .inr (7, [.int zz9, .ref z1, .ref z2, .ref z3, .int (nI np), .ref z4, .ref z5, .ref z6, .int (nI nj), .ref z7, .ref q, .ref r])), (z7, .inl (Y 0, 150, .inl (bkU jr ln pt fa ho)))] _) ec_1).mp hP
    have hD : va_D A [(z, .inr (7, [.int (nI (tScore v0)), .ref z1, .ref z2, .ref z3, .int (nI np), .ref z4, .ref z5, .ref z6, .int (nI nj), .ref z7, .ref q, .ref r])), (z7, .inl (Y 0, 150, .inl (bkU jr ln pt fa ho)))] := (congrArg (fun zz9 => va_D A [(z, .inr (7, [.int zz9, .ref z1, .ref z2, .ref z3, .int (nI np), .ref z4, .ref z5, .ref z6, .int (nI nj), .ref z7, .ref q, .ref r])), (z7, .inl (Y 0, 150, .inl (bkU jr ln pt fa ho)))]) ec_1).mp hD
    exact eI hx hb hr hlk hP hD hS (by rfl) (by rfl) (by exact Nat.le_of_ble_eq_true rfl) (by exact Nat.le_of_ble_eq_true rfl) dX7_score_28
  · exfalso
    exact ht (by unfold tScore; rw [if_neg (bi_n c_12)])
abbrev rm_kX7_part : Room := { frames := 2, cells := 0, slots := 0, locals := 45 }
set_option maxHeartbeats 4000000 in
set_option maxRecDepth 100000 in
theorem kX7_part (l : Launch) (D : va_G) (Y : Nat → ClassId) (sz : Nat) (z : Nat) (z1 : Nat) (z2 : Nat) (z3 : Nat) (z4 : Nat) (z5 : Nat) (z6 : Nat) (z7 : Nat) (q : Nat) (q1 : Nat) (q2 : Nat) (q3 : Nat) (r : Nat) (pa : fN) (sn : fN) (ic : fN) (wt : Int32) (th : Int32) (tm : Nat) (np : Nat) (nj : Nat) (v0 : Int32) (v1 : Int32) (ht : tPart v0 v1 = 0) (hnp : np ≤ 5) : MI l yX7_part wsX7_part rm_kX7_part D Y [.ref z, .int v0, .int v1] sz [(z, .inr (7, [.int th, .ref z1, .ref z2, .ref z3, .int (nI np), .ref z4, .ref z5, .ref z6, .int (nI nj), .ref z7, .ref q, .ref r])), (z4, .inl (Y 0, 5, .inl pa)), (q, .inr (6, [.int (nI tm), .int wt, .ref q1, .ref q2, .ref q3])), (q1, .inl (Y 0, 20, .inl sn)), (q2, .inl (Y 0, 20, .inl ic))] (partU sn ic pa np (ix v0) (ix v1)) [(z, .inr (7, [.int (0 : Int32), .ref z1, .ref z2, .ref z3, .int (nI np), .ref z4, .ref z5, .ref z6, .int (nI nj), .ref z7, .ref q, .ref r])), (z4, .inl (Y 0, 5, .inl pa)), (q, .inr (6, [.int (nI tm), .int wt, .ref q1, .ref q2, .ref q3])), (q1, .inl (Y 0, 20, .inl sn)), (q2, .inl (Y 0, 20, .inl ic))] 0 0 := by
  refine pcW_start (cc := cX7_part) (maxL := 3) (ret := (some .int)) (Qc := fun A => va_Qi (fun (r : Int32) (_ : Unit) => r = (partU sn ic pa np (ix v0) (ix v1))) (qW D A [(z, .inr (7, [.int (0 : Int32), .ref z1, .ref z2, .ref z3, .int (nI np), .ref z4, .ref z5, .ref z6, .int (nI nj), .ref z7, .ref q, .ref r])), (z4, .inl (Y 0, 5, .inl pa)), (q, .inr (6, [.int (nI tm), .int wt, .ref q1, .ref q2, .ref q3])), (q1, .inl (Y 0, 20, .inl sn)), (q2, .inl (Y 0, 20, .inl ic))]) A) (by decide) rfl (Nat.le_of_ble_eq_true rfl) ?_
  intro p e s m below meth c A ls hE hKN hA hP hD hl
  obtain ⟨hx, hb, hr, hml, hown, hts, hlk, hin⟩ := hE
  have hown : s.vm.findClass RX7 = some m.cls := hown
  have hS : va_S A s.heap s.heap [] := va_S.rf
  have hi7 : ∀ w ∈ wsX70, w ∈ wsX7_part := by decide +kernel
  have hl : lv_has ls 3 [(0, .ref z), (1, .int v0), (2, .int v1)] := hl
  have n0 := tPart_0 ht
  obtain ⟨n1, n2⟩ := n0
  obtain ⟨e1, b1⟩ := rng (x := v0) (n := 19) (by decide) n1
  obtain ⟨e2, b2⟩ := rng (x := v1) (n := 3) (by decide) n2
  refine lv_aload_n hx hb dX7_part_0 rfl (lv_at hl 0 rfl) ?_
  refine lv_iconst (v := (0 : Int32)) hx hb dX7_part_1 (by decide) ?_
  refine va_put (D := D) (ci := 7) (v := .int (0 : Int32)) (ty := .int) (C := RX7) (T := TX7) (N := 12) hx hb hts hi7 tyX7 tyX7_ok nmX7 hown hKN.1 hP hD hS 0 rfl rfl 0 (by decide) (hts (.fieldLink RX7 41 "SnowPumpsModel" "thrown" "I") (by decide +kernel)) (fun _ h9 => h9) rfl (by decide +kernel) rfl rfl (Nat.le_of_ble_eq_true rfl) dX7_part_2 (fun H locs hP hD hS => ?_)
  have hP : va_P D vwCl [(z, .inr (7, [.int (0 : Int32), .ref z1, .ref z2, .ref z3, .int (nI np), .ref z4, .ref z5, .ref z6, .int (nI nj), .ref z7, .ref q, .ref r])), (z4, .inl (Y 0, 5, .inl pa)), (q, .inr (6, [.int (nI tm), .int wt, .ref q1, .ref q2, .ref q3])), (q1, .inl (Y 0, 20, .inl sn)), (q2, .inl (Y 0, 20, .inl ic))] _ := hP
  have hD : va_D A [(z, .inr (7, [.int (0 : Int32), .ref z1, .ref z2, .ref z3, .int (nI np), .ref z4, .ref z5, .ref z6, .int (nI nj), .ref z7, .ref q, .ref r])), (z4, .inl (Y 0, 5, .inl pa)), (q, .inr (6, [.int (nI tm), .int wt, .ref q1, .ref q2, .ref q3])), (q1, .inl (Y 0, 20, .inl sn)), (q2, .inl (Y 0, 20, .inl ic))] := hD
  refine lv_iload_n hx hb dX7_part_5 rfl (lv_at hl 1 rfl) ?_
  refine cSi (As := [.int v0]) (rest := []) (ws' := [(z, .inr (7, [.int (0 : Int32), .ref z1, .ref z2, .ref z3, .int (nI np), .ref z4, .ref z5, .ref z6, .int (nI nj), .ref z7, .ref q, .ref r])), (z4, .inl (Y 0, 5, .inl pa)), (q, .inr (6, [.int (nI tm), .int wt, .ref q1, .ref q2, .ref q3])), (q1, .inl (Y 0, 20, .inl sn)), (q2, .inl (Y 0, 20, .inl ic))]) ⟨hx, hb, hml, hown, hts⟩ (kX7_isPart l D Y _ v0 ) (va_cwS 1 hts gX7_part_X7_isPart rfl rfl rfl (by decide +kernel) ⟨Nat.le_of_ble_eq_true rfl, Nat.le_of_ble_eq_true rfl⟩) hKN hP hD hS hA [] [0, 1, 2, 3, 4] [0, 1, 2, 3, 4] rfl (by decide) rfl rfl rfl rfl hl.1 (Nat.le_of_ble_eq_true rfl) dX7_part_6 ⟨Nat.le_of_ble_eq_true rfl, Nat.le_of_ble_eq_true rfl⟩ (fun H locs hP hD hS => ?_)
  refine lv_eqi (y := (1 : Int32)) (by exact bi_t n1) ?_
  refine lv_if_eq (tgt := 30) hx hb dX7_part_9 (by decide) (fun c_9 => by exfalso; revert c_9; decide) (fun c_9 => ?_)
  refine lv_iload_n hx hb dX7_part_12 rfl (lv_at hl 2 rfl) ?_
  refine lv_iconst (v := (0 : Int32)) hx hb dX7_part_13 (by decide) ?_
  refine lv_iconst (v := (3 : Int32)) hx hb dX7_part_14 (by decide) ?_
  refine cSi (As := [.int v1, .int (0 : Int32), .int (3 : Int32)]) (rest := []) (ws' := [(z, .inr (7, [.int (0 : Int32), .ref z1, .ref z2, .ref z3, .int (nI np), .ref z4, .ref z5, .ref z6, .int (nI nj), .ref z7, .ref q, .ref r])), (z4, .inl (Y 0, 5, .inl pa)), (q, .inr (6, [.int (nI tm), .int wt, .ref q1, .ref q2, .ref q3])), (q1, .inl (Y 0, 20, .inl sn)), (q2, .inl (Y 0, 20, .inl ic))]) ⟨hx, hb, hml, hown, hts⟩ (kX7_isIn l D Y _ v1 (0 : Int32) (3 : Int32) ) (va_cwS 3 hts gX7_part_X7_isIn rfl rfl rfl (by decide +kernel) ⟨Nat.le_of_ble_eq_true rfl, Nat.le_of_ble_eq_true rfl⟩) hKN hP hD hS hA [] [0, 1, 2, 3, 4] [0, 1, 2, 3, 4] rfl (by decide) rfl rfl rfl rfl hl.1 (Nat.le_of_ble_eq_true rfl) dX7_part_15 ⟨Nat.le_of_ble_eq_true rfl, Nat.le_of_ble_eq_true rfl⟩ (fun H locs hP hD hS => ?_)
  refine lv_eqi (y := (1 : Int32)) (by exact bi_t n2) ?_
  refine lv_if_eq (tgt := 30) hx hb dX7_part_18 (by decide) (fun c_18 => by exfalso; revert c_18; decide) (fun c_18 => ?_)
  have ec_1 : v0 = (nI (ix v0)) := by exact e1
  have hl : lv_has ls 3 [(0, .ref z), (1, .int (nI (ix v0))), (2, .int v1)] := (congrArg (fun zz9 => lv_has ls 3 [(0, .ref z), (1, .int zz9), (2, .int v1)]) ec_1).mp hl
  have ec_2 : v1 = (nI (ix v1)) := by exact e2
  have hl : lv_has ls 3 [(0, .ref z), (1, .int (nI (ix v0))), (2, .int (nI (ix v1)))] := (congrArg (fun zz9 => lv_has ls 3 [(0, .ref z), (1, .int (nI (ix v0))), (2, .int zz9)]) ec_2).mp hl
  refine lv_aload_n hx hb dX7_part_21 rfl (lv_at hl 0 rfl) ?_
  refine lv_iload_n hx hb dX7_part_22 rfl (lv_at hl 1 rfl) ?_
  refine lv_iload_n hx hb dX7_part_23 rfl (lv_at hl 2 rfl) ?_
  refine cVi (As := [.int (nI (ix v0)), .int (nI (ix v1))]) (rest := []) (ws' := [(z, .inr (7, [.int (0 : Int32), .ref z1, .ref z2, .ref z3, .int (nI np), .ref z4, .ref z5, .ref z6, .int (nI nj), .ref z7, .ref q, .ref r])), (z4, .inl (Y 0, 5, .inl pa)), (q, .inr (6, [.int (nI tm), .int wt, .ref q1, .ref q2, .ref q3])), (q1, .inl (Y 0, 20, .inl sn)), (q2, .inl (Y 0, 20, .inl ic))]) ⟨hx, hb, hml, hown, hts⟩ (kX7_partTold l D Y _ z z1 z2 z3 z4 z5 z6 z7 q q1 q2 q3 r pa sn ic wt (0 : Int32) tm np nj (ix v0) (ix v1) (by first | assumption | omega) (by first | assumption | omega) (by first | assumption | omega)) (cwV 2 hts gX7_part_X7_partTold rfl rfl rfl (by decide +kernel) ⟨Nat.le_of_ble_eq_true rfl, Nat.le_of_ble_eq_true rfl⟩) hKN hP hD hS hA [0, 1, 2, 3, 4] [] [0, 1, 2, 3, 4] rfl (by decide) rfl rfl 0 7 rfl rfl rfl rfl hl.1 (Nat.le_of_ble_eq_true rfl) dX7_part_24 ⟨Nat.le_of_ble_eq_true rfl, Nat.le_of_ble_eq_true rfl⟩ (fun H locs hP hD hS => ?_)
  refine lv_goto (tgt := 35) hx hb dX7_part_27 (by decide) ?_
  exact eI hx hb hr hlk hP hD hS (by rfl) (by rfl) (by exact Nat.le_of_ble_eq_true rfl) (by exact Nat.le_of_ble_eq_true rfl) dX7_part_35
abbrev rm_kX7_part_bad : Room := { frames := 2, cells := 0, slots := 0, locals := 42 }
set_option maxHeartbeats 4000000 in
set_option maxRecDepth 100000 in
theorem kX7_part_bad (l : Launch) (D : va_G) (Y : Nat → ClassId) (sz : Nat) (z : Nat) (z1 : Nat) (z2 : Nat) (z3 : Nat) (z4 : Nat) (z5 : Nat) (z6 : Nat) (z7 : Nat) (q : Nat) (q1 : Nat) (q2 : Nat) (q3 : Nat) (r : Nat) (pa : fN) (sn : fN) (ic : fN) (wt : Int32) (th : Int32) (tm : Nat) (np : Nat) (nj : Nat) (v0 : Int32) (v1 : Int32) (ht : ¬ tPart v0 v1 = 0) : MI l yX7_part wsX7_part rm_kX7_part_bad D Y [.ref z, .int v0, .int v1] sz [(z, .inr (7, [.int th, .ref z1, .ref z2, .ref z3, .int (nI np), .ref z4, .ref z5, .ref z6, .int (nI nj), .ref z7, .ref q, .ref r])), (z4, .inl (Y 0, 5, .inl pa)), (q, .inr (6, [.int (nI tm), .int wt, .ref q1, .ref q2, .ref q3])), (q1, .inl (Y 0, 20, .inl sn)), (q2, .inl (Y 0, 20, .inl ic))] (0 : Int32) [(z, .inr (7, [.int (nI (tPart v0 v1)), .ref z1, .ref z2, .ref z3, .int (nI np), .ref z4, .ref z5, .ref z6, .int (nI nj), .ref z7, .ref q, .ref r])), (z4, .inl (Y 0, 5, .inl pa)), (q, .inr (6, [.int (nI tm), .int wt, .ref q1, .ref q2, .ref q3])), (q1, .inl (Y 0, 20, .inl sn)), (q2, .inl (Y 0, 20, .inl ic))] 0 0 := by
  refine pcW_start (cc := cX7_part) (maxL := 3) (ret := (some .int)) (Qc := fun A => va_Qi (fun (r : Int32) (_ : Unit) => r = (0 : Int32)) (qW D A [(z, .inr (7, [.int (nI (tPart v0 v1)), .ref z1, .ref z2, .ref z3, .int (nI np), .ref z4, .ref z5, .ref z6, .int (nI nj), .ref z7, .ref q, .ref r])), (z4, .inl (Y 0, 5, .inl pa)), (q, .inr (6, [.int (nI tm), .int wt, .ref q1, .ref q2, .ref q3])), (q1, .inl (Y 0, 20, .inl sn)), (q2, .inl (Y 0, 20, .inl ic))]) A) (by decide) rfl (Nat.le_of_ble_eq_true rfl) ?_
  intro p e s m below meth c A ls hE hKN hA hP hD hl
  obtain ⟨hx, hb, hr, hml, hown, hts, hlk, hin⟩ := hE
  have hown : s.vm.findClass RX7 = some m.cls := hown
  have hS : va_S A s.heap s.heap [] := va_S.rf
  have hi7 : ∀ w ∈ wsX70, w ∈ wsX7_part := by decide +kernel
  have hl : lv_has ls 3 [(0, .ref z), (1, .int v0), (2, .int v1)] := hl
  refine lv_aload_n hx hb dX7_part_0 rfl (lv_at hl 0 rfl) ?_
  refine lv_iconst (v := (0 : Int32)) hx hb dX7_part_1 (by decide) ?_
  refine va_put (D := D) (ci := 7) (v := .int (0 : Int32)) (ty := .int) (C := RX7) (T := TX7) (N := 12) hx hb hts hi7 tyX7 tyX7_ok nmX7 hown hKN.1 hP hD hS 0 rfl rfl 0 (by decide) (hts (.fieldLink RX7 41 "SnowPumpsModel" "thrown" "I") (by decide +kernel)) (fun _ h9 => h9) rfl (by decide +kernel) rfl rfl (Nat.le_of_ble_eq_true rfl) dX7_part_2 (fun H locs hP hD hS => ?_)
  have hP : va_P D vwCl [(z, .inr (7, [.int (0 : Int32), .ref z1, .ref z2, .ref z3, .int (nI np), .ref z4, .ref z5, .ref z6, .int (nI nj), .ref z7, .ref q, .ref r])), (z4, .inl (Y 0, 5, .inl pa)), (q, .inr (6, [.int (nI tm), .int wt, .ref q1, .ref q2, .ref q3])), (q1, .inl (Y 0, 20, .inl sn)), (q2, .inl (Y 0, 20, .inl ic))] _ := hP
  have hD : va_D A [(z, .inr (7, [.int (0 : Int32), .ref z1, .ref z2, .ref z3, .int (nI np), .ref z4, .ref z5, .ref z6, .int (nI nj), .ref z7, .ref q, .ref r])), (z4, .inl (Y 0, 5, .inl pa)), (q, .inr (6, [.int (nI tm), .int wt, .ref q1, .ref q2, .ref q3])), (q1, .inl (Y 0, 20, .inl sn)), (q2, .inl (Y 0, 20, .inl ic))] := hD
  refine lv_iload_n hx hb dX7_part_5 rfl (lv_at hl 1 rfl) ?_
  refine cSi (As := [.int v0]) (rest := []) (ws' := [(z, .inr (7, [.int (0 : Int32), .ref z1, .ref z2, .ref z3, .int (nI np), .ref z4, .ref z5, .ref z6, .int (nI nj), .ref z7, .ref q, .ref r])), (z4, .inl (Y 0, 5, .inl pa)), (q, .inr (6, [.int (nI tm), .int wt, .ref q1, .ref q2, .ref q3])), (q1, .inl (Y 0, 20, .inl sn)), (q2, .inl (Y 0, 20, .inl ic))]) ⟨hx, hb, hml, hown, hts⟩ (kX7_isPart l D Y _ v0 ) (va_cwS 1 hts gX7_part_X7_isPart rfl rfl rfl (by decide +kernel) ⟨Nat.le_of_ble_eq_true rfl, Nat.le_of_ble_eq_true rfl⟩) hKN hP hD hS hA [] [0, 1, 2, 3, 4] [0, 1, 2, 3, 4] rfl (by decide) rfl rfl rfl rfl hl.1 (Nat.le_of_ble_eq_true rfl) dX7_part_6 ⟨Nat.le_of_ble_eq_true rfl, Nat.le_of_ble_eq_true rfl⟩ (fun H locs hP hD hS => ?_)
  refine lv_if_eq (tgt := 30) hx hb dX7_part_9 (by decide) (fun c_9 => ?_) (fun c_9 => ?_)
  · have e9 : tPart v0 v1 = 1 := by unfold tPart; rw [if_pos (bi_0n c_9)]
    refine lv_aload_n hx hb dX7_part_30 rfl (lv_at hl 0 rfl) ?_
    refine lv_iconst (v := (1 : Int32)) hx hb dX7_part_31 (by decide) ?_
    refine cVi (As := [.int (1 : Int32)]) (rest := []) (ws' := [(z, .inr (7, [.int (1 : Int32), .ref z1, .ref z2, .ref z3, .int (nI np), .ref z4, .ref z5, .ref z6, .int (nI nj), .ref z7, .ref q, .ref r])), (z4, .inl (Y 0, 5, .inl pa)), (q, .inr (6, [.int (nI tm), .int wt, .ref q1, .ref q2, .ref q3])), (q1, .inl (Y 0, 20, .inl sn)), (q2, .inl (Y 0, 20, .inl ic))]) ⟨hx, hb, hml, hown, hts⟩ (kX7_no l D Y _ z z1 z2 z3 z4 z5 z6 z7 q r (0 : Int32) np nj (1 : Int32) ) (cwV 1 hts gX7_part_X7_no rfl rfl rfl (by decide +kernel) ⟨Nat.le_of_ble_eq_true rfl, Nat.le_of_ble_eq_true rfl⟩) hKN hP hD hS hA [0] [1, 2, 3, 4] [4, 0, 1, 2, 3] rfl (by decide) rfl rfl 0 7 rfl rfl rfl rfl hl.1 (Nat.le_of_ble_eq_true rfl) dX7_part_32 ⟨Nat.le_of_ble_eq_true rfl, Nat.le_of_ble_eq_true rfl⟩ (fun H locs hP hD hS => ?_)
    have ec_1 : (1 : Int32) = (nI (tPart v0 v1)) := by rw [e9]; first | done | rfl
    have hP : va_P D vwCl [(z, .inr (7, [.int (nI (tPart v0 v1)), .ref z1, .ref z2, .ref z3, .int (nI np), .ref z4, .ref z5, .ref z6, .int (nI nj), .ref z7, .ref q, .ref r])), (z4, .inl (Y 0, 5, .inl pa)), (q, .inr (6, [.int (nI tm), .int wt, .ref q1, .ref q2, .ref q3])), (q1, .inl (Y 0, 20, .inl sn)), (q2, .inl (Y 0, 20, .inl ic))] _ := (congrArg (fun zz9 => va_P D vwCl [(z, .inr (7, [.int zz9, .ref z1, .ref z2, .ref z3, .int (nI np), .ref z4, .ref z5, .ref z6, .int (nI nj), .ref z7, .ref q, .ref r])), (z4, .inl (Y 0, 5, .inl pa)), (q, .inr (6, [.int (nI tm), .int wt, .ref q1, .ref q2, .ref q3])), (q1, .inl (Y 0, 20, .inl sn)), (q2, .inl (Y 0, 20, .inl ic))] _) ec_1).mp hP
    have hD : va_D A [(z, .inr (7, [.int (nI (tPart v0 v1)), .ref z1, .ref z2, .ref z3, .int (nI np), .ref z4, .ref z5, .ref z6, .int (nI nj), .ref z7, .ref q, .ref r])), (z4, .inl (Y 0, 5, .inl pa)), (q, .inr (6, [.int (nI tm), .int wt, .ref q1, .ref q2, .ref q3])), (q1, .inl (Y 0, 20, .inl sn)), (q2, .inl (Y 0, 20, .inl ic))] := (congrArg (fun zz9 => va_D A [(z, .inr (7, [.int zz9, .ref z1, .ref z2, .ref z3, .int (nI np), .ref z4, .ref z5, .ref z6, .int (nI nj), .ref z7, .ref q, .ref r])), (z4, .inl (Y 0, 5, .inl pa)), (q, .inr (6, [.int (nI tm), .int wt, .ref q1, .ref q2, .ref q3])), (q1, .inl (Y 0, 20, .inl sn)), (q2, .inl (Y 0, 20, .inl ic))]) ec_1).mp hD
    exact eI hx hb hr hlk hP hD hS (by rfl) (by rfl) (by exact Nat.le_of_ble_eq_true rfl) (by exact Nat.le_of_ble_eq_true rfl) dX7_part_35
  · have n1 : ¬ (v0 < 0 ∨ 19 < v0) := bi_n c_9
    refine lv_iload_n hx hb dX7_part_12 rfl (lv_at hl 2 rfl) ?_
    refine lv_iconst (v := (0 : Int32)) hx hb dX7_part_13 (by decide) ?_
    refine lv_iconst (v := (3 : Int32)) hx hb dX7_part_14 (by decide) ?_
    refine cSi (As := [.int v1, .int (0 : Int32), .int (3 : Int32)]) (rest := []) (ws' := [(z, .inr (7, [.int (0 : Int32), .ref z1, .ref z2, .ref z3, .int (nI np), .ref z4, .ref z5, .ref z6, .int (nI nj), .ref z7, .ref q, .ref r])), (z4, .inl (Y 0, 5, .inl pa)), (q, .inr (6, [.int (nI tm), .int wt, .ref q1, .ref q2, .ref q3])), (q1, .inl (Y 0, 20, .inl sn)), (q2, .inl (Y 0, 20, .inl ic))]) ⟨hx, hb, hml, hown, hts⟩ (kX7_isIn l D Y _ v1 (0 : Int32) (3 : Int32) ) (va_cwS 3 hts gX7_part_X7_isIn rfl rfl rfl (by decide +kernel) ⟨Nat.le_of_ble_eq_true rfl, Nat.le_of_ble_eq_true rfl⟩) hKN hP hD hS hA [] [0, 1, 2, 3, 4] [0, 1, 2, 3, 4] rfl (by decide) rfl rfl rfl rfl hl.1 (Nat.le_of_ble_eq_true rfl) dX7_part_15 ⟨Nat.le_of_ble_eq_true rfl, Nat.le_of_ble_eq_true rfl⟩ (fun H locs hP hD hS => ?_)
    refine lv_if_eq (tgt := 30) hx hb dX7_part_18 (by decide) (fun c_18 => ?_) (fun c_18 => ?_)
    · have e9 : tPart v0 v1 = 1 := by unfold tPart; rw [if_neg n1, if_pos (bi_0n c_18)]
      refine lv_aload_n hx hb dX7_part_30 rfl (lv_at hl 0 rfl) ?_
      refine lv_iconst (v := (1 : Int32)) hx hb dX7_part_31 (by decide) ?_
      refine cVi (As := [.int (1 : Int32)]) (rest := []) (ws' := [(z, .inr (7, [.int (1 : Int32), .ref z1, .ref z2, .ref z3, .int (nI np), .ref z4, .ref z5, .ref z6, .int (nI nj), .ref z7, .ref q, .ref r])), (z4, .inl (Y 0, 5, .inl pa)), (q, .inr (6, [.int (nI tm), .int wt, .ref q1, .ref q2, .ref q3])), (q1, .inl (Y 0, 20, .inl sn)), (q2, .inl (Y 0, 20, .inl ic))]) ⟨hx, hb, hml, hown, hts⟩ (kX7_no l D Y _ z z1 z2 z3 z4 z5 z6 z7 q r (0 : Int32) np nj (1 : Int32) ) (cwV 1 hts gX7_part_X7_no rfl rfl rfl (by decide +kernel) ⟨Nat.le_of_ble_eq_true rfl, Nat.le_of_ble_eq_true rfl⟩) hKN hP hD hS hA [0] [1, 2, 3, 4] [4, 0, 1, 2, 3] rfl (by decide) rfl rfl 0 7 rfl rfl rfl rfl hl.1 (Nat.le_of_ble_eq_true rfl) dX7_part_32 ⟨Nat.le_of_ble_eq_true rfl, Nat.le_of_ble_eq_true rfl⟩ (fun H locs hP hD hS => ?_)
      have ec_2 : (1 : Int32) = (nI (tPart v0 v1)) := by rw [e9]; first | done | rfl
      have hP : va_P D vwCl [(z, .inr (7, [.int (nI (tPart v0 v1)), .ref z1, .ref z2, .ref z3, .int (nI np), .ref z4, .ref z5, .ref z6, .int (nI nj), .ref z7, .ref q, .ref r])), (z4, .inl (Y 0, 5, .inl pa)), (q, .inr (6, [.int (nI tm), .int wt, .ref q1, .ref q2, .ref q3])), (q1, .inl (Y 0, 20, .inl sn)), (q2, .inl (Y 0, 20, .inl ic))] _ := (congrArg (fun zz9 => va_P D vwCl [(z, .inr (7, [.int zz9, .ref z1, .ref z2, .ref z3, .int (nI np), .ref z4, .ref z5, .ref z6, .int (nI nj), .ref z7, .ref q, .ref r])), (z4, .inl (Y 0, 5, .inl pa)), (q, .inr (6, [.int (nI tm), .int wt, .ref q1, .ref q2, .ref q3])), (q1, .inl (Y 0, 20, .inl sn)), (q2, .inl (Y 0, 20, .inl ic))] _) ec_2).mp hP
      have hD : va_D A [(z, .inr (7, [.int (nI (tPart v0 v1)), .ref z1, .ref z2, .ref z3, .int (nI np), .ref z4, .ref z5, .ref z6, .int (nI nj), .ref z7, .ref q, .ref r])), (z4, .inl (Y 0, 5, .inl pa)), (q, .inr (6, [.int (nI tm), .int wt, .ref q1, .ref q2, .ref q3])), (q1, .inl (Y 0, 20, .inl sn)), (q2, .inl (Y 0, 20, .inl ic))] := (congrArg (fun zz9 => va_D A [(z, .inr (7, [.int zz9, .ref z1, .ref z2, .ref z3, .int (nI np), .ref z4, .ref z5, .ref z6, .int (nI nj), .ref z7, .ref q, .ref r])), (z4, .inl (Y 0, 5, .inl pa)), (q, .inr (6, [.int (nI tm), .int wt, .ref q1, .ref q2, .ref q3])), (q1, .inl (Y 0, 20, .inl sn)), (q2, .inl (Y 0, 20, .inl ic))]) ec_2).mp hD
      exact eI hx hb hr hlk hP hD hS (by rfl) (by rfl) (by exact Nat.le_of_ble_eq_true rfl) (by exact Nat.le_of_ble_eq_true rfl) dX7_part_35
    · exfalso
      exact ht (by unfold tPart; rw [if_neg n1, if_neg (bi_n c_18)])
abbrev rm_kX7_count : Room := { frames := 2, cells := 1, slots := 11, locals := 50 }
set_option maxHeartbeats 4000000 in
set_option maxRecDepth 100000 in
theorem kX7_count (l : Launch) (D : va_G) (Y : Nat → ClassId) (sz : Nat) (z : Nat) (z1 : Nat) (z2 : Nat) (z3 : Nat) (z4 : Nat) (z5 : Nat) (z6 : Nat) (z7 : Nat) (q : Nat) (q1 : Nat) (q2 : Nat) (q3 : Nat) (r : Nat) (wa : fN) (da : fN) (gu : fN) (sn : fN) (ic : fN) (ru : fN) (jr : fN) (ln : fN) (pt : fN) (fa : fN) (ho : fN) (wt : Int32) (th : Int32) (tm : Nat) (np : Nat) (nj : Nat) (v0 : Int32) (ht : tCount v0 = 0) (htm : tm < 2 ^ 31) (hnj : nj ≤ 30) (hfa : sumU fa nj = sumU fa 30) : MI l yX7_count wsX7_count rm_kX7_count D Y [.ref z, .int v0] sz [(z, .inr (7, [.int th, .ref z1, .ref z2, .ref z3, .int (nI np), .ref z4, .ref z5, .ref z6, .int (nI nj), .ref z7, .ref q, .ref r])), (z1, .inl (Y 0, 24, .inl wa)), (z2, .inl (Y 0, 24, .inl da)), (z3, .inl (Y 0, 24, .inl gu)), (z7, .inl (Y 0, 150, .inl (bkU jr ln pt fa ho))), (q, .inr (6, [.int (nI tm), .int wt, .ref q1, .ref q2, .ref q3])), (q1, .inl (Y 0, 20, .inl sn)), (q2, .inl (Y 0, 20, .inl ic)), (q3, .inl (Y 0, 5, .inl ru))] (cntsU wa da gu sn ic ru fa wt tm np nj (ix v0)) [(z, .inr (7, [.int (0 : Int32), .ref z1, .ref z2, .ref z3, .int (nI np), .ref z4, .ref z5, .ref z6, .int (nI nj), .ref z7, .ref q, .ref r])), (z1, .inl (Y 0, 24, .inl wa)), (z2, .inl (Y 0, 24, .inl da)), (z3, .inl (Y 0, 24, .inl gu)), (z7, .inl (Y 0, 150, .inl (bkU jr ln pt fa ho))), (q, .inr (6, [.int (nI tm), .int wt, .ref q1, .ref q2, .ref q3])), (q1, .inl (Y 0, 20, .inl sn)), (q2, .inl (Y 0, 20, .inl ic)), (q3, .inl (Y 0, 5, .inl ru))] 1 11 := by
  refine pcW_start (cc := cX7_count) (maxL := 2) (ret := (some .int)) (Qc := fun A => va_Qi (fun (r : Int32) (_ : Unit) => r = (cntsU wa da gu sn ic ru fa wt tm np nj (ix v0))) (qW D A [(z, .inr (7, [.int (0 : Int32), .ref z1, .ref z2, .ref z3, .int (nI np), .ref z4, .ref z5, .ref z6, .int (nI nj), .ref z7, .ref q, .ref r])), (z1, .inl (Y 0, 24, .inl wa)), (z2, .inl (Y 0, 24, .inl da)), (z3, .inl (Y 0, 24, .inl gu)), (z7, .inl (Y 0, 150, .inl (bkU jr ln pt fa ho))), (q, .inr (6, [.int (nI tm), .int wt, .ref q1, .ref q2, .ref q3])), (q1, .inl (Y 0, 20, .inl sn)), (q2, .inl (Y 0, 20, .inl ic)), (q3, .inl (Y 0, 5, .inl ru))]) A) (by decide) rfl (Nat.le_of_ble_eq_true rfl) ?_
  intro p e s m below meth c A ls hE hKN hA hP hD hl
  obtain ⟨hx, hb, hr, hml, hown, hts, hlk, hin⟩ := hE
  have hown : s.vm.findClass RX7 = some m.cls := hown
  have hS : va_S A s.heap s.heap [] := va_S.rf
  have hi7 : ∀ w ∈ wsX70, w ∈ wsX7_count := by decide +kernel
  have hl : lv_has ls 2 [(0, .ref z), (1, .int v0)] := hl
  have n1 := tCount_0 ht
  obtain ⟨e1, b1⟩ := rng (x := v0) (n := 10) (by decide) n1
  refine lv_aload_n hx hb dX7_count_0 rfl (lv_at hl 0 rfl) ?_
  refine lv_iconst (v := (0 : Int32)) hx hb dX7_count_1 (by decide) ?_
  refine va_put (D := D) (ci := 7) (v := .int (0 : Int32)) (ty := .int) (C := RX7) (T := TX7) (N := 12) hx hb hts hi7 tyX7 tyX7_ok nmX7 hown hKN.1 hP hD hS 0 rfl rfl 0 (by decide) (hts (.fieldLink RX7 41 "SnowPumpsModel" "thrown" "I") (by decide +kernel)) (fun _ h9 => h9) rfl (by decide +kernel) rfl rfl (Nat.le_of_ble_eq_true rfl) dX7_count_2 (fun H locs hP hD hS => ?_)
  have hP : va_P D vwCl [(z, .inr (7, [.int (0 : Int32), .ref z1, .ref z2, .ref z3, .int (nI np), .ref z4, .ref z5, .ref z6, .int (nI nj), .ref z7, .ref q, .ref r])), (z1, .inl (Y 0, 24, .inl wa)), (z2, .inl (Y 0, 24, .inl da)), (z3, .inl (Y 0, 24, .inl gu)), (z7, .inl (Y 0, 150, .inl (bkU jr ln pt fa ho))), (q, .inr (6, [.int (nI tm), .int wt, .ref q1, .ref q2, .ref q3])), (q1, .inl (Y 0, 20, .inl sn)), (q2, .inl (Y 0, 20, .inl ic)), (q3, .inl (Y 0, 5, .inl ru))] _ := hP
  have hD : va_D A [(z, .inr (7, [.int (0 : Int32), .ref z1, .ref z2, .ref z3, .int (nI np), .ref z4, .ref z5, .ref z6, .int (nI nj), .ref z7, .ref q, .ref r])), (z1, .inl (Y 0, 24, .inl wa)), (z2, .inl (Y 0, 24, .inl da)), (z3, .inl (Y 0, 24, .inl gu)), (z7, .inl (Y 0, 150, .inl (bkU jr ln pt fa ho))), (q, .inr (6, [.int (nI tm), .int wt, .ref q1, .ref q2, .ref q3])), (q1, .inl (Y 0, 20, .inl sn)), (q2, .inl (Y 0, 20, .inl ic)), (q3, .inl (Y 0, 5, .inl ru))] := hD
  refine lv_iload_n hx hb dX7_count_5 rfl (lv_at hl 1 rfl) ?_
  refine lv_iconst (v := (0 : Int32)) hx hb dX7_count_6 (by decide) ?_
  refine lv_bipush (v := (10 : Int32)) hx hb dX7_count_7 (by decide) ?_
  refine cSi (As := [.int v0, .int (0 : Int32), .int (10 : Int32)]) (rest := []) (ws' := [(z, .inr (7, [.int (0 : Int32), .ref z1, .ref z2, .ref z3, .int (nI np), .ref z4, .ref z5, .ref z6, .int (nI nj), .ref z7, .ref q, .ref r])), (z1, .inl (Y 0, 24, .inl wa)), (z2, .inl (Y 0, 24, .inl da)), (z3, .inl (Y 0, 24, .inl gu)), (z7, .inl (Y 0, 150, .inl (bkU jr ln pt fa ho))), (q, .inr (6, [.int (nI tm), .int wt, .ref q1, .ref q2, .ref q3])), (q1, .inl (Y 0, 20, .inl sn)), (q2, .inl (Y 0, 20, .inl ic)), (q3, .inl (Y 0, 5, .inl ru))]) ⟨hx, hb, hml, hown, hts⟩ (kX7_isIn l D Y _ v0 (0 : Int32) (10 : Int32) ) (va_cwS 3 hts gX7_count_X7_isIn rfl rfl rfl (by decide +kernel) ⟨Nat.le_of_ble_eq_true rfl, Nat.le_of_ble_eq_true rfl⟩) hKN hP hD hS hA [] [0, 1, 2, 3, 4, 5, 6, 7, 8] [0, 1, 2, 3, 4, 5, 6, 7, 8] rfl (by decide) rfl rfl rfl rfl hl.1 (Nat.le_of_ble_eq_true rfl) dX7_count_9 ⟨Nat.le_of_ble_eq_true rfl, Nat.le_of_ble_eq_true rfl⟩ (fun H locs hP hD hS => ?_)
  refine lv_eqi (y := (1 : Int32)) (by exact bi_t n1) ?_
  refine lv_if_eq (tgt := 27) hx hb dX7_count_12 (by decide) (fun c_12 => by exfalso; revert c_12; decide) (fun c_12 => ?_)
  have ec_1 : v0 = (nI (ix v0)) := by exact e1
  have hl : lv_has ls 2 [(0, .ref z), (1, .int (nI (ix v0)))] := (congrArg (fun zz9 => lv_has ls 2 [(0, .ref z), (1, .int zz9)]) ec_1).mp hl
  refine lv_aload_n hx hb dX7_count_15 rfl (lv_at hl 0 rfl) ?_
  refine lv_aload_n hx hb dX7_count_16 rfl (lv_at hl 0 rfl) ?_
  refine va_get (D := D) (ci := 7) (v := .ref q) (C := RX7) (T := TX7) (N := 12) hx hb hts hi7 hown hKN.1 hP 0 rfl rfl 10 (by decide) (hts (.fieldLink RX7 34 "SnowPumpsModel" "s" "LSnowPumpsModel$State;") (by decide +kernel)) (fun _ h9 => h9) rfl dX7_count_17 ?_
  refine lv_iload_n hx hb dX7_count_20 rfl (lv_at hl 1 rfl) ?_
  refine cVi (As := [.ref q, .int (nI (ix v0))]) (rest := []) (ws' := [(z, .inr (7, [.int (0 : Int32), .ref z1, .ref z2, .ref z3, .int (nI np), .ref z4, .ref z5, .ref z6, .int (nI nj), .ref z7, .ref q, .ref r])), (z1, .inl (Y 0, 24, .inl wa)), (z2, .inl (Y 0, 24, .inl da)), (z3, .inl (Y 0, 24, .inl gu)), (z7, .inl (Y 0, 150, .inl (bkU jr ln pt fa ho))), (q, .inr (6, [.int (nI tm), .int wt, .ref q1, .ref q2, .ref q3])), (q1, .inl (Y 0, 20, .inl sn)), (q2, .inl (Y 0, 20, .inl ic)), (q3, .inl (Y 0, 5, .inl ru))]) ⟨hx, hb, hml, hown, hts⟩ (kX7_counted l D Y _ z z1 z2 z3 z4 z5 z6 z7 q r q q1 q2 q3 wa da gu sn ic ru jr ln pt fa ho wt (0 : Int32) tm np nj (ix v0) (by first | assumption | omega) (by first | assumption | omega) (by first | assumption | omega) (by first | assumption | omega)) (cwV 2 hts gX7_count_X7_counted rfl rfl rfl (by decide +kernel) ⟨Nat.le_of_ble_eq_true rfl, Nat.le_of_ble_eq_true rfl⟩) hKN hP hD hS hA [0, 1, 2, 3, 4, 5, 6, 7, 8] [] [0, 1, 2, 3, 4, 5, 6, 7, 8] rfl (by decide) rfl rfl 0 7 rfl rfl rfl rfl hl.1 (Nat.le_of_ble_eq_true rfl) dX7_count_21 ⟨Nat.le_of_ble_eq_true rfl, Nat.le_of_ble_eq_true rfl⟩ (fun H locs hP hD hS => ?_)
  refine lv_goto (tgt := 32) hx hb dX7_count_24 (by decide) ?_
  exact eI hx hb hr hlk hP hD hS (by rfl) (by rfl) (by exact Nat.le_of_ble_eq_true rfl) (by exact Nat.le_of_ble_eq_true rfl) dX7_count_32
abbrev rm_kX7_count_bad : Room := { frames := 1, cells := 0, slots := 0, locals := 22 }
set_option maxHeartbeats 4000000 in
set_option maxRecDepth 100000 in
theorem kX7_count_bad (l : Launch) (D : va_G) (Y : Nat → ClassId) (sz : Nat) (z : Nat) (z1 : Nat) (z2 : Nat) (z3 : Nat) (z4 : Nat) (z5 : Nat) (z6 : Nat) (z7 : Nat) (q : Nat) (q1 : Nat) (q2 : Nat) (q3 : Nat) (r : Nat) (wa : fN) (da : fN) (gu : fN) (sn : fN) (ic : fN) (ru : fN) (jr : fN) (ln : fN) (pt : fN) (fa : fN) (ho : fN) (wt : Int32) (th : Int32) (tm : Nat) (np : Nat) (nj : Nat) (v0 : Int32) (ht : ¬ tCount v0 = 0) : MI l yX7_count wsX7_count rm_kX7_count_bad D Y [.ref z, .int v0] sz [(z, .inr (7, [.int th, .ref z1, .ref z2, .ref z3, .int (nI np), .ref z4, .ref z5, .ref z6, .int (nI nj), .ref z7, .ref q, .ref r])), (z1, .inl (Y 0, 24, .inl wa)), (z2, .inl (Y 0, 24, .inl da)), (z3, .inl (Y 0, 24, .inl gu)), (z7, .inl (Y 0, 150, .inl (bkU jr ln pt fa ho))), (q, .inr (6, [.int (nI tm), .int wt, .ref q1, .ref q2, .ref q3])), (q1, .inl (Y 0, 20, .inl sn)), (q2, .inl (Y 0, 20, .inl ic)), (q3, .inl (Y 0, 5, .inl ru))] (0 : Int32) [(z, .inr (7, [.int (nI (tCount v0)), .ref z1, .ref z2, .ref z3, .int (nI np), .ref z4, .ref z5, .ref z6, .int (nI nj), .ref z7, .ref q, .ref r])), (z1, .inl (Y 0, 24, .inl wa)), (z2, .inl (Y 0, 24, .inl da)), (z3, .inl (Y 0, 24, .inl gu)), (z7, .inl (Y 0, 150, .inl (bkU jr ln pt fa ho))), (q, .inr (6, [.int (nI tm), .int wt, .ref q1, .ref q2, .ref q3])), (q1, .inl (Y 0, 20, .inl sn)), (q2, .inl (Y 0, 20, .inl ic)), (q3, .inl (Y 0, 5, .inl ru))] 0 0 := by
  refine pcW_start (cc := cX7_count) (maxL := 2) (ret := (some .int)) (Qc := fun A => va_Qi (fun (r : Int32) (_ : Unit) => r = (0 : Int32)) (qW D A [(z, .inr (7, [.int (nI (tCount v0)), .ref z1, .ref z2, .ref z3, .int (nI np), .ref z4, .ref z5, .ref z6, .int (nI nj), .ref z7, .ref q, .ref r])), (z1, .inl (Y 0, 24, .inl wa)), (z2, .inl (Y 0, 24, .inl da)), (z3, .inl (Y 0, 24, .inl gu)), (z7, .inl (Y 0, 150, .inl (bkU jr ln pt fa ho))), (q, .inr (6, [.int (nI tm), .int wt, .ref q1, .ref q2, .ref q3])), (q1, .inl (Y 0, 20, .inl sn)), (q2, .inl (Y 0, 20, .inl ic)), (q3, .inl (Y 0, 5, .inl ru))]) A) (by decide) rfl (Nat.le_of_ble_eq_true rfl) ?_
  intro p e s m below meth c A ls hE hKN hA hP hD hl
  obtain ⟨hx, hb, hr, hml, hown, hts, hlk, hin⟩ := hE
  have hown : s.vm.findClass RX7 = some m.cls := hown
  have hS : va_S A s.heap s.heap [] := va_S.rf
  have hi7 : ∀ w ∈ wsX70, w ∈ wsX7_count := by decide +kernel
  have hl : lv_has ls 2 [(0, .ref z), (1, .int v0)] := hl
  refine lv_aload_n hx hb dX7_count_0 rfl (lv_at hl 0 rfl) ?_
  refine lv_iconst (v := (0 : Int32)) hx hb dX7_count_1 (by decide) ?_
  refine va_put (D := D) (ci := 7) (v := .int (0 : Int32)) (ty := .int) (C := RX7) (T := TX7) (N := 12) hx hb hts hi7 tyX7 tyX7_ok nmX7 hown hKN.1 hP hD hS 0 rfl rfl 0 (by decide) (hts (.fieldLink RX7 41 "SnowPumpsModel" "thrown" "I") (by decide +kernel)) (fun _ h9 => h9) rfl (by decide +kernel) rfl rfl (Nat.le_of_ble_eq_true rfl) dX7_count_2 (fun H locs hP hD hS => ?_)
  have hP : va_P D vwCl [(z, .inr (7, [.int (0 : Int32), .ref z1, .ref z2, .ref z3, .int (nI np), .ref z4, .ref z5, .ref z6, .int (nI nj), .ref z7, .ref q, .ref r])), (z1, .inl (Y 0, 24, .inl wa)), (z2, .inl (Y 0, 24, .inl da)), (z3, .inl (Y 0, 24, .inl gu)), (z7, .inl (Y 0, 150, .inl (bkU jr ln pt fa ho))), (q, .inr (6, [.int (nI tm), .int wt, .ref q1, .ref q2, .ref q3])), (q1, .inl (Y 0, 20, .inl sn)), (q2, .inl (Y 0, 20, .inl ic)), (q3, .inl (Y 0, 5, .inl ru))] _ := hP
  have hD : va_D A [(z, .inr (7, [.int (0 : Int32), .ref z1, .ref z2, .ref z3, .int (nI np), .ref z4, .ref z5, .ref z6, .int (nI nj), .ref z7, .ref q, .ref r])), (z1, .inl (Y 0, 24, .inl wa)), (z2, .inl (Y 0, 24, .inl da)), (z3, .inl (Y 0, 24, .inl gu)), (z7, .inl (Y 0, 150, .inl (bkU jr ln pt fa ho))), (q, .inr (6, [.int (nI tm), .int wt, .ref q1, .ref q2, .ref q3])), (q1, .inl (Y 0, 20, .inl sn)), (q2, .inl (Y 0, 20, .inl ic)), (q3, .inl (Y 0, 5, .inl ru))] := hD
  refine lv_iload_n hx hb dX7_count_5 rfl (lv_at hl 1 rfl) ?_
  refine lv_iconst (v := (0 : Int32)) hx hb dX7_count_6 (by decide) ?_
  refine lv_bipush (v := (10 : Int32)) hx hb dX7_count_7 (by decide) ?_
  refine cSi (As := [.int v0, .int (0 : Int32), .int (10 : Int32)]) (rest := []) (ws' := [(z, .inr (7, [.int (0 : Int32), .ref z1, .ref z2, .ref z3, .int (nI np), .ref z4, .ref z5, .ref z6, .int (nI nj), .ref z7, .ref q, .ref r])), (z1, .inl (Y 0, 24, .inl wa)), (z2, .inl (Y 0, 24, .inl da)), (z3, .inl (Y 0, 24, .inl gu)), (z7, .inl (Y 0, 150, .inl (bkU jr ln pt fa ho))), (q, .inr (6, [.int (nI tm), .int wt, .ref q1, .ref q2, .ref q3])), (q1, .inl (Y 0, 20, .inl sn)), (q2, .inl (Y 0, 20, .inl ic)), (q3, .inl (Y 0, 5, .inl ru))]) ⟨hx, hb, hml, hown, hts⟩ (kX7_isIn l D Y _ v0 (0 : Int32) (10 : Int32) ) (va_cwS 3 hts gX7_count_X7_isIn rfl rfl rfl (by decide +kernel) ⟨Nat.le_of_ble_eq_true rfl, Nat.le_of_ble_eq_true rfl⟩) hKN hP hD hS hA [] [0, 1, 2, 3, 4, 5, 6, 7, 8] [0, 1, 2, 3, 4, 5, 6, 7, 8] rfl (by decide) rfl rfl rfl rfl hl.1 (Nat.le_of_ble_eq_true rfl) dX7_count_9 ⟨Nat.le_of_ble_eq_true rfl, Nat.le_of_ble_eq_true rfl⟩ (fun H locs hP hD hS => ?_)
  refine lv_if_eq (tgt := 27) hx hb dX7_count_12 (by decide) (fun c_12 => ?_) (fun c_12 => ?_)
  · have e9 : tCount v0 = 1 := by unfold tCount; rw [if_pos (bi_0n c_12)]
    refine lv_aload_n hx hb dX7_count_27 rfl (lv_at hl 0 rfl) ?_
    refine lv_iconst (v := (1 : Int32)) hx hb dX7_count_28 (by decide) ?_
    refine cVi (As := [.int (1 : Int32)]) (rest := []) (ws' := [(z, .inr (7, [.int (1 : Int32), .ref z1, .ref z2, .ref z3, .int (nI np), .ref z4, .ref z5, .ref z6, .int (nI nj), .ref z7, .ref q, .ref r])), (z1, .inl (Y 0, 24, .inl wa)), (z2, .inl (Y 0, 24, .inl da)), (z3, .inl (Y 0, 24, .inl gu)), (z7, .inl (Y 0, 150, .inl (bkU jr ln pt fa ho))), (q, .inr (6, [.int (nI tm), .int wt, .ref q1, .ref q2, .ref q3])), (q1, .inl (Y 0, 20, .inl sn)), (q2, .inl (Y 0, 20, .inl ic)), (q3, .inl (Y 0, 5, .inl ru))]) ⟨hx, hb, hml, hown, hts⟩ (kX7_no l D Y _ z z1 z2 z3 z4 z5 z6 z7 q r (0 : Int32) np nj (1 : Int32) ) (cwV 1 hts gX7_count_X7_no rfl rfl rfl (by decide +kernel) ⟨Nat.le_of_ble_eq_true rfl, Nat.le_of_ble_eq_true rfl⟩) hKN hP hD hS hA [0] [1, 2, 3, 4, 5, 6, 7, 8] [8, 0, 1, 2, 3, 4, 5, 6, 7] rfl (by decide) rfl rfl 0 7 rfl rfl rfl rfl hl.1 (Nat.le_of_ble_eq_true rfl) dX7_count_29 ⟨Nat.le_of_ble_eq_true rfl, Nat.le_of_ble_eq_true rfl⟩ (fun H locs hP hD hS => ?_)
    have ec_1 : (1 : Int32) = (nI (tCount v0)) := by rw [e9]; first | done | rfl
    have hP : va_P D vwCl [(z, .inr (7, [.int (nI (tCount v0)), .ref z1, .ref z2, .ref z3, .int (nI np), .ref z4, .ref z5, .ref z6, .int (nI nj), .ref z7, .ref q, .ref r])), (z1, .inl (Y 0, 24, .inl wa)), (z2, .inl (Y 0, 24, .inl da)), (z3, .inl (Y 0, 24, .inl gu)), (z7, .inl (Y 0, 150, .inl (bkU jr ln pt fa ho))), (q, .inr (6, [.int (nI tm), .int wt, .ref q1, .ref q2, .ref q3])), (q1, .inl (Y 0, 20, .inl sn)), (q2, .inl (Y 0, 20, .inl ic)), (q3, .inl (Y 0, 5, .inl ru))] _ := (congrArg (fun zz9 => va_P D vwCl [(z, .inr (7, [.int zz9, .ref z1, .ref z2, .ref z3, .int (nI np), .ref z4, .ref z5, .ref z6, .int (nI nj), .ref z7, .ref q, .ref r])), (z1, .inl (Y 0, 24, .inl wa)), (z2, .inl (Y 0, 24, .inl da)), (z3, .inl (Y 0, 24, .inl gu)), (z7, .inl (Y 0, 150, .inl (bkU jr ln pt fa ho))), (q, .inr (6, [.int (nI tm), .int wt, .ref q1, .ref q2, .ref q3])), (q1, .inl (Y 0, 20, .inl sn)), (q2, .inl (Y 0, 20, .inl ic)), (q3, .inl (Y 0, 5, .inl ru))] _) ec_1).mp hP
    have hD : va_D A [(z, .inr (7, [.int (nI (tCount v0)), .ref z1, .ref z2, .ref z3, .int (nI np), .ref z4, .ref z5, .ref z6, .int (nI nj), .ref z7, .ref q, .ref r])), (z1, .inl (Y 0, 24, .inl wa)), (z2, .inl (Y 0, 24, .inl da)), (z3, .inl (Y 0, 24, .inl gu)), (z7, .inl (Y 0, 150, .inl (bkU jr ln pt fa ho))), (q, .inr (6, [.int (nI tm), .int wt, .ref q1, .ref q2, .ref q3])), (q1, .inl (Y 0, 20, .inl sn)), (q2, .inl (Y 0, 20, .inl ic)), (q3, .inl (Y 0, 5, .inl ru))] := (congrArg (fun zz9 => va_D A [(z, .inr (7, [.int zz9, .ref z1, .ref z2, .ref z3, .int (nI np), .ref z4, .ref z5, .ref z6, .int (nI nj), .ref z7, .ref q, .ref r])), (z1, .inl (Y 0, 24, .inl wa)), (z2, .inl (Y 0, 24, .inl da)), (z3, .inl (Y 0, 24, .inl gu)), (z7, .inl (Y 0, 150, .inl (bkU jr ln pt fa ho))), (q, .inr (6, [.int (nI tm), .int wt, .ref q1, .ref q2, .ref q3])), (q1, .inl (Y 0, 20, .inl sn)), (q2, .inl (Y 0, 20, .inl ic)), (q3, .inl (Y 0, 5, .inl ru))]) ec_1).mp hD
    exact eI hx hb hr hlk hP hD hS (by rfl) (by rfl) (by exact Nat.le_of_ble_eq_true rfl) (by exact Nat.le_of_ble_eq_true rfl) dX7_count_32
  · exfalso
    exact ht (by unfold tCount; rw [if_neg (bi_n c_12)])
abbrev rm_kX7_leader : Room := { frames := 2, cells := 0, slots := 0, locals := 39 }
set_option maxHeartbeats 4000000 in
set_option maxRecDepth 100000 in
theorem kX7_leader (l : Launch) (D : va_G) (Y : Nat → ClassId) (sz : Nat) (z : Nat) (z1 : Nat) (z2 : Nat) (z3 : Nat) (z4 : Nat) (z5 : Nat) (z6 : Nat) (z7 : Nat) (q : Nat) (r : Nat) (jr : fN) (ln : fN) (pt : fN) (fa : fN) (ho : fN) (th : Int32) (np : Nat) (nj : Nat) (hnj : nj ≤ 30) : MI l yX7_leader wsX7_leader rm_kX7_leader D Y [.ref z] sz [(z, .inr (7, [.int th, .ref z1, .ref z2, .ref z3, .int (nI np), .ref z4, .ref z5, .ref z6, .int (nI nj), .ref z7, .ref q, .ref r])), (z7, .inl (Y 0, 150, .inl (bkU jr ln pt fa ho)))] (leadU jr pt nj) [(z, .inr (7, [.int (0 : Int32), .ref z1, .ref z2, .ref z3, .int (nI np), .ref z4, .ref z5, .ref z6, .int (nI nj), .ref z7, .ref q, .ref r])), (z7, .inl (Y 0, 150, .inl (bkU jr ln pt fa ho)))] 0 0 := by
  refine pcW_start (cc := cX7_leader) (maxL := 3) (ret := (some .int)) (Qc := fun A => va_Qi (fun (r : Int32) (_ : Unit) => r = (leadU jr pt nj)) (qW D A [(z, .inr (7, [.int (0 : Int32), .ref z1, .ref z2, .ref z3, .int (nI np), .ref z4, .ref z5, .ref z6, .int (nI nj), .ref z7, .ref q, .ref r])), (z7, .inl (Y 0, 150, .inl (bkU jr ln pt fa ho)))]) A) (by decide) rfl (Nat.le_of_ble_eq_true rfl) ?_
  intro p e s m below meth c A ls hE hKN hA hP hD hl
  obtain ⟨hx, hb, hr, hml, hown, hts, hlk, hin⟩ := hE
  have hown : s.vm.findClass RX7 = some m.cls := hown
  have hS : va_S A s.heap s.heap [] := va_S.rf
  have hi7 : ∀ w ∈ wsX70, w ∈ wsX7_leader := by decide +kernel
  have hl : lv_has ls 3 [(0, .ref z)] := hl
  refine lv_aload_n hx hb dX7_leader_0 rfl (lv_at hl 0 rfl) ?_
  refine lv_iconst (v := (0 : Int32)) hx hb dX7_leader_1 (by decide) ?_
  refine va_put (D := D) (ci := 7) (v := .int (0 : Int32)) (ty := .int) (C := RX7) (T := TX7) (N := 12) hx hb hts hi7 tyX7 tyX7_ok nmX7 hown hKN.1 hP hD hS 0 rfl rfl 0 (by decide) (hts (.fieldLink RX7 41 "SnowPumpsModel" "thrown" "I") (by decide +kernel)) (fun _ h9 => h9) rfl (by decide +kernel) rfl rfl (Nat.le_of_ble_eq_true rfl) dX7_leader_2 (fun H locs hP hD hS => ?_)
  have hP : va_P D vwCl [(z, .inr (7, [.int (0 : Int32), .ref z1, .ref z2, .ref z3, .int (nI np), .ref z4, .ref z5, .ref z6, .int (nI nj), .ref z7, .ref q, .ref r])), (z7, .inl (Y 0, 150, .inl (bkU jr ln pt fa ho)))] _ := hP
  have hD : va_D A [(z, .inr (7, [.int (0 : Int32), .ref z1, .ref z2, .ref z3, .int (nI np), .ref z4, .ref z5, .ref z6, .int (nI nj), .ref z7, .ref q, .ref r])), (z7, .inl (Y 0, 150, .inl (bkU jr ln pt fa ho)))] := hD
  refine lv_aload_n hx hb dX7_leader_5 rfl (lv_at hl 0 rfl) ?_
  refine va_get (D := D) (ci := 7) (v := .int (nI nj)) (C := RX7) (T := TX7) (N := 12) hx hb hts hi7 hown hKN.1 hP 0 rfl rfl 8 (by decide) (hts (.fieldLink RX7 102 "SnowPumpsModel" "jumps" "I") (by decide +kernel)) (fun _ h9 => h9) rfl dX7_leader_6 ?_
  refine lv_if_ne (tgt := 14) hx hb dX7_leader_9 (by decide) (fun c_9 => ?_) (fun c_9 => ?_)
  · refine lv_iconst (v := (0 : Int32)) hx hb dX7_leader_14 (by decide) ?_
    refine lv_eqi (y := (ldU jr pt nj 0).1) (by rfl) ?_
    refine lv_istore_n (lv' := [(1, .int ((ldU jr pt nj 0).1)), (0, .ref z)]) hx hb dX7_leader_15 rfl hl (by decide) rfl (fun ls hl => ?_)
    refine lv_iconst (v := (1 : Int32)) hx hb dX7_leader_16 (by decide) ?_
    refine lv_istore_n (lv' := [(2, .int (1 : Int32)), (1, .int ((ldU jr pt nj 0).1)), (0, .ref z)]) hx hb dX7_leader_17 rfl hl (by decide) rfl (fun ls hl => ?_)
    refine LPP (σ := Nat) (I := fun i H locs ls => i ≤ 9 ∧ va_P D vwCl [(z, .inr (7, [.int (0 : Int32), .ref z1, .ref z2, .ref z3, .int (nI np), .ref z4, .ref z5, .ref z6, .int (nI nj), .ref z7, .ref q, .ref r])), (z7, .inl (Y 0, 150, .inl (bkU jr ln pt fa ho)))] H ∧ va_D A [(z, .inr (7, [.int (0 : Int32), .ref z1, .ref z2, .ref z3, .int (nI np), .ref z4, .ref z5, .ref z6, .int (nI nj), .ref z7, .ref q, .ref r])), (z7, .inl (Y 0, 150, .inl (bkU jr ln pt fa ho)))] ∧ va_S A s.heap H locs ∧ lv_has ls 3 [(0, .ref z), (1, .int ((ldU jr pt nj i).1)), (2, .int (nI (i + 1)))]) (μ := fun i => 9 - i) (cl := fun i => 0) (sl := fun i => 0) (fun i ih_18 H locs ls hI => ?_) 0 _ _ _ ⟨by omega, hP, hD, hS, lv_sub hl [2, 1, 0] rfl⟩
    obtain ⟨hi, hP, hD, hS, hl⟩ := hI
    refine lv_iload_n hx hb dX7_leader_18 rfl (lv_at hl 2 rfl) ?_
    refine lv_bipush (v := (10 : Int32)) hx hb dX7_leader_19 (by decide) ?_
    refine lv_icmp_ge (tgt := 45) hx hb dX7_leader_21 (by decide) (fun c_21 => ?_) (fun c_21 => ?_)
    · have hlt := ngl (N := 10) (by omega) (by omega) c_21
      obtain rfl : 9 = i := by omega
      refine lv_iload_n hx hb dX7_leader_45 rfl (lv_at hl 1 rfl) ?_
      exact eI hx hb hr hlk hP hD hS (by rfl) (by unfold leadU; rw [if_neg (fun h9 => c_9 (by rw [h9]; rfl))]) (by exact Nat.le_of_ble_eq_true rfl) (by exact Nat.le_of_ble_eq_true rfl) dX7_leader_46
    · have hlt := nge (N := 10) (by omega) (by omega) c_21
      refine lv_aload_n hx hb dX7_leader_24 rfl (lv_at hl 0 rfl) ?_
      refine lv_iload_n hx hb dX7_leader_25 rfl (lv_at hl 2 rfl) ?_
      refine cVi (As := [.int (nI (i + 1))]) (rest := []) (ws' := [(z, .inr (7, [.int (0 : Int32), .ref z1, .ref z2, .ref z3, .int (nI np), .ref z4, .ref z5, .ref z6, .int (nI nj), .ref z7, .ref q, .ref r])), (z7, .inl (Y 0, 150, .inl (bkU jr ln pt fa ho)))]) ⟨hx, hb, hml, hown, hts⟩ (kX7_scoreOf l D Y _ z z1 z2 z3 z4 z5 z6 z7 q r jr ln pt fa ho (0 : Int32) np nj (nI (i + 1)) (by first | assumption | omega)) (cwV 1 hts gX7_leader_X7_scoreOf rfl rfl rfl (by decide +kernel) ⟨Nat.le_of_ble_eq_true rfl, Nat.le_of_ble_eq_true rfl⟩) hKN hP hD hS hA [0, 1] [] [0, 1] rfl (by decide) rfl rfl 0 7 rfl rfl rfl rfl hl.1 (Nat.le_of_ble_eq_true rfl) dX7_leader_26 ⟨Nat.le_of_ble_eq_true rfl, Nat.le_of_ble_eq_true rfl⟩ (fun H locs hP hD hS => ?_)
      refine lv_aload_n hx hb dX7_leader_29 rfl (lv_at hl 0 rfl) ?_
      refine lv_iload_n hx hb dX7_leader_30 rfl (lv_at hl 1 rfl) ?_
      refine cVi (As := [.int ((ldU jr pt nj i).1)]) (rest := [.int (scU jr pt nj (nI (i + 1)))]) (ws' := [(z, .inr (7, [.int (0 : Int32), .ref z1, .ref z2, .ref z3, .int (nI np), .ref z4, .ref z5, .ref z6, .int (nI nj), .ref z7, .ref q, .ref r])), (z7, .inl (Y 0, 150, .inl (bkU jr ln pt fa ho)))]) ⟨hx, hb, hml, hown, hts⟩ (kX7_scoreOf l D Y _ z z1 z2 z3 z4 z5 z6 z7 q r jr ln pt fa ho (0 : Int32) np nj ((ldU jr pt nj i).1) (by first | assumption | omega)) (cwV 1 hts gX7_leader_X7_scoreOf rfl rfl rfl (by decide +kernel) ⟨Nat.le_of_ble_eq_true rfl, Nat.le_of_ble_eq_true rfl⟩) hKN hP hD hS hA [0, 1] [] [0, 1] rfl (by decide) rfl rfl 0 7 rfl rfl rfl rfl hl.1 (Nat.le_of_ble_eq_true rfl) dX7_leader_31 ⟨Nat.le_of_ble_eq_true rfl, Nat.le_of_ble_eq_true rfl⟩ (fun H locs hP hD hS => ?_)
      refine lv_eqi (y := (ldU jr pt nj i).2) (by exact ld_eq _ _ _ _) ?_
      refine lv_icmp_le (tgt := 39) hx hb dX7_leader_34 (by decide) (fun c_34 => ?_) (fun c_34 => ?_)
      · have ec_1 : ((ldU jr pt nj i).1) = ((ldU jr pt nj (i + 1)).1) := by exact congrArg (fun q => q.1) (show ldU jr pt nj i = ldU jr pt nj (i + 1) from (if_neg (Int32.not_lt.mpr c_34)).symm)
        have hl : lv_has ls 3 [(0, .ref z), (1, .int ((ldU jr pt nj (i + 1)).1)), (2, .int (nI (i + 1)))] := (congrArg (fun zz9 => lv_has ls 3 [(0, .ref z), (1, .int zz9), (2, .int (nI (i + 1)))]) ec_1).mp hl
        refine lv_iinc (v := (nI ((i + 1) + 1))) (lv' := [(2, .int (nI ((i + 1) + 1))), (0, .ref z), (1, .int ((ldU jr pt nj (i + 1)).1))]) hx hb dX7_leader_39 hl (k := 2) rfl (by exact nI_1 _) (by decide) rfl (fun ls hl => ?_)
        refine lv_goto (tgt := 18) hx hb dX7_leader_42 (by decide) ?_
        exact ih_18 (i + 1) _ _ _ (show 9 - (i + 1) < 9 - i by omega) ⟨by omega, hP, hD, hS, lv_sub hl [1, 2, 0] rfl⟩
      · refine lv_iload_n hx hb dX7_leader_37 rfl (lv_at hl 2 rfl) ?_
        refine lv_eqi (y := (ldU jr pt nj (i + 1)).1) (by exact congrArg (fun q => q.1) (show (nI (i + 1), scU jr pt nj (nI (i + 1))) = ldU jr pt nj (i + 1) from (if_pos (Int32.not_le.mp c_34)).symm)) ?_
        refine lv_istore_n (lv' := [(1, .int ((ldU jr pt nj (i + 1)).1)), (0, .ref z), (2, .int (nI (i + 1)))]) hx hb dX7_leader_38 rfl hl (by decide) rfl (fun ls hl => ?_)
        refine lv_iinc (v := (nI ((i + 1) + 1))) (lv' := [(2, .int (nI ((i + 1) + 1))), (1, .int ((ldU jr pt nj (i + 1)).1)), (0, .ref z)]) hx hb dX7_leader_39 hl (k := 2) rfl (by exact nI_1 _) (by decide) rfl (fun ls hl => ?_)
        refine lv_goto (tgt := 18) hx hb dX7_leader_42 (by decide) ?_
        exact ih_18 (i + 1) _ _ _ (show 9 - (i + 1) < 9 - i by omega) ⟨by omega, hP, hD, hS, lv_sub hl [2, 1, 0] rfl⟩
  · refine lv_iconst (v := (-1 : Int32)) hx hb dX7_leader_12 (by decide) ?_
    exact eI hx hb hr hlk hP hD hS (by rfl) (by unfold leadU; rw [if_pos (by exact (nI_eq (by omega) (by omega)).mp c_9)]) (by exact Nat.le_of_ble_eq_true rfl) (by exact Nat.le_of_ble_eq_true rfl) dX7_leader_13
