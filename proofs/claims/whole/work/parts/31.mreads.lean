abbrev rm_kX7_gustNow : Room := { frames := 0, cells := 0, slots := 0, locals := 0 }
set_option maxHeartbeats 4000000 in
set_option maxRecDepth 100000 in
theorem kX7_gustNow (l : Launch) (D : va_G) (Y : Nat → ClassId) (sz : Nat) (z : Nat) (z1 : Nat) (z2 : Nat) (z3 : Nat) (z4 : Nat) (z5 : Nat) (z6 : Nat) (z7 : Nat) (q : Nat) (q1 : Nat) (q2 : Nat) (q3 : Nat) (r : Nat) (gu : fN) (wt : Int32) (th : Int32) (tm : Nat) (np : Nat) (nj : Nat) (htm : tm < 2 ^ 31) : MI l yX7_gustNow wsX7_gustNow rm_kX7_gustNow D Y [.ref z] sz [(z, .inr (7, [.int th, .ref z1, .ref z2, .ref z3, .int (nI np), .ref z4, .ref z5, .ref z6, .int (nI nj), .ref z7, .ref q, .ref r])), (z3, .inl (Y 0, 24, .inl gu)), (q, .inr (6, [.int (nI tm), .int wt, .ref q1, .ref q2, .ref q3]))] (gu (tm % 24)) [(z, .inr (7, [.int th, .ref z1, .ref z2, .ref z3, .int (nI np), .ref z4, .ref z5, .ref z6, .int (nI nj), .ref z7, .ref q, .ref r])), (z3, .inl (Y 0, 24, .inl gu)), (q, .inr (6, [.int (nI tm), .int wt, .ref q1, .ref q2, .ref q3]))] 0 0 := by
  refine pcW_start (cc := cX7_gustNow) (maxL := 1) (ret := (some .int)) (Qc := fun A => va_Qi (fun (r : Int32) (_ : Unit) => r = (gu (tm % 24))) (qW D A [(z, .inr (7, [.int th, .ref z1, .ref z2, .ref z3, .int (nI np), .ref z4, .ref z5, .ref z6, .int (nI nj), .ref z7, .ref q, .ref r])), (z3, .inl (Y 0, 24, .inl gu)), (q, .inr (6, [.int (nI tm), .int wt, .ref q1, .ref q2, .ref q3]))]) A) (by decide) rfl (Nat.le_of_ble_eq_true rfl) ?_
  intro p e s m below meth c A ls hE hKN hA hP hD hl
  obtain ⟨hx, hb, hr, hml, hown, hts, hlk, hin⟩ := hE
  have hown : s.vm.findClass RX7 = some m.cls := hown
  have hS : va_S A s.heap s.heap [] := va_S.rf
  have hi6 : ∀ w ∈ wsX60, w ∈ wsX7_gustNow := by decide +kernel
  have hi7 : ∀ w ∈ wsX70, w ∈ wsX7_gustNow := by decide +kernel
  have hl : lv_has ls 1 [(0, .ref z)] := hl
  refine lv_aload_n hx hb dX7_gustNow_0 rfl (lv_at hl 0 rfl) ?_
  refine va_get (D := D) (ci := 7) (v := .ref z3) (C := RX7) (T := TX7) (N := 12) hx hb hts hi7 hown hKN.1 hP 0 rfl rfl 3 (by decide) (hts (.fieldLink RX7 16 "SnowPumpsModel" "gust" "[I") (by decide +kernel)) (fun _ h9 => h9) rfl dX7_gustNow_1 ?_
  refine lv_aload_n hx hb dX7_gustNow_4 rfl (lv_at hl 0 rfl) ?_
  refine va_get (D := D) (ci := 7) (v := .ref q) (C := RX7) (T := TX7) (N := 12) hx hb hts hi7 hown hKN.1 hP 0 rfl rfl 10 (by decide) (hts (.fieldLink RX7 34 "SnowPumpsModel" "s" "LSnowPumpsModel$State;") (by decide +kernel)) (fun _ h9 => h9) rfl dX7_gustNow_5 ?_
  refine va_getN (D := D) (ci := 6) (v := .int (nI tm)) (C := RX6) (T := TX6) (N := 5) hx hb hts hi6 hown hKN.1 hP 2 rfl rfl 0 (by decide) (hKN.2.before 8 rfl) (fun _ h9 => h9) rfl dX7_gustNow_8 ?_
  refine lv_bipush (v := (24 : Int32)) hx hb dX7_gustNow_11 (by decide) ?_
  refine lv_irem hx hb dX7_gustNow_13 (by decide) ?_
  refine lv_eqi (y := nI (tm % 24)) (by exact pk_rem htm (by decide) (by decide)) ?_
  refine ia hx hb hKN.1 hP 1 0 rfl rfl (tm % 24) (by rfl) (by omega) (by first | decide | assumption | omega) dX7_gustNow_14 ?_
  exact eI hx hb hr hlk hP hD hS (by rfl) (by rfl) (by exact Nat.le_of_ble_eq_true rfl) (by exact Nat.le_of_ble_eq_true rfl) dX7_gustNow_15
abbrev rm_kX7_length : Room := { frames := 1, cells := 0, slots := 0, locals := 20 }
set_option maxHeartbeats 4000000 in
set_option maxRecDepth 100000 in
theorem kX7_length (l : Launch) (D : va_G) (Y : Nat → ClassId) (sz : Nat) (z : Nat) (z1 : Nat) (z2 : Nat) (z3 : Nat) (z4 : Nat) (z5 : Nat) (z6 : Nat) (z7 : Nat) (q : Nat) (q1 : Nat) (q2 : Nat) (q3 : Nat) (r : Nat) (gu : fN) (wt : Int32) (th : Int32) (tm : Nat) (np : Nat) (nj : Nat) (v0 : Int32) (v1 : Int32) (htm : tm < 2 ^ 31) : MI l yX7_length wsX7_length rm_kX7_length D Y [.ref z, .int v0, .int v1] sz [(z, .inr (7, [.int th, .ref z1, .ref z2, .ref z3, .int (nI np), .ref z4, .ref z5, .ref z6, .int (nI nj), .ref z7, .ref q, .ref r])), (z3, .inl (Y 0, 24, .inl gu)), (q, .inr (6, [.int (nI tm), .int wt, .ref q1, .ref q2, .ref q3]))] (lenU v0 (gu (tm % 24)) v1) [(z, .inr (7, [.int th, .ref z1, .ref z2, .ref z3, .int (nI np), .ref z4, .ref z5, .ref z6, .int (nI nj), .ref z7, .ref q, .ref r])), (z3, .inl (Y 0, 24, .inl gu)), (q, .inr (6, [.int (nI tm), .int wt, .ref q1, .ref q2, .ref q3]))] 0 0 := by
  refine pcW_start (cc := cX7_length) (maxL := 3) (ret := (some .int)) (Qc := fun A => va_Qi (fun (r : Int32) (_ : Unit) => r = (lenU v0 (gu (tm % 24)) v1)) (qW D A [(z, .inr (7, [.int th, .ref z1, .ref z2, .ref z3, .int (nI np), .ref z4, .ref z5, .ref z6, .int (nI nj), .ref z7, .ref q, .ref r])), (z3, .inl (Y 0, 24, .inl gu)), (q, .inr (6, [.int (nI tm), .int wt, .ref q1, .ref q2, .ref q3]))]) A) (by decide) rfl (Nat.le_of_ble_eq_true rfl) ?_
  intro p e s m below meth c A ls hE hKN hA hP hD hl
  obtain ⟨hx, hb, hr, hml, hown, hts, hlk, hin⟩ := hE
  have hown : s.vm.findClass RX7 = some m.cls := hown
  have hS : va_S A s.heap s.heap [] := va_S.rf
  have hl : lv_has ls 3 [(0, .ref z), (1, .int v0), (2, .int v1)] := hl
  refine lv_iconst (v := (0 : Int32)) hx hb dX7_length_0 (by decide) ?_
  refine lv_bipush (v := (99 : Int32)) hx hb dX7_length_1 (by decide) ?_
  refine lv_iconst (v := (4 : Int32)) hx hb dX7_length_3 (by decide) ?_
  refine lv_iload_n hx hb dX7_length_4 rfl (lv_at hl 1 rfl) ?_
  refine lv_imul hx hb dX7_length_5 ?_
  refine lv_iconst (v := (2 : Int32)) hx hb dX7_length_6 (by decide) ?_
  refine lv_aload_n hx hb dX7_length_7 rfl (lv_at hl 0 rfl) ?_
  refine cVi (As := []) (rest := [.int (2 : Int32), .int ((4 : Int32) * v0), .int (99 : Int32), .int (0 : Int32)]) (ws' := [(z, .inr (7, [.int th, .ref z1, .ref z2, .ref z3, .int (nI np), .ref z4, .ref z5, .ref z6, .int (nI nj), .ref z7, .ref q, .ref r])), (z3, .inl (Y 0, 24, .inl gu)), (q, .inr (6, [.int (nI tm), .int wt, .ref q1, .ref q2, .ref q3]))]) ⟨hx, hb, hml, hown, hts⟩ (kX7_gustNow l D Y _ z z1 z2 z3 z4 z5 z6 z7 q q1 q2 q3 r gu wt th tm np nj (by first | assumption | omega)) (cwV 0 hts gX7_length_X7_gustNow rfl rfl rfl (by decide +kernel) ⟨Nat.le_of_ble_eq_true rfl, Nat.le_of_ble_eq_true rfl⟩) hKN hP hD hS hA [0, 1, 2] [] [0, 1, 2] rfl (by decide) rfl rfl 0 7 rfl rfl rfl rfl hl.1 (Nat.le_of_ble_eq_true rfl) dX7_length_8 ⟨Nat.le_of_ble_eq_true rfl, Nat.le_of_ble_eq_true rfl⟩ (fun H locs hP hD hS => ?_)
  refine lv_imul hx hb dX7_length_11 ?_
  refine lv_iadd hx hb dX7_length_12 ?_
  refine lv_iload_n hx hb dX7_length_13 rfl (lv_at hl 2 rfl) ?_
  refine lv_iconst (v := (4 : Int32)) hx hb dX7_length_14 (by decide) ?_
  refine lv_idiv hx hb dX7_length_15 (by decide) ?_
  refine lv_iadd hx hb dX7_length_16 ?_
  refine va_mmin hx hb (hml.trans hl.1.symm) hown (hts (.methodLink RX7 61 Lib.Math.min.name) (by decide +kernel)) (hts (.static Lib.Math.min.name) (by decide +kernel)) (hts (.initialized "java/lang/Math") (by decide +kernel)) (hts (.code Lib.Math.min.name Lib.Math.min.code 2 (some .int)) (by decide +kernel)) (Nat.le_of_ble_eq_true rfl) (Nat.le_of_ble_eq_true rfl) (by exact Nat.le_of_ble_eq_true rfl) (by exact Nat.le_of_ble_eq_true rfl) dX7_length_17 ?_
  refine lv_eqi (y := mnI (99 : Int32) ((((4 : Int32) * v0) + ((2 : Int32) * (gu (tm % 24)))) + (v1 / (4 : Int32)))) rfl ?_
  refine va_mmax hx hb (hml.trans hl.1.symm) hown (hts (.methodLink RX7 85 Lib.Math.max.name) (by decide +kernel)) (hts (.static Lib.Math.max.name) (by decide +kernel)) (hts (.initialized "java/lang/Math") (by decide +kernel)) (hts (.code Lib.Math.max.name Lib.Math.max.code 2 (some .int)) (by decide +kernel)) (Nat.le_of_ble_eq_true rfl) (Nat.le_of_ble_eq_true rfl) (by exact Nat.le_of_ble_eq_true rfl) (by exact Nat.le_of_ble_eq_true rfl) dX7_length_20 ?_
  refine lv_eqi (y := mxI (0 : Int32) (mnI (99 : Int32) ((((4 : Int32) * v0) + ((2 : Int32) * (gu (tm % 24)))) + (v1 / (4 : Int32))))) rfl ?_
  refine lv_eqi (y := lenU v0 (gu (tm % 24)) v1) (by exact lenU_c _ _ _) ?_
  exact eI hx hb hr hlk hP hD hS (by rfl) (by rfl) (by exact Nat.le_of_ble_eq_true rfl) (by exact Nat.le_of_ble_eq_true rfl) dX7_length_23
abbrev rm_kX7_scoreOf : Room := { frames := 1, cells := 0, slots := 0, locals := 14 }
set_option maxHeartbeats 4000000 in
set_option maxRecDepth 100000 in
theorem kX7_scoreOf (l : Launch) (D : va_G) (Y : Nat → ClassId) (sz : Nat) (z : Nat) (z1 : Nat) (z2 : Nat) (z3 : Nat) (z4 : Nat) (z5 : Nat) (z6 : Nat) (z7 : Nat) (q : Nat) (r : Nat) (jr : fN) (ln : fN) (pt : fN) (fa : fN) (ho : fN) (th : Int32) (np : Nat) (nj : Nat) (who : Int32) (hnj : nj ≤ 30) : MI l yX7_scoreOf wsX7_scoreOf rm_kX7_scoreOf D Y [.ref z, .int who] sz [(z, .inr (7, [.int th, .ref z1, .ref z2, .ref z3, .int (nI np), .ref z4, .ref z5, .ref z6, .int (nI nj), .ref z7, .ref q, .ref r])), (z7, .inl (Y 0, 150, .inl (bkU jr ln pt fa ho)))] (scU jr pt nj who) [(z, .inr (7, [.int th, .ref z1, .ref z2, .ref z3, .int (nI np), .ref z4, .ref z5, .ref z6, .int (nI nj), .ref z7, .ref q, .ref r])), (z7, .inl (Y 0, 150, .inl (bkU jr ln pt fa ho)))] 0 0 := by
  refine pcW_start (cc := cX7_scoreOf) (maxL := 6) (ret := (some .int)) (Qc := fun A => va_Qi (fun (r : Int32) (_ : Unit) => r = (scU jr pt nj who)) (qW D A [(z, .inr (7, [.int th, .ref z1, .ref z2, .ref z3, .int (nI np), .ref z4, .ref z5, .ref z6, .int (nI nj), .ref z7, .ref q, .ref r])), (z7, .inl (Y 0, 150, .inl (bkU jr ln pt fa ho)))]) A) (by decide) rfl (Nat.le_of_ble_eq_true rfl) ?_
  intro p e s m below meth c A ls hE hKN hA hP hD hl
  obtain ⟨hx, hb, hr, hml, hown, hts, hlk, hin⟩ := hE
  have hown : s.vm.findClass RX7 = some m.cls := hown
  have hS : va_S A s.heap s.heap [] := va_S.rf
  have hi7 : ∀ w ∈ wsX70, w ∈ wsX7_scoreOf := by decide +kernel
  have hl : lv_has ls 6 [(0, .ref z), (1, .int who)] := hl
  refine lv_iconst (v := (0 : Int32)) hx hb dX7_scoreOf_0 (by decide) ?_
  refine lv_istore_n (lv' := [(2, .int (0 : Int32)), (0, .ref z), (1, .int who)]) hx hb dX7_scoreOf_1 rfl hl (by decide) rfl (fun ls hl => ?_)
  refine lv_iconst (v := (0 : Int32)) hx hb dX7_scoreOf_2 (by decide) ?_
  refine lv_istore_n (lv' := [(3, .int (0 : Int32)), (2, .int (0 : Int32)), (0, .ref z), (1, .int who)]) hx hb dX7_scoreOf_3 rfl hl (by decide) rfl (fun ls hl => ?_)
  refine lv_iconst (v := (0 : Int32)) hx hb dX7_scoreOf_4 (by decide) ?_
  refine lv_istore (lv' := [(4, .int (0 : Int32)), (3, .int (0 : Int32)), (2, .int (0 : Int32)), (0, .ref z), (1, .int who)]) hx hb dX7_scoreOf_5 hl (by decide) rfl (fun ls hl => ?_)
  refine LPP (σ := Nat) (I := fun i H locs ls => i ≤ nj ∧ va_P D vwCl [(z, .inr (7, [.int th, .ref z1, .ref z2, .ref z3, .int (nI np), .ref z4, .ref z5, .ref z6, .int (nI nj), .ref z7, .ref q, .ref r])), (z7, .inl (Y 0, 150, .inl (bkU jr ln pt fa ho)))] H ∧ va_D A [(z, .inr (7, [.int th, .ref z1, .ref z2, .ref z3, .int (nI np), .ref z4, .ref z5, .ref z6, .int (nI nj), .ref z7, .ref q, .ref r])), (z7, .inl (Y 0, 150, .inl (bkU jr ln pt fa ho)))] ∧ va_S A s.heap H locs ∧ lv_has ls 6 [(0, .ref z), (1, .int who), (2, .int ((btU jr pt who i).1)), (3, .int ((btU jr pt who i).2)), (4, .int (nI i))]) (μ := fun i => nj - i) (cl := fun i => 0) (sl := fun i => 0) (fun i ih_7 H locs ls hI => ?_) 0 _ _ _ ⟨by omega, hP, hD, hS, lv_sub hl [3, 4, 2, 1, 0] rfl⟩
  obtain ⟨hi, hP, hD, hS, hl⟩ := hI
  refine lv_iload hx hb dX7_scoreOf_7 (lv_at hl 4 rfl) ?_
  refine lv_aload_n hx hb dX7_scoreOf_9 rfl (lv_at hl 0 rfl) ?_
  refine va_get (D := D) (ci := 7) (v := .int (nI nj)) (C := RX7) (T := TX7) (N := 12) hx hb hts hi7 hown hKN.1 hP 0 rfl rfl 8 (by decide) (hts (.fieldLink RX7 102 "SnowPumpsModel" "jumps" "I") (by decide +kernel)) (fun _ h9 => h9) rfl dX7_scoreOf_10 ?_
  refine lv_icmp_ge (tgt := 69) hx hb dX7_scoreOf_13 (by decide) (fun c_13 => ?_) (fun c_13 => ?_)
  · have hlt := ngl (N := nj) (by first | decide | omega) (by omega) c_13
    obtain rfl : nj = i := by omega
    refine lv_iload_n hx hb dX7_scoreOf_69 rfl (lv_at hl 2 rfl) ?_
    refine lv_iload_n hx hb dX7_scoreOf_70 rfl (lv_at hl 3 rfl) ?_
    refine lv_iadd hx hb dX7_scoreOf_71 ?_
    exact eI hx hb hr hlk hP hD hS (by rfl) (by rfl) (by exact Nat.le_of_ble_eq_true rfl) (by exact Nat.le_of_ble_eq_true rfl) dX7_scoreOf_72
  · have hlt := nge (N := nj) (by first | decide | omega) (by omega) c_13
    refine lv_aload_n hx hb dX7_scoreOf_16 rfl (lv_at hl 0 rfl) ?_
    refine va_get (D := D) (ci := 7) (v := .ref z7) (C := RX7) (T := TX7) (N := 12) hx hb hts hi7 hown hKN.1 hP 0 rfl rfl 9 (by decide) (hts (.fieldLink RX7 28 "SnowPumpsModel" "book" "[I") (by decide +kernel)) (fun _ h9 => h9) rfl dX7_scoreOf_17 ?_
    refine lv_iconst (v := (5 : Int32)) hx hb dX7_scoreOf_20 (by decide) ?_
    refine lv_iload hx hb dX7_scoreOf_21 (lv_at hl 4 rfl) ?_
    refine lv_imul hx hb dX7_scoreOf_23 ?_
    refine lv_eqi (y := nI (5 * i)) (by exact pk_mul 5 _) ?_
    refine ia hx hb hKN.1 hP 1 0 rfl rfl (5 * i) (by rfl) (by omega) (by first | decide | assumption | omega) dX7_scoreOf_24 ?_
    refine lv_eqi (y := jr i) (by exact bk_0) ?_
    refine lv_iload_n hx hb dX7_scoreOf_25 rfl (lv_at hl 1 rfl) ?_
    refine lv_icmp_eq (tgt := 32) hx hb dX7_scoreOf_26 (by decide) (fun c_26 => ?_) (fun c_26 => ?_)
    · refine lv_aload_n hx hb dX7_scoreOf_32 rfl (lv_at hl 0 rfl) ?_
      refine va_get (D := D) (ci := 7) (v := .ref z7) (C := RX7) (T := TX7) (N := 12) hx hb hts hi7 hown hKN.1 hP 0 rfl rfl 9 (by decide) (hts (.fieldLink RX7 28 "SnowPumpsModel" "book" "[I") (by decide +kernel)) (fun _ h9 => h9) rfl dX7_scoreOf_33 ?_
      refine lv_iconst (v := (5 : Int32)) hx hb dX7_scoreOf_36 (by decide) ?_
      refine lv_iload hx hb dX7_scoreOf_37 (lv_at hl 4 rfl) ?_
      refine lv_imul hx hb dX7_scoreOf_39 ?_
      refine lv_eqi (y := nI (5 * i)) (by exact pk_mul 5 _) ?_
      refine lv_iconst (v := (2 : Int32)) hx hb dX7_scoreOf_40 (by decide) ?_
      refine lv_iadd hx hb dX7_scoreOf_41 ?_
      refine lv_eqi (y := nI (5 * i + 2)) (by exact nI_add _ 2) ?_
      refine ia hx hb hKN.1 hP 1 0 rfl rfl (5 * i + 2) (by rfl) (by omega) (by first | decide | assumption | omega) dX7_scoreOf_42 ?_
      refine lv_eqi (y := pt i) (by exact bk_2) ?_
      refine lv_istore (lv' := [(5, .int (pt i)), (0, .ref z), (1, .int who), (2, .int ((btU jr pt who i).1)), (3, .int ((btU jr pt who i).2)), (4, .int (nI i))]) hx hb dX7_scoreOf_43 hl (by decide) rfl (fun ls hl => ?_)
      refine lv_iload_n hx hb dX7_scoreOf_45 rfl (lv_at hl 4 rfl) ?_
      refine lv_iload_n hx hb dX7_scoreOf_46 rfl (lv_at hl 3 rfl) ?_
      refine lv_iload hx hb dX7_scoreOf_47 (lv_at hl 0 rfl) ?_
      refine va_mmin hx hb (hml.trans hl.1.symm) hown (hts (.methodLink RX7 61 Lib.Math.min.name) (by decide +kernel)) (hts (.static Lib.Math.min.name) (by decide +kernel)) (hts (.initialized "java/lang/Math") (by decide +kernel)) (hts (.code Lib.Math.min.name Lib.Math.min.code 2 (some .int)) (by decide +kernel)) (Nat.le_of_ble_eq_true rfl) (Nat.le_of_ble_eq_true rfl) (by exact Nat.le_of_ble_eq_true rfl) (by exact Nat.le_of_ble_eq_true rfl) dX7_scoreOf_49 ?_
      refine lv_eqi (y := mnI ((btU jr pt who i).1) (pt i)) rfl ?_
      refine va_mmax hx hb (hml.trans hl.1.symm) hown (hts (.methodLink RX7 85 Lib.Math.max.name) (by decide +kernel)) (hts (.static Lib.Math.max.name) (by decide +kernel)) (hts (.initialized "java/lang/Math") (by decide +kernel)) (hts (.code Lib.Math.max.name Lib.Math.max.code 2 (some .int)) (by decide +kernel)) (Nat.le_of_ble_eq_true rfl) (Nat.le_of_ble_eq_true rfl) (by exact Nat.le_of_ble_eq_true rfl) (by exact Nat.le_of_ble_eq_true rfl) dX7_scoreOf_52 ?_
      refine lv_eqi (y := mxI ((btU jr pt who i).2) (mnI ((btU jr pt who i).1) (pt i))) rfl ?_
      refine lv_eqi (y := (btU jr pt who (i + 1)).2) (by rw [btU_t c_26]) ?_
      refine lv_istore_n (lv' := [(3, .int ((btU jr pt who (i + 1)).2)), (5, .int (pt i)), (0, .ref z), (1, .int who), (2, .int ((btU jr pt who i).1)), (4, .int (nI i))]) hx hb dX7_scoreOf_55 rfl hl (by decide) rfl (fun ls hl => ?_)
      refine lv_iload_n hx hb dX7_scoreOf_56 rfl (lv_at hl 4 rfl) ?_
      refine lv_iload hx hb dX7_scoreOf_57 (lv_at hl 1 rfl) ?_
      refine va_mmax hx hb (hml.trans hl.1.symm) hown (hts (.methodLink RX7 85 Lib.Math.max.name) (by decide +kernel)) (hts (.static Lib.Math.max.name) (by decide +kernel)) (hts (.initialized "java/lang/Math") (by decide +kernel)) (hts (.code Lib.Math.max.name Lib.Math.max.code 2 (some .int)) (by decide +kernel)) (Nat.le_of_ble_eq_true rfl) (Nat.le_of_ble_eq_true rfl) (by exact Nat.le_of_ble_eq_true rfl) (by exact Nat.le_of_ble_eq_true rfl) dX7_scoreOf_59 ?_
      refine lv_eqi (y := mxI ((btU jr pt who i).1) (pt i)) rfl ?_
      refine lv_eqi (y := (btU jr pt who (i + 1)).1) (by rw [btU_t c_26]) ?_
      refine lv_istore_n (lv' := [(2, .int ((btU jr pt who (i + 1)).1)), (3, .int ((btU jr pt who (i + 1)).2)), (5, .int (pt i)), (0, .ref z), (1, .int who), (4, .int (nI i))]) hx hb dX7_scoreOf_62 rfl hl (by decide) rfl (fun ls hl => ?_)
      refine lv_iinc (v := (nI (i + 1))) (lv' := [(4, .int (nI (i + 1))), (2, .int ((btU jr pt who (i + 1)).1)), (3, .int ((btU jr pt who (i + 1)).2)), (5, .int (pt i)), (0, .ref z), (1, .int who)]) hx hb dX7_scoreOf_63 hl (k := 5) rfl (by exact nI_1 _) (by decide) rfl (fun ls hl => ?_)
      refine lv_goto (tgt := 7) hx hb dX7_scoreOf_66 (by decide) ?_
      exact ih_7 (i + 1) _ _ _ (show nj - (i + 1) < nj - i by omega) ⟨by omega, hP, hD, hS, lv_sub hl [4, 5, 1, 2, 0] rfl⟩
    · have ec_1 : ((btU jr pt who i).1) = ((btU jr pt who (i + 1)).1) := by rw [btU_f c_26]
      have hl : lv_has ls 6 [(0, .ref z), (1, .int who), (2, .int ((btU jr pt who (i + 1)).1)), (3, .int ((btU jr pt who i).2)), (4, .int (nI i))] := (congrArg (fun zz9 => lv_has ls 6 [(0, .ref z), (1, .int who), (2, .int zz9), (3, .int ((btU jr pt who i).2)), (4, .int (nI i))]) ec_1).mp hl
      have ec_2 : ((btU jr pt who i).2) = ((btU jr pt who (i + 1)).2) := by rw [btU_f c_26]
      have hl : lv_has ls 6 [(0, .ref z), (1, .int who), (2, .int ((btU jr pt who (i + 1)).1)), (3, .int ((btU jr pt who (i + 1)).2)), (4, .int (nI i))] := (congrArg (fun zz9 => lv_has ls 6 [(0, .ref z), (1, .int who), (2, .int ((btU jr pt who (i + 1)).1)), (3, .int zz9), (4, .int (nI i))]) ec_2).mp hl
      refine lv_goto (tgt := 63) hx hb dX7_scoreOf_29 (by decide) ?_
      refine lv_iinc (v := (nI (i + 1))) (lv' := [(4, .int (nI (i + 1))), (0, .ref z), (1, .int who), (2, .int ((btU jr pt who (i + 1)).1)), (3, .int ((btU jr pt who (i + 1)).2))]) hx hb dX7_scoreOf_63 hl (k := 4) rfl (by exact nI_1 _) (by decide) rfl (fun ls hl => ?_)
      refine lv_goto (tgt := 7) hx hb dX7_scoreOf_66 (by decide) ?_
      exact ih_7 (i + 1) _ _ _ (show nj - (i + 1) < nj - i by omega) ⟨by omega, hP, hD, hS, lv_sub hl [1, 2, 3, 4, 0] rfl⟩
abbrev rm_kX7_partTold : Room := { frames := 1, cells := 0, slots := 0, locals := 21 }
set_option maxHeartbeats 4000000 in
set_option maxRecDepth 100000 in
theorem kX7_partTold (l : Launch) (D : va_G) (Y : Nat → ClassId) (sz : Nat) (z : Nat) (z1 : Nat) (z2 : Nat) (z3 : Nat) (z4 : Nat) (z5 : Nat) (z6 : Nat) (z7 : Nat) (q : Nat) (q1 : Nat) (q2 : Nat) (q3 : Nat) (r : Nat) (pa : fN) (sn : fN) (ic : fN) (wt : Int32) (th : Int32) (tm : Nat) (np : Nat) (nj : Nat) (k : Nat) (q9 : Nat) (hk : k < 20) (hq : q9 < 4) (hnp : np ≤ 5) : MI l yX7_partTold wsX7_partTold rm_kX7_partTold D Y [.ref z, .int (nI k), .int (nI q9)] sz [(z, .inr (7, [.int th, .ref z1, .ref z2, .ref z3, .int (nI np), .ref z4, .ref z5, .ref z6, .int (nI nj), .ref z7, .ref q, .ref r])), (z4, .inl (Y 0, 5, .inl pa)), (q, .inr (6, [.int (nI tm), .int wt, .ref q1, .ref q2, .ref q3])), (q1, .inl (Y 0, 20, .inl sn)), (q2, .inl (Y 0, 20, .inl ic))] (partU sn ic pa np k q9) [(z, .inr (7, [.int th, .ref z1, .ref z2, .ref z3, .int (nI np), .ref z4, .ref z5, .ref z6, .int (nI nj), .ref z7, .ref q, .ref r])), (z4, .inl (Y 0, 5, .inl pa)), (q, .inr (6, [.int (nI tm), .int wt, .ref q1, .ref q2, .ref q3])), (q1, .inl (Y 0, 20, .inl sn)), (q2, .inl (Y 0, 20, .inl ic))] 0 0 := by
  refine pcW_start (cc := cX7_partTold) (maxL := 5) (ret := (some .int)) (Qc := fun A => va_Qi (fun (r : Int32) (_ : Unit) => r = (partU sn ic pa np k q9)) (qW D A [(z, .inr (7, [.int th, .ref z1, .ref z2, .ref z3, .int (nI np), .ref z4, .ref z5, .ref z6, .int (nI nj), .ref z7, .ref q, .ref r])), (z4, .inl (Y 0, 5, .inl pa)), (q, .inr (6, [.int (nI tm), .int wt, .ref q1, .ref q2, .ref q3])), (q1, .inl (Y 0, 20, .inl sn)), (q2, .inl (Y 0, 20, .inl ic))]) A) (by decide) rfl (Nat.le_of_ble_eq_true rfl) ?_
  intro p e s m below meth c A ls hE hKN hA hP hD hl
  obtain ⟨hx, hb, hr, hml, hown, hts, hlk, hin⟩ := hE
  have hown : s.vm.findClass RX7 = some m.cls := hown
  have hS : va_S A s.heap s.heap [] := va_S.rf
  have hi6 : ∀ w ∈ wsX60, w ∈ wsX7_partTold := by decide +kernel
  have hi7 : ∀ w ∈ wsX70, w ∈ wsX7_partTold := by decide +kernel
  have hl : lv_has ls 5 [(0, .ref z), (1, .int (nI k)), (2, .int (nI q9))] := hl
  refine lv_iconst (v := (0 : Int32)) hx hb dX7_partTold_0 (by decide) ?_
  refine lv_istore_n (lv' := [(3, .int (0 : Int32)), (0, .ref z), (1, .int (nI k)), (2, .int (nI q9))]) hx hb dX7_partTold_1 rfl hl (by decide) rfl (fun ls hl => ?_)
  refine lv_iconst (v := (0 : Int32)) hx hb dX7_partTold_2 (by decide) ?_
  refine lv_istore (lv' := [(4, .int (0 : Int32)), (3, .int (0 : Int32)), (0, .ref z), (1, .int (nI k)), (2, .int (nI q9))]) hx hb dX7_partTold_3 hl (by decide) rfl (fun ls hl => ?_)
  refine LPP (σ := Nat) (I := fun i H locs ls => i ≤ np ∧ va_P D vwCl [(z, .inr (7, [.int th, .ref z1, .ref z2, .ref z3, .int (nI np), .ref z4, .ref z5, .ref z6, .int (nI nj), .ref z7, .ref q, .ref r])), (z4, .inl (Y 0, 5, .inl pa)), (q, .inr (6, [.int (nI tm), .int wt, .ref q1, .ref q2, .ref q3])), (q1, .inl (Y 0, 20, .inl sn)), (q2, .inl (Y 0, 20, .inl ic))] H ∧ va_D A [(z, .inr (7, [.int th, .ref z1, .ref z2, .ref z3, .int (nI np), .ref z4, .ref z5, .ref z6, .int (nI nj), .ref z7, .ref q, .ref r])), (z4, .inl (Y 0, 5, .inl pa)), (q, .inr (6, [.int (nI tm), .int wt, .ref q1, .ref q2, .ref q3])), (q1, .inl (Y 0, 20, .inl sn)), (q2, .inl (Y 0, 20, .inl ic))] ∧ va_S A s.heap H locs ∧ lv_has ls 5 [(0, .ref z), (1, .int (nI k)), (2, .int (nI q9)), (3, .int (cntU pa (nI k) i)), (4, .int (nI i))]) (μ := fun i => np - i) (cl := fun i => 0) (sl := fun i => 0) (fun i ih_5 H locs ls hI => ?_) 0 _ _ _ ⟨by omega, hP, hD, hS, lv_sub hl [2, 3, 4, 1, 0] rfl⟩
  obtain ⟨hi, hP, hD, hS, hl⟩ := hI
  refine lv_iload hx hb dX7_partTold_5 (lv_at hl 4 rfl) ?_
  refine lv_aload_n hx hb dX7_partTold_7 rfl (lv_at hl 0 rfl) ?_
  refine va_get (D := D) (ci := 7) (v := .int (nI np)) (C := RX7) (T := TX7) (N := 12) hx hb hts hi7 hown hKN.1 hP 0 rfl rfl 4 (by decide) (hts (.fieldLink RX7 49 "SnowPumpsModel" "pumps" "I") (by decide +kernel)) (fun _ h9 => h9) rfl dX7_partTold_8 ?_
  refine lv_icmp_ge (tgt := 39) hx hb dX7_partTold_11 (by decide) (fun c_11 => ?_) (fun c_11 => ?_)
  · have hlt := ngl (N := np) (by first | decide | omega) (by omega) c_11
    obtain rfl : np = i := by omega
    refine lv_iload_n hx hb dX7_partTold_39 rfl (lv_at hl 2 rfl) ?_
    refine lv_if_ne (tgt := 55) hx hb dX7_partTold_40 (by decide) (fun c_40 => ?_) (fun c_40 => ?_)
    · have hq0 : ¬ q9 = 0 := fun h9 => c_40 (by rw [h9]; rfl)
      refine lv_iload_n hx hb dX7_partTold_55 rfl (lv_at hl 2 rfl) ?_
      refine lv_iconst (v := (1 : Int32)) hx hb dX7_partTold_56 (by decide) ?_
      refine lv_icmp_ne (tgt := 72) hx hb dX7_partTold_57 (by decide) (fun c_57 => ?_) (fun c_57 => ?_)
      · have hq1 : ¬ q9 = 1 := fun h9 => c_57 (by rw [h9]; rfl)
        refine lv_iload_n hx hb dX7_partTold_72 rfl (lv_at hl 2 rfl) ?_
        refine lv_iconst (v := (2 : Int32)) hx hb dX7_partTold_73 (by decide) ?_
        refine lv_icmp_ne (tgt := 81) hx hb dX7_partTold_74 (by decide) (fun c_74 => ?_) (fun c_74 => ?_)
        · have hq2 : ¬ q9 = 2 := fun h9 => c_74 (by rw [h9]; rfl)
          obtain rfl : 3 = q9 := by omega
          refine lv_aload_n hx hb dX7_partTold_81 rfl (lv_at hl 0 rfl) ?_
          refine va_get (D := D) (ci := 7) (v := .ref q) (C := RX7) (T := TX7) (N := 12) hx hb hts hi7 hown hKN.1 hP 0 rfl rfl 10 (by decide) (hts (.fieldLink RX7 34 "SnowPumpsModel" "s" "LSnowPumpsModel$State;") (by decide +kernel)) (fun _ h9 => h9) rfl dX7_partTold_82 ?_
          refine lv_iload_n hx hb dX7_partTold_85 rfl (lv_at hl 1 rfl) ?_
          refine cVi (As := [.int (nI k)]) (rest := []) (ws' := [(z, .inr (7, [.int th, .ref z1, .ref z2, .ref z3, .int (nI np), .ref z4, .ref z5, .ref z6, .int (nI nj), .ref z7, .ref q, .ref r])), (z4, .inl (Y 0, 5, .inl pa)), (q, .inr (6, [.int (nI tm), .int wt, .ref q1, .ref q2, .ref q3])), (q1, .inl (Y 0, 20, .inl sn)), (q2, .inl (Y 0, 20, .inl ic))]) ⟨hx, hb, hml, hown, hts⟩ (kX6_isBad l D Y _ q q1 q2 q3 sn ic wt k (nI tm) (by first | assumption | omega)) (cwV 1 hts gX7_partTold_X6_isBad rfl rfl rfl (by decide +kernel) ⟨Nat.le_of_ble_eq_true rfl, Nat.le_of_ble_eq_true rfl⟩) hKN hP hD hS hA [2, 3, 4] [0, 1] [0, 1, 2, 3, 4] rfl (by decide) rfl rfl 2 6 rfl rfl rfl rfl hl.1 (Nat.le_of_ble_eq_true rfl) dX7_partTold_86 ⟨Nat.le_of_ble_eq_true rfl, Nat.le_of_ble_eq_true rfl⟩ (fun H locs hP hD hS => ?_)
          refine lv_if_eq (tgt := 96) hx hb dX7_partTold_89 (by decide) (fun c_89 => ?_) (fun c_89 => ?_)
          · refine lv_iconst (v := (0 : Int32)) hx hb dX7_partTold_96 (by decide) ?_
            exact eI hx hb hr hlk hP hD hS (by rfl) (by first | rfl | exact c_89.symm | exact (bi_t (bi_n c_89)).symm) (by exact Nat.le_of_ble_eq_true rfl) (by exact Nat.le_of_ble_eq_true rfl) dX7_partTold_97
          · refine lv_iconst (v := (1 : Int32)) hx hb dX7_partTold_92 (by decide) ?_
            refine lv_goto (tgt := 97) hx hb dX7_partTold_93 (by decide) ?_
            exact eI hx hb hr hlk hP hD hS (by rfl) (by first | rfl | exact c_89.symm | exact (bi_t (bi_n c_89)).symm) (by exact Nat.le_of_ble_eq_true rfl) (by exact Nat.le_of_ble_eq_true rfl) dX7_partTold_97
        · obtain rfl : 2 = q9 := ((nI_eq (b := 2) (by omega) (by omega)).mp c_74).symm
          refine lv_iload_n hx hb dX7_partTold_77 rfl (lv_at hl 3 rfl) ?_
          refine lv_goto (tgt := 97) hx hb dX7_partTold_78 (by decide) ?_
          exact eI hx hb hr hlk hP hD hS (by rfl) (by first | rfl | exact c_89.symm | exact (bi_t (bi_n c_89)).symm) (by exact Nat.le_of_ble_eq_true rfl) (by exact Nat.le_of_ble_eq_true rfl) dX7_partTold_97
      · obtain rfl : 1 = q9 := ((nI_eq (b := 1) (by omega) (by omega)).mp c_57).symm
        refine lv_aload_n hx hb dX7_partTold_60 rfl (lv_at hl 0 rfl) ?_
        refine va_get (D := D) (ci := 7) (v := .ref q) (C := RX7) (T := TX7) (N := 12) hx hb hts hi7 hown hKN.1 hP 0 rfl rfl 10 (by decide) (hts (.fieldLink RX7 34 "SnowPumpsModel" "s" "LSnowPumpsModel$State;") (by decide +kernel)) (fun _ h9 => h9) rfl dX7_partTold_61 ?_
        refine va_getN (D := D) (ci := 6) (v := .ref q2) (C := RX6) (T := TX6) (N := 5) hx hb hts hi6 hown hKN.1 hP 2 rfl rfl 3 (by decide) (hKN.2.before 11 rfl) (fun _ h9 => h9) rfl dX7_partTold_64 ?_
        refine lv_iload_n hx hb dX7_partTold_67 rfl (lv_at hl 1 rfl) ?_
        refine ia hx hb hKN.1 hP 4 0 rfl rfl k (by rfl) (by omega) (by first | decide | assumption | omega) dX7_partTold_68 ?_
        refine lv_goto (tgt := 97) hx hb dX7_partTold_69 (by decide) ?_
        exact eI hx hb hr hlk hP hD hS (by rfl) (by first | rfl | exact c_89.symm | exact (bi_t (bi_n c_89)).symm) (by exact Nat.le_of_ble_eq_true rfl) (by exact Nat.le_of_ble_eq_true rfl) dX7_partTold_97
    · obtain rfl : 0 = q9 := ((nI_eq (b := 0) (by omega) (by omega)).mp c_40).symm
      refine lv_aload_n hx hb dX7_partTold_43 rfl (lv_at hl 0 rfl) ?_
      refine va_get (D := D) (ci := 7) (v := .ref q) (C := RX7) (T := TX7) (N := 12) hx hb hts hi7 hown hKN.1 hP 0 rfl rfl 10 (by decide) (hts (.fieldLink RX7 34 "SnowPumpsModel" "s" "LSnowPumpsModel$State;") (by decide +kernel)) (fun _ h9 => h9) rfl dX7_partTold_44 ?_
      refine va_getN (D := D) (ci := 6) (v := .ref q1) (C := RX6) (T := TX6) (N := 5) hx hb hts hi6 hown hKN.1 hP 2 rfl rfl 2 (by decide) (hKN.2.before 10 rfl) (fun _ h9 => h9) rfl dX7_partTold_47 ?_
      refine lv_iload_n hx hb dX7_partTold_50 rfl (lv_at hl 1 rfl) ?_
      refine ia hx hb hKN.1 hP 3 0 rfl rfl k (by rfl) (by omega) (by first | decide | assumption | omega) dX7_partTold_51 ?_
      refine lv_goto (tgt := 97) hx hb dX7_partTold_52 (by decide) ?_
      exact eI hx hb hr hlk hP hD hS (by rfl) (by first | rfl | exact c_89.symm | exact (bi_t (bi_n c_89)).symm) (by exact Nat.le_of_ble_eq_true rfl) (by exact Nat.le_of_ble_eq_true rfl) dX7_partTold_97
  · have hlt := nge (N := np) (by first | decide | omega) (by omega) c_11
    refine lv_iload_n hx hb dX7_partTold_14 rfl (lv_at hl 3 rfl) ?_
    refine lv_aload_n hx hb dX7_partTold_15 rfl (lv_at hl 0 rfl) ?_
    refine va_get (D := D) (ci := 7) (v := .ref z4) (C := RX7) (T := TX7) (N := 12) hx hb hts hi7 hown hKN.1 hP 0 rfl rfl 5 (by decide) (hts (.fieldLink RX7 19 "SnowPumpsModel" "part" "[I") (by decide +kernel)) (fun _ h9 => h9) rfl dX7_partTold_16 ?_
    refine lv_iload hx hb dX7_partTold_19 (lv_at hl 4 rfl) ?_
    refine ia hx hb hKN.1 hP 1 0 rfl rfl i (by rfl) (by omega) (by first | decide | assumption | omega) dX7_partTold_21 ?_
    refine lv_iload_n hx hb dX7_partTold_22 rfl (lv_at hl 1 rfl) ?_
    refine lv_icmp_ne (tgt := 30) hx hb dX7_partTold_23 (by decide) (fun c_23 => ?_) (fun c_23 => ?_)
    · refine lv_iconst (v := (0 : Int32)) hx hb dX7_partTold_30 (by decide) ?_
      refine lv_iadd hx hb dX7_partTold_31 ?_
      refine lv_eqi (y := cntU pa (nI k) (i + 1)) (by first | exact cnt_f c_23 | exact (if_pos c_23).symm) ?_
      refine lv_istore_n (lv' := [(3, .int (cntU pa (nI k) (i + 1))), (0, .ref z), (1, .int (nI k)), (2, .int (nI q9)), (4, .int (nI i))]) hx hb dX7_partTold_32 rfl hl (by decide) rfl (fun ls hl => ?_)
      refine lv_iinc (v := (nI (i + 1))) (lv' := [(4, .int (nI (i + 1))), (3, .int (cntU pa (nI k) (i + 1))), (0, .ref z), (1, .int (nI k)), (2, .int (nI q9))]) hx hb dX7_partTold_33 hl (k := 4) rfl (by exact nI_1 _) (by decide) rfl (fun ls hl => ?_)
      refine lv_goto (tgt := 5) hx hb dX7_partTold_36 (by decide) ?_
      exact ih_5 (i + 1) _ _ _ (show np - (i + 1) < np - i by omega) ⟨by omega, hP, hD, hS, lv_sub hl [2, 3, 4, 1, 0] rfl⟩
    · refine lv_iconst (v := (1 : Int32)) hx hb dX7_partTold_26 (by decide) ?_
      refine lv_goto (tgt := 31) hx hb dX7_partTold_27 (by decide) ?_
      refine lv_iadd hx hb dX7_partTold_31 ?_
      refine lv_eqi (y := cntU pa (nI k) (i + 1)) (by first | exact cnt_f c_23 | exact (if_pos c_23).symm) ?_
      refine lv_istore_n (lv' := [(3, .int (cntU pa (nI k) (i + 1))), (0, .ref z), (1, .int (nI k)), (2, .int (nI q9)), (4, .int (nI i))]) hx hb dX7_partTold_32 rfl hl (by decide) rfl (fun ls hl => ?_)
      refine lv_iinc (v := (nI (i + 1))) (lv' := [(4, .int (nI (i + 1))), (3, .int (cntU pa (nI k) (i + 1))), (0, .ref z), (1, .int (nI k)), (2, .int (nI q9))]) hx hb dX7_partTold_33 hl (k := 4) rfl (by exact nI_1 _) (by decide) rfl (fun ls hl => ?_)
      refine lv_goto (tgt := 5) hx hb dX7_partTold_36 (by decide) ?_
      exact ih_5 (i + 1) _ _ _ (show np - (i + 1) < np - i by omega) ⟨by omega, hP, hD, hS, lv_sub hl [2, 3, 4, 1, 0] rfl⟩
abbrev rm_kX7_counted : Room := { frames := 1, cells := 1, slots := 11, locals := 25 }
set_option maxHeartbeats 4000000 in
set_option maxRecDepth 100000 in
theorem kX7_counted (l : Launch) (D : va_G) (Y : Nat → ClassId) (sz : Nat) (z : Nat) (z1 : Nat) (z2 : Nat) (z3 : Nat) (z4 : Nat) (z5 : Nat) (z6 : Nat) (z7 : Nat) (q : Nat) (r : Nat) (g : Nat) (g1 : Nat) (g2 : Nat) (g3 : Nat) (wa : fN) (da : fN) (gu : fN) (sn : fN) (ic : fN) (ru : fN) (jr : fN) (ln : fN) (pt : fN) (fa : fN) (ho : fN) (wt : Int32) (th : Int32) (tm : Nat) (np : Nat) (nj : Nat) (k : Nat) (hk : k < 11) (htm : tm < 2 ^ 31) (hnj : nj ≤ 30) (hfa : sumU fa nj = sumU fa 30) : MI l yX7_counted wsX7_counted rm_kX7_counted D Y [.ref z, .ref g, .int (nI k)] sz [(z, .inr (7, [.int th, .ref z1, .ref z2, .ref z3, .int (nI np), .ref z4, .ref z5, .ref z6, .int (nI nj), .ref z7, .ref q, .ref r])), (z1, .inl (Y 0, 24, .inl wa)), (z2, .inl (Y 0, 24, .inl da)), (z3, .inl (Y 0, 24, .inl gu)), (z7, .inl (Y 0, 150, .inl (bkU jr ln pt fa ho))), (g, .inr (6, [.int (nI tm), .int wt, .ref g1, .ref g2, .ref g3])), (g1, .inl (Y 0, 20, .inl sn)), (g2, .inl (Y 0, 20, .inl ic)), (g3, .inl (Y 0, 5, .inl ru))] (cntsU wa da gu sn ic ru fa wt tm np nj k) [(z, .inr (7, [.int th, .ref z1, .ref z2, .ref z3, .int (nI np), .ref z4, .ref z5, .ref z6, .int (nI nj), .ref z7, .ref q, .ref r])), (z1, .inl (Y 0, 24, .inl wa)), (z2, .inl (Y 0, 24, .inl da)), (z3, .inl (Y 0, 24, .inl gu)), (z7, .inl (Y 0, 150, .inl (bkU jr ln pt fa ho))), (g, .inr (6, [.int (nI tm), .int wt, .ref g1, .ref g2, .ref g3])), (g1, .inl (Y 0, 20, .inl sn)), (g2, .inl (Y 0, 20, .inl ic)), (g3, .inl (Y 0, 5, .inl ru))] 1 11 := by
  refine pcW_start (cc := cX7_counted) (maxL := 6) (ret := (some .int)) (Qc := fun A => va_Qi (fun (r : Int32) (_ : Unit) => r = (cntsU wa da gu sn ic ru fa wt tm np nj k)) (qW D A [(z, .inr (7, [.int th, .ref z1, .ref z2, .ref z3, .int (nI np), .ref z4, .ref z5, .ref z6, .int (nI nj), .ref z7, .ref q, .ref r])), (z1, .inl (Y 0, 24, .inl wa)), (z2, .inl (Y 0, 24, .inl da)), (z3, .inl (Y 0, 24, .inl gu)), (z7, .inl (Y 0, 150, .inl (bkU jr ln pt fa ho))), (g, .inr (6, [.int (nI tm), .int wt, .ref g1, .ref g2, .ref g3])), (g1, .inl (Y 0, 20, .inl sn)), (g2, .inl (Y 0, 20, .inl ic)), (g3, .inl (Y 0, 5, .inl ru))]) A) (by decide) rfl (Nat.le_of_ble_eq_true rfl) ?_
  intro p e s m below meth c A ls hE hKN hA hP hD hl
  obtain ⟨hx, hb, hr, hml, hown, hts, hlk, hin⟩ := hE
  have hown : s.vm.findClass RX7 = some m.cls := hown
  have hS : va_S A s.heap s.heap [] := va_S.rf
  have hi6 : ∀ w ∈ wsX60, w ∈ wsX7_counted := by decide +kernel
  have hi7 : ∀ w ∈ wsX70, w ∈ wsX7_counted := by decide +kernel
  have hl : lv_has ls 6 [(0, .ref z), (1, .ref g), (2, .int (nI k))] := hl
  refine lv_iconst (v := (0 : Int32)) hx hb dX7_counted_0 (by decide) ?_
  refine lv_istore_n (lv' := [(3, .int (0 : Int32)), (0, .ref z), (1, .ref g), (2, .int (nI k))]) hx hb dX7_counted_1 rfl hl (by decide) rfl (fun ls hl => ?_)
  refine lv_iconst (v := (0 : Int32)) hx hb dX7_counted_2 (by decide) ?_
  refine lv_istore (lv' := [(4, .int (0 : Int32)), (3, .int (0 : Int32)), (0, .ref z), (1, .ref g), (2, .int (nI k))]) hx hb dX7_counted_3 hl (by decide) rfl (fun ls hl => ?_)
  refine LPP (σ := Nat) (I := fun i H locs ls => i ≤ nj ∧ va_P D vwCl [(z, .inr (7, [.int th, .ref z1, .ref z2, .ref z3, .int (nI np), .ref z4, .ref z5, .ref z6, .int (nI nj), .ref z7, .ref q, .ref r])), (z1, .inl (Y 0, 24, .inl wa)), (z2, .inl (Y 0, 24, .inl da)), (z3, .inl (Y 0, 24, .inl gu)), (z7, .inl (Y 0, 150, .inl (bkU jr ln pt fa ho))), (g, .inr (6, [.int (nI tm), .int wt, .ref g1, .ref g2, .ref g3])), (g1, .inl (Y 0, 20, .inl sn)), (g2, .inl (Y 0, 20, .inl ic)), (g3, .inl (Y 0, 5, .inl ru))] H ∧ va_D A [(z, .inr (7, [.int th, .ref z1, .ref z2, .ref z3, .int (nI np), .ref z4, .ref z5, .ref z6, .int (nI nj), .ref z7, .ref q, .ref r])), (z1, .inl (Y 0, 24, .inl wa)), (z2, .inl (Y 0, 24, .inl da)), (z3, .inl (Y 0, 24, .inl gu)), (z7, .inl (Y 0, 150, .inl (bkU jr ln pt fa ho))), (g, .inr (6, [.int (nI tm), .int wt, .ref g1, .ref g2, .ref g3])), (g1, .inl (Y 0, 20, .inl sn)), (g2, .inl (Y 0, 20, .inl ic)), (g3, .inl (Y 0, 5, .inl ru))] ∧ va_S A s.heap H locs ∧ lv_has ls 6 [(0, .ref z), (1, .ref g), (2, .int (nI k)), (3, .int (sumU fa i)), (4, .int (nI i))]) (μ := fun i => nj - i) (cl := fun i => 0) (sl := fun i => 0) (fun i ih_5 H locs ls hI => ?_) 0 _ _ _ ⟨by omega, hP, hD, hS, lv_sub hl [2, 3, 4, 1, 0] rfl⟩
  obtain ⟨hi, hP, hD, hS, hl⟩ := hI
  refine lv_iload hx hb dX7_counted_5 (lv_at hl 4 rfl) ?_
  refine lv_aload_n hx hb dX7_counted_7 rfl (lv_at hl 0 rfl) ?_
  refine va_get (D := D) (ci := 7) (v := .int (nI nj)) (C := RX7) (T := TX7) (N := 12) hx hb hts hi7 hown hKN.1 hP 0 rfl rfl 8 (by decide) (hts (.fieldLink RX7 102 "SnowPumpsModel" "jumps" "I") (by decide +kernel)) (fun _ h9 => h9) rfl dX7_counted_8 ?_
  refine lv_icmp_ge (tgt := 34) hx hb dX7_counted_11 (by decide) (fun c_11 => ?_) (fun c_11 => ?_)
  · have hlt := ngl (N := nj) (by first | decide | omega) (by omega) c_11
    obtain rfl : nj = i := by omega
    refine lv_aload_n hx hb dX7_counted_34 rfl (lv_at hl 1 rfl) ?_
    refine va_getN (D := D) (ci := 6) (v := .int (nI tm)) (C := RX6) (T := TX6) (N := 5) hx hb hts hi6 hown hKN.1 hP 5 rfl rfl 0 (by decide) (hKN.2.before 8 rfl) (fun _ h9 => h9) rfl dX7_counted_35 ?_
    refine lv_bipush (v := (24 : Int32)) hx hb dX7_counted_38 (by decide) ?_
    refine lv_irem hx hb dX7_counted_40 (by decide) ?_
    refine lv_eqi (y := nI (tm % 24)) (by exact pk_rem htm (by decide) (by decide)) ?_
    refine lv_istore (lv' := [(4, .int (nI (tm % 24))), (0, .ref z), (1, .ref g), (2, .int (nI k)), (3, .int (sumU fa nj))]) hx hb dX7_counted_41 hl (by decide) rfl (fun ls hl => ?_)
    refine lv_bipush (v := (11 : Int32)) hx hb dX7_counted_43 (by decide) ?_
    refine nA0 hx hb (hts (.arrayClass .int) (by decide +kernel)) hKN.1 hP hD hS hA (n := (11 : Int32)) (N' := 11) (by decide) (by decide) (by decide) (by exact Nat.le_of_ble_eq_true rfl) (by exact Nat.le_of_ble_eq_true rfl) dX7_counted_45 (fun y9 H hP hD hS => ?_)
    have hP : va_P D vwCl [(z, .inr (7, [.int th, .ref z1, .ref z2, .ref z3, .int (nI np), .ref z4, .ref z5, .ref z6, .int (nI nj), .ref z7, .ref q, .ref r])), (z1, .inl (Y 0, 24, .inl wa)), (z2, .inl (Y 0, 24, .inl da)), (z3, .inl (Y 0, 24, .inl gu)), (z7, .inl (Y 0, 150, .inl (bkU jr ln pt fa ho))), (g, .inr (6, [.int (nI tm), .int wt, .ref g1, .ref g2, .ref g3])), (g1, .inl (Y 0, 20, .inl sn)), (g2, .inl (Y 0, 20, .inl ic)), (g3, .inl (Y 0, 5, .inl ru)), (y9, .inl (Y 0, 11, .inl (fun _ => 0)))] _ := hP
    have hD : va_D A [(z, .inr (7, [.int th, .ref z1, .ref z2, .ref z3, .int (nI np), .ref z4, .ref z5, .ref z6, .int (nI nj), .ref z7, .ref q, .ref r])), (z1, .inl (Y 0, 24, .inl wa)), (z2, .inl (Y 0, 24, .inl da)), (z3, .inl (Y 0, 24, .inl gu)), (z7, .inl (Y 0, 150, .inl (bkU jr ln pt fa ho))), (g, .inr (6, [.int (nI tm), .int wt, .ref g1, .ref g2, .ref g3])), (g1, .inl (Y 0, 20, .inl sn)), (g2, .inl (Y 0, 20, .inl ic)), (g3, .inl (Y 0, 5, .inl ru)), (y9, .inl (Y 0, 11, .inl (fun _ => 0)))] := hD
    refine lv_dup hx hb dX7_counted_47 rfl ?_
    refine lv_iconst (v := (0 : Int32)) hx hb dX7_counted_48 (by decide) ?_
    refine lv_aload_n hx hb dX7_counted_49 rfl (lv_at hl 2 rfl) ?_
    refine va_getN (D := D) (ci := 6) (v := .int (nI tm)) (C := RX6) (T := TX6) (N := 5) hx hb hts hi6 hown hKN.1 hP 5 rfl rfl 0 (by decide) (hKN.2.before 8 rfl) (fun _ h9 => h9) rfl dX7_counted_50 ?_
    refine is hx hb hKN.1 hP hD hS 9 0 rfl rfl 0 (by rfl) (by decide) (by first | decide | assumption | omega) dX7_counted_53 (fun H locs hP hD hS => ?_)
    have hP : va_P D vwCl [(z, .inr (7, [.int th, .ref z1, .ref z2, .ref z3, .int (nI np), .ref z4, .ref z5, .ref z6, .int (nI nj), .ref z7, .ref q, .ref r])), (z1, .inl (Y 0, 24, .inl wa)), (z2, .inl (Y 0, 24, .inl da)), (z3, .inl (Y 0, 24, .inl gu)), (z7, .inl (Y 0, 150, .inl (bkU jr ln pt fa ho))), (g, .inr (6, [.int (nI tm), .int wt, .ref g1, .ref g2, .ref g3])), (g1, .inl (Y 0, 20, .inl sn)), (g2, .inl (Y 0, 20, .inl ic)), (g3, .inl (Y 0, 5, .inl ru)), (y9, .inl (Y 0, 11, .inl (upd (fun _ => 0) 0 (nI tm))))] _ := hP
    have hD : va_D A [(z, .inr (7, [.int th, .ref z1, .ref z2, .ref z3, .int (nI np), .ref z4, .ref z5, .ref z6, .int (nI nj), .ref z7, .ref q, .ref r])), (z1, .inl (Y 0, 24, .inl wa)), (z2, .inl (Y 0, 24, .inl da)), (z3, .inl (Y 0, 24, .inl gu)), (z7, .inl (Y 0, 150, .inl (bkU jr ln pt fa ho))), (g, .inr (6, [.int (nI tm), .int wt, .ref g1, .ref g2, .ref g3])), (g1, .inl (Y 0, 20, .inl sn)), (g2, .inl (Y 0, 20, .inl ic)), (g3, .inl (Y 0, 5, .inl ru)), (y9, .inl (Y 0, 11, .inl (upd (fun _ => 0) 0 (nI tm))))] := hD
    refine lv_dup hx hb dX7_counted_54 rfl ?_
    refine lv_iconst (v := (1 : Int32)) hx hb dX7_counted_55 (by decide) ?_
    refine lv_iload hx hb dX7_counted_56 (lv_at hl 0 rfl) ?_
    refine is hx hb hKN.1 hP hD hS 9 0 rfl rfl 1 (by rfl) (by decide) (by first | decide | assumption | omega) dX7_counted_58 (fun H locs hP hD hS => ?_)
    have hP : va_P D vwCl [(z, .inr (7, [.int th, .ref z1, .ref z2, .ref z3, .int (nI np), .ref z4, .ref z5, .ref z6, .int (nI nj), .ref z7, .ref q, .ref r])), (z1, .inl (Y 0, 24, .inl wa)), (z2, .inl (Y 0, 24, .inl da)), (z3, .inl (Y 0, 24, .inl gu)), (z7, .inl (Y 0, 150, .inl (bkU jr ln pt fa ho))), (g, .inr (6, [.int (nI tm), .int wt, .ref g1, .ref g2, .ref g3])), (g1, .inl (Y 0, 20, .inl sn)), (g2, .inl (Y 0, 20, .inl ic)), (g3, .inl (Y 0, 5, .inl ru)), (y9, .inl (Y 0, 11, .inl (upd (upd (fun _ => 0) 0 (nI tm)) 1 (nI (tm % 24)))))] _ := hP
    have hD : va_D A [(z, .inr (7, [.int th, .ref z1, .ref z2, .ref z3, .int (nI np), .ref z4, .ref z5, .ref z6, .int (nI nj), .ref z7, .ref q, .ref r])), (z1, .inl (Y 0, 24, .inl wa)), (z2, .inl (Y 0, 24, .inl da)), (z3, .inl (Y 0, 24, .inl gu)), (z7, .inl (Y 0, 150, .inl (bkU jr ln pt fa ho))), (g, .inr (6, [.int (nI tm), .int wt, .ref g1, .ref g2, .ref g3])), (g1, .inl (Y 0, 20, .inl sn)), (g2, .inl (Y 0, 20, .inl ic)), (g3, .inl (Y 0, 5, .inl ru)), (y9, .inl (Y 0, 11, .inl (upd (upd (fun _ => 0) 0 (nI tm)) 1 (nI (tm % 24)))))] := hD
    refine lv_dup hx hb dX7_counted_59 rfl ?_
    refine lv_iconst (v := (2 : Int32)) hx hb dX7_counted_60 (by decide) ?_
    refine lv_aload_n hx hb dX7_counted_61 rfl (lv_at hl 1 rfl) ?_
    refine lv_iload hx hb dX7_counted_62 (lv_at hl 0 rfl) ?_
    refine cVi (As := [.int (nI (tm % 24))]) (rest := [.int (2 : Int32), .ref y9, .ref y9]) (ws' := [(z, .inr (7, [.int th, .ref z1, .ref z2, .ref z3, .int (nI np), .ref z4, .ref z5, .ref z6, .int (nI nj), .ref z7, .ref q, .ref r])), (z1, .inl (Y 0, 24, .inl wa)), (z2, .inl (Y 0, 24, .inl da)), (z3, .inl (Y 0, 24, .inl gu)), (z7, .inl (Y 0, 150, .inl (bkU jr ln pt fa ho))), (g, .inr (6, [.int (nI tm), .int wt, .ref g1, .ref g2, .ref g3])), (g1, .inl (Y 0, 20, .inl sn)), (g2, .inl (Y 0, 20, .inl ic)), (g3, .inl (Y 0, 5, .inl ru)), (y9, .inl (Y 0, 11, .inl (upd (upd (fun _ => 0) 0 (nI tm)) 1 (nI (tm % 24)))))]) ⟨hx, hb, hml, hown, hts⟩ (kX7_wet l D Y _ z z1 z2 z3 z4 z5 z6 z7 q r wa da th np nj (tm % 24) (by first | assumption | omega)) (cwV 1 hts gX7_counted_X7_wet rfl rfl rfl (by decide +kernel) ⟨Nat.le_of_ble_eq_true rfl, Nat.le_of_ble_eq_true rfl⟩) hKN hP hD hS hA [0, 1, 2] [3, 4, 5, 6, 7, 8, 9] [7, 8, 9, 0, 1, 2, 3, 4, 5, 6] rfl (by decide) rfl rfl 0 7 rfl rfl rfl rfl hl.1 (Nat.le_of_ble_eq_true rfl) dX7_counted_64 ⟨Nat.le_of_ble_eq_true rfl, Nat.le_of_ble_eq_true rfl⟩ (fun H locs hP hD hS => ?_)
    refine is hx hb hKN.1 hP hD hS 9 0 rfl rfl 2 (by rfl) (by decide) (by first | decide | assumption | omega) dX7_counted_67 (fun H locs hP hD hS => ?_)
    have hP : va_P D vwCl [(z, .inr (7, [.int th, .ref z1, .ref z2, .ref z3, .int (nI np), .ref z4, .ref z5, .ref z6, .int (nI nj), .ref z7, .ref q, .ref r])), (z1, .inl (Y 0, 24, .inl wa)), (z2, .inl (Y 0, 24, .inl da)), (z3, .inl (Y 0, 24, .inl gu)), (z7, .inl (Y 0, 150, .inl (bkU jr ln pt fa ho))), (g, .inr (6, [.int (nI tm), .int wt, .ref g1, .ref g2, .ref g3])), (g1, .inl (Y 0, 20, .inl sn)), (g2, .inl (Y 0, 20, .inl ic)), (g3, .inl (Y 0, 5, .inl ru)), (y9, .inl (Y 0, 11, .inl (upd (upd (upd (fun _ => 0) 0 (nI tm)) 1 (nI (tm % 24))) 2 (wetU wa da (tm % 24)))))] _ := hP
    have hD : va_D A [(z, .inr (7, [.int th, .ref z1, .ref z2, .ref z3, .int (nI np), .ref z4, .ref z5, .ref z6, .int (nI nj), .ref z7, .ref q, .ref r])), (z1, .inl (Y 0, 24, .inl wa)), (z2, .inl (Y 0, 24, .inl da)), (z3, .inl (Y 0, 24, .inl gu)), (z7, .inl (Y 0, 150, .inl (bkU jr ln pt fa ho))), (g, .inr (6, [.int (nI tm), .int wt, .ref g1, .ref g2, .ref g3])), (g1, .inl (Y 0, 20, .inl sn)), (g2, .inl (Y 0, 20, .inl ic)), (g3, .inl (Y 0, 5, .inl ru)), (y9, .inl (Y 0, 11, .inl (upd (upd (upd (fun _ => 0) 0 (nI tm)) 1 (nI (tm % 24))) 2 (wetU wa da (tm % 24)))))] := hD
    refine lv_dup hx hb dX7_counted_68 rfl ?_
    refine lv_iconst (v := (3 : Int32)) hx hb dX7_counted_69 (by decide) ?_
    refine lv_aload_n hx hb dX7_counted_70 rfl (lv_at hl 1 rfl) ?_
    refine va_get (D := D) (ci := 7) (v := .ref z3) (C := RX7) (T := TX7) (N := 12) hx hb hts hi7 hown hKN.1 hP 0 rfl rfl 3 (by decide) (hts (.fieldLink RX7 16 "SnowPumpsModel" "gust" "[I") (by decide +kernel)) (fun _ h9 => h9) rfl dX7_counted_71 ?_
    refine lv_iload hx hb dX7_counted_74 (lv_at hl 0 rfl) ?_
    refine ia hx hb hKN.1 hP 3 0 rfl rfl (tm % 24) (by rfl) (by omega) (by first | decide | assumption | omega) dX7_counted_76 ?_
    refine is hx hb hKN.1 hP hD hS 9 0 rfl rfl 3 (by rfl) (by decide) (by first | decide | assumption | omega) dX7_counted_77 (fun H locs hP hD hS => ?_)
    have hP : va_P D vwCl [(z, .inr (7, [.int th, .ref z1, .ref z2, .ref z3, .int (nI np), .ref z4, .ref z5, .ref z6, .int (nI nj), .ref z7, .ref q, .ref r])), (z1, .inl (Y 0, 24, .inl wa)), (z2, .inl (Y 0, 24, .inl da)), (z3, .inl (Y 0, 24, .inl gu)), (z7, .inl (Y 0, 150, .inl (bkU jr ln pt fa ho))), (g, .inr (6, [.int (nI tm), .int wt, .ref g1, .ref g2, .ref g3])), (g1, .inl (Y 0, 20, .inl sn)), (g2, .inl (Y 0, 20, .inl ic)), (g3, .inl (Y 0, 5, .inl ru)), (y9, .inl (Y 0, 11, .inl (upd (upd (upd (upd (fun _ => 0) 0 (nI tm)) 1 (nI (tm % 24))) 2 (wetU wa da (tm % 24))) 3 (gu (tm % 24)))))] _ := hP
    have hD : va_D A [(z, .inr (7, [.int th, .ref z1, .ref z2, .ref z3, .int (nI np), .ref z4, .ref z5, .ref z6, .int (nI nj), .ref z7, .ref q, .ref r])), (z1, .inl (Y 0, 24, .inl wa)), (z2, .inl (Y 0, 24, .inl da)), (z3, .inl (Y 0, 24, .inl gu)), (z7, .inl (Y 0, 150, .inl (bkU jr ln pt fa ho))), (g, .inr (6, [.int (nI tm), .int wt, .ref g1, .ref g2, .ref g3])), (g1, .inl (Y 0, 20, .inl sn)), (g2, .inl (Y 0, 20, .inl ic)), (g3, .inl (Y 0, 5, .inl ru)), (y9, .inl (Y 0, 11, .inl (upd (upd (upd (upd (fun _ => 0) 0 (nI tm)) 1 (nI (tm % 24))) 2 (wetU wa da (tm % 24))) 3 (gu (tm % 24)))))] := hD
    refine lv_dup hx hb dX7_counted_78 rfl ?_
    refine lv_iconst (v := (4 : Int32)) hx hb dX7_counted_79 (by decide) ?_
    refine lv_aload_n hx hb dX7_counted_80 rfl (lv_at hl 2 rfl) ?_
    refine va_getN (D := D) (ci := 6) (v := .int wt) (C := RX6) (T := TX6) (N := 5) hx hb hts hi6 hown hKN.1 hP 5 rfl rfl 1 (by decide) (hKN.2.before 9 rfl) (fun _ h9 => h9) rfl dX7_counted_81 ?_
    refine is hx hb hKN.1 hP hD hS 9 0 rfl rfl 4 (by rfl) (by decide) (by first | decide | assumption | omega) dX7_counted_84 (fun H locs hP hD hS => ?_)
    have hP : va_P D vwCl [(z, .inr (7, [.int th, .ref z1, .ref z2, .ref z3, .int (nI np), .ref z4, .ref z5, .ref z6, .int (nI nj), .ref z7, .ref q, .ref r])), (z1, .inl (Y 0, 24, .inl wa)), (z2, .inl (Y 0, 24, .inl da)), (z3, .inl (Y 0, 24, .inl gu)), (z7, .inl (Y 0, 150, .inl (bkU jr ln pt fa ho))), (g, .inr (6, [.int (nI tm), .int wt, .ref g1, .ref g2, .ref g3])), (g1, .inl (Y 0, 20, .inl sn)), (g2, .inl (Y 0, 20, .inl ic)), (g3, .inl (Y 0, 5, .inl ru)), (y9, .inl (Y 0, 11, .inl (upd (upd (upd (upd (upd (fun _ => 0) 0 (nI tm)) 1 (nI (tm % 24))) 2 (wetU wa da (tm % 24))) 3 (gu (tm % 24))) 4 wt)))] _ := hP
    have hD : va_D A [(z, .inr (7, [.int th, .ref z1, .ref z2, .ref z3, .int (nI np), .ref z4, .ref z5, .ref z6, .int (nI nj), .ref z7, .ref q, .ref r])), (z1, .inl (Y 0, 24, .inl wa)), (z2, .inl (Y 0, 24, .inl da)), (z3, .inl (Y 0, 24, .inl gu)), (z7, .inl (Y 0, 150, .inl (bkU jr ln pt fa ho))), (g, .inr (6, [.int (nI tm), .int wt, .ref g1, .ref g2, .ref g3])), (g1, .inl (Y 0, 20, .inl sn)), (g2, .inl (Y 0, 20, .inl ic)), (g3, .inl (Y 0, 5, .inl ru)), (y9, .inl (Y 0, 11, .inl (upd (upd (upd (upd (upd (fun _ => 0) 0 (nI tm)) 1 (nI (tm % 24))) 2 (wetU wa da (tm % 24))) 3 (gu (tm % 24))) 4 wt)))] := hD
    refine lv_dup hx hb dX7_counted_85 rfl ?_
    refine lv_iconst (v := (5 : Int32)) hx hb dX7_counted_86 (by decide) ?_
    refine lv_aload_n hx hb dX7_counted_87 rfl (lv_at hl 1 rfl) ?_
    refine va_get (D := D) (ci := 7) (v := .int (nI np)) (C := RX7) (T := TX7) (N := 12) hx hb hts hi7 hown hKN.1 hP 0 rfl rfl 4 (by decide) (hts (.fieldLink RX7 49 "SnowPumpsModel" "pumps" "I") (by decide +kernel)) (fun _ h9 => h9) rfl dX7_counted_88 ?_
    refine is hx hb hKN.1 hP hD hS 9 0 rfl rfl 5 (by rfl) (by decide) (by first | decide | assumption | omega) dX7_counted_91 (fun H locs hP hD hS => ?_)
    have hP : va_P D vwCl [(z, .inr (7, [.int th, .ref z1, .ref z2, .ref z3, .int (nI np), .ref z4, .ref z5, .ref z6, .int (nI nj), .ref z7, .ref q, .ref r])), (z1, .inl (Y 0, 24, .inl wa)), (z2, .inl (Y 0, 24, .inl da)), (z3, .inl (Y 0, 24, .inl gu)), (z7, .inl (Y 0, 150, .inl (bkU jr ln pt fa ho))), (g, .inr (6, [.int (nI tm), .int wt, .ref g1, .ref g2, .ref g3])), (g1, .inl (Y 0, 20, .inl sn)), (g2, .inl (Y 0, 20, .inl ic)), (g3, .inl (Y 0, 5, .inl ru)), (y9, .inl (Y 0, 11, .inl (upd (upd (upd (upd (upd (upd (fun _ => 0) 0 (nI tm)) 1 (nI (tm % 24))) 2 (wetU wa da (tm % 24))) 3 (gu (tm % 24))) 4 wt) 5 (nI np))))] _ := hP
    have hD : va_D A [(z, .inr (7, [.int th, .ref z1, .ref z2, .ref z3, .int (nI np), .ref z4, .ref z5, .ref z6, .int (nI nj), .ref z7, .ref q, .ref r])), (z1, .inl (Y 0, 24, .inl wa)), (z2, .inl (Y 0, 24, .inl da)), (z3, .inl (Y 0, 24, .inl gu)), (z7, .inl (Y 0, 150, .inl (bkU jr ln pt fa ho))), (g, .inr (6, [.int (nI tm), .int wt, .ref g1, .ref g2, .ref g3])), (g1, .inl (Y 0, 20, .inl sn)), (g2, .inl (Y 0, 20, .inl ic)), (g3, .inl (Y 0, 5, .inl ru)), (y9, .inl (Y 0, 11, .inl (upd (upd (upd (upd (upd (upd (fun _ => 0) 0 (nI tm)) 1 (nI (tm % 24))) 2 (wetU wa da (tm % 24))) 3 (gu (tm % 24))) 4 wt) 5 (nI np))))] := hD
    refine lv_dup hx hb dX7_counted_92 rfl ?_
    refine lv_bipush (v := (6 : Int32)) hx hb dX7_counted_93 (by decide) ?_
    refine lv_aload_n hx hb dX7_counted_95 rfl (lv_at hl 2 rfl) ?_
    refine va_getN (D := D) (ci := 6) (v := .ref g3) (C := RX6) (T := TX6) (N := 5) hx hb hts hi6 hown hKN.1 hP 5 rfl rfl 4 (by decide) (hKN.2.before 12 rfl) (fun _ h9 => h9) rfl dX7_counted_96 ?_
    refine cSi (As := [.ref g3]) (rest := [.int (6 : Int32), .ref y9, .ref y9]) (ws' := [(z, .inr (7, [.int th, .ref z1, .ref z2, .ref z3, .int (nI np), .ref z4, .ref z5, .ref z6, .int (nI nj), .ref z7, .ref q, .ref r])), (z1, .inl (Y 0, 24, .inl wa)), (z2, .inl (Y 0, 24, .inl da)), (z3, .inl (Y 0, 24, .inl gu)), (z7, .inl (Y 0, 150, .inl (bkU jr ln pt fa ho))), (g, .inr (6, [.int (nI tm), .int wt, .ref g1, .ref g2, .ref g3])), (g1, .inl (Y 0, 20, .inl sn)), (g2, .inl (Y 0, 20, .inl ic)), (g3, .inl (Y 0, 5, .inl ru)), (y9, .inl (Y 0, 11, .inl (upd (upd (upd (upd (upd (upd (fun _ => 0) 0 (nI tm)) 1 (nI (tm % 24))) 2 (wetU wa da (tm % 24))) 3 (gu (tm % 24))) 4 wt) 5 (nI np))))]) ⟨hx, hb, hml, hown, hts⟩ (kX7_sum l D Y _ g3 5 ru (by first | assumption | omega)) (va_cwS 1 hts gX7_counted_X7_sum rfl rfl rfl (by decide +kernel) ⟨Nat.le_of_ble_eq_true rfl, Nat.le_of_ble_eq_true rfl⟩) hKN hP hD hS hA [8] [0, 1, 2, 3, 4, 5, 6, 7, 9] [0, 1, 2, 3, 4, 5, 6, 7, 9, 8] rfl (by decide) rfl rfl rfl rfl hl.1 (Nat.le_of_ble_eq_true rfl) dX7_counted_99 ⟨Nat.le_of_ble_eq_true rfl, Nat.le_of_ble_eq_true rfl⟩ (fun H locs hP hD hS => ?_)
    refine is hx hb hKN.1 hP hD hS 9 0 rfl rfl 6 (by rfl) (by decide) (by first | decide | assumption | omega) dX7_counted_102 (fun H locs hP hD hS => ?_)
    have hP : va_P D vwCl [(z, .inr (7, [.int th, .ref z1, .ref z2, .ref z3, .int (nI np), .ref z4, .ref z5, .ref z6, .int (nI nj), .ref z7, .ref q, .ref r])), (z1, .inl (Y 0, 24, .inl wa)), (z2, .inl (Y 0, 24, .inl da)), (z3, .inl (Y 0, 24, .inl gu)), (z7, .inl (Y 0, 150, .inl (bkU jr ln pt fa ho))), (g, .inr (6, [.int (nI tm), .int wt, .ref g1, .ref g2, .ref g3])), (g1, .inl (Y 0, 20, .inl sn)), (g2, .inl (Y 0, 20, .inl ic)), (g3, .inl (Y 0, 5, .inl ru)), (y9, .inl (Y 0, 11, .inl (upd (upd (upd (upd (upd (upd (upd (fun _ => 0) 0 (nI tm)) 1 (nI (tm % 24))) 2 (wetU wa da (tm % 24))) 3 (gu (tm % 24))) 4 wt) 5 (nI np)) 6 (sumU ru 5))))] _ := hP
    have hD : va_D A [(z, .inr (7, [.int th, .ref z1, .ref z2, .ref z3, .int (nI np), .ref z4, .ref z5, .ref z6, .int (nI nj), .ref z7, .ref q, .ref r])), (z1, .inl (Y 0, 24, .inl wa)), (z2, .inl (Y 0, 24, .inl da)), (z3, .inl (Y 0, 24, .inl gu)), (z7, .inl (Y 0, 150, .inl (bkU jr ln pt fa ho))), (g, .inr (6, [.int (nI tm), .int wt, .ref g1, .ref g2, .ref g3])), (g1, .inl (Y 0, 20, .inl sn)), (g2, .inl (Y 0, 20, .inl ic)), (g3, .inl (Y 0, 5, .inl ru)), (y9, .inl (Y 0, 11, .inl (upd (upd (upd (upd (upd (upd (upd (fun _ => 0) 0 (nI tm)) 1 (nI (tm % 24))) 2 (wetU wa da (tm % 24))) 3 (gu (tm % 24))) 4 wt) 5 (nI np)) 6 (sumU ru 5))))] := hD
    refine lv_dup hx hb dX7_counted_103 rfl ?_
    refine lv_bipush (v := (7 : Int32)) hx hb dX7_counted_104 (by decide) ?_
    refine lv_aload_n hx hb dX7_counted_106 rfl (lv_at hl 2 rfl) ?_
    refine va_getN (D := D) (ci := 6) (v := .ref g1) (C := RX6) (T := TX6) (N := 5) hx hb hts hi6 hown hKN.1 hP 5 rfl rfl 2 (by decide) (hKN.2.before 10 rfl) (fun _ h9 => h9) rfl dX7_counted_107 ?_
    refine cSi (As := [.ref g1]) (rest := [.int (7 : Int32), .ref y9, .ref y9]) (ws' := [(z, .inr (7, [.int th, .ref z1, .ref z2, .ref z3, .int (nI np), .ref z4, .ref z5, .ref z6, .int (nI nj), .ref z7, .ref q, .ref r])), (z1, .inl (Y 0, 24, .inl wa)), (z2, .inl (Y 0, 24, .inl da)), (z3, .inl (Y 0, 24, .inl gu)), (z7, .inl (Y 0, 150, .inl (bkU jr ln pt fa ho))), (g, .inr (6, [.int (nI tm), .int wt, .ref g1, .ref g2, .ref g3])), (g1, .inl (Y 0, 20, .inl sn)), (g2, .inl (Y 0, 20, .inl ic)), (g3, .inl (Y 0, 5, .inl ru)), (y9, .inl (Y 0, 11, .inl (upd (upd (upd (upd (upd (upd (upd (fun _ => 0) 0 (nI tm)) 1 (nI (tm % 24))) 2 (wetU wa da (tm % 24))) 3 (gu (tm % 24))) 4 wt) 5 (nI np)) 6 (sumU ru 5))))]) ⟨hx, hb, hml, hown, hts⟩ (kX7_sum l D Y _ g1 20 sn (by first | assumption | omega)) (va_cwS 1 hts gX7_counted_X7_sum rfl rfl rfl (by decide +kernel) ⟨Nat.le_of_ble_eq_true rfl, Nat.le_of_ble_eq_true rfl⟩) hKN hP hD hS hA [6] [0, 1, 2, 3, 4, 5, 7, 8, 9] [0, 1, 2, 3, 4, 5, 9, 6, 7, 8] rfl (by decide) rfl rfl rfl rfl hl.1 (Nat.le_of_ble_eq_true rfl) dX7_counted_110 ⟨Nat.le_of_ble_eq_true rfl, Nat.le_of_ble_eq_true rfl⟩ (fun H locs hP hD hS => ?_)
    refine is hx hb hKN.1 hP hD hS 9 0 rfl rfl 7 (by rfl) (by decide) (by first | decide | assumption | omega) dX7_counted_113 (fun H locs hP hD hS => ?_)
    have hP : va_P D vwCl [(z, .inr (7, [.int th, .ref z1, .ref z2, .ref z3, .int (nI np), .ref z4, .ref z5, .ref z6, .int (nI nj), .ref z7, .ref q, .ref r])), (z1, .inl (Y 0, 24, .inl wa)), (z2, .inl (Y 0, 24, .inl da)), (z3, .inl (Y 0, 24, .inl gu)), (z7, .inl (Y 0, 150, .inl (bkU jr ln pt fa ho))), (g, .inr (6, [.int (nI tm), .int wt, .ref g1, .ref g2, .ref g3])), (g1, .inl (Y 0, 20, .inl sn)), (g2, .inl (Y 0, 20, .inl ic)), (g3, .inl (Y 0, 5, .inl ru)), (y9, .inl (Y 0, 11, .inl (upd (upd (upd (upd (upd (upd (upd (upd (fun _ => 0) 0 (nI tm)) 1 (nI (tm % 24))) 2 (wetU wa da (tm % 24))) 3 (gu (tm % 24))) 4 wt) 5 (nI np)) 6 (sumU ru 5)) 7 (sumU sn 20))))] _ := hP
    have hD : va_D A [(z, .inr (7, [.int th, .ref z1, .ref z2, .ref z3, .int (nI np), .ref z4, .ref z5, .ref z6, .int (nI nj), .ref z7, .ref q, .ref r])), (z1, .inl (Y 0, 24, .inl wa)), (z2, .inl (Y 0, 24, .inl da)), (z3, .inl (Y 0, 24, .inl gu)), (z7, .inl (Y 0, 150, .inl (bkU jr ln pt fa ho))), (g, .inr (6, [.int (nI tm), .int wt, .ref g1, .ref g2, .ref g3])), (g1, .inl (Y 0, 20, .inl sn)), (g2, .inl (Y 0, 20, .inl ic)), (g3, .inl (Y 0, 5, .inl ru)), (y9, .inl (Y 0, 11, .inl (upd (upd (upd (upd (upd (upd (upd (upd (fun _ => 0) 0 (nI tm)) 1 (nI (tm % 24))) 2 (wetU wa da (tm % 24))) 3 (gu (tm % 24))) 4 wt) 5 (nI np)) 6 (sumU ru 5)) 7 (sumU sn 20))))] := hD
    refine lv_dup hx hb dX7_counted_114 rfl ?_
    refine lv_bipush (v := (8 : Int32)) hx hb dX7_counted_115 (by decide) ?_
    refine lv_aload_n hx hb dX7_counted_117 rfl (lv_at hl 2 rfl) ?_
    refine va_getN (D := D) (ci := 6) (v := .ref g2) (C := RX6) (T := TX6) (N := 5) hx hb hts hi6 hown hKN.1 hP 5 rfl rfl 3 (by decide) (hKN.2.before 11 rfl) (fun _ h9 => h9) rfl dX7_counted_118 ?_
    refine cSi (As := [.ref g2]) (rest := [.int (8 : Int32), .ref y9, .ref y9]) (ws' := [(z, .inr (7, [.int th, .ref z1, .ref z2, .ref z3, .int (nI np), .ref z4, .ref z5, .ref z6, .int (nI nj), .ref z7, .ref q, .ref r])), (z1, .inl (Y 0, 24, .inl wa)), (z2, .inl (Y 0, 24, .inl da)), (z3, .inl (Y 0, 24, .inl gu)), (z7, .inl (Y 0, 150, .inl (bkU jr ln pt fa ho))), (g, .inr (6, [.int (nI tm), .int wt, .ref g1, .ref g2, .ref g3])), (g1, .inl (Y 0, 20, .inl sn)), (g2, .inl (Y 0, 20, .inl ic)), (g3, .inl (Y 0, 5, .inl ru)), (y9, .inl (Y 0, 11, .inl (upd (upd (upd (upd (upd (upd (upd (upd (fun _ => 0) 0 (nI tm)) 1 (nI (tm % 24))) 2 (wetU wa da (tm % 24))) 3 (gu (tm % 24))) 4 wt) 5 (nI np)) 6 (sumU ru 5)) 7 (sumU sn 20))))]) ⟨hx, hb, hml, hown, hts⟩ (kX7_sum l D Y _ g2 20 ic (by first | assumption | omega)) (va_cwS 1 hts gX7_counted_X7_sum rfl rfl rfl (by decide +kernel) ⟨Nat.le_of_ble_eq_true rfl, Nat.le_of_ble_eq_true rfl⟩) hKN hP hD hS hA [7] [0, 1, 2, 3, 4, 5, 6, 8, 9] [0, 1, 2, 3, 4, 5, 6, 9, 7, 8] rfl (by decide) rfl rfl rfl rfl hl.1 (Nat.le_of_ble_eq_true rfl) dX7_counted_121 ⟨Nat.le_of_ble_eq_true rfl, Nat.le_of_ble_eq_true rfl⟩ (fun H locs hP hD hS => ?_)
    refine is hx hb hKN.1 hP hD hS 9 0 rfl rfl 8 (by rfl) (by decide) (by first | decide | assumption | omega) dX7_counted_124 (fun H locs hP hD hS => ?_)
    have hP : va_P D vwCl [(z, .inr (7, [.int th, .ref z1, .ref z2, .ref z3, .int (nI np), .ref z4, .ref z5, .ref z6, .int (nI nj), .ref z7, .ref q, .ref r])), (z1, .inl (Y 0, 24, .inl wa)), (z2, .inl (Y 0, 24, .inl da)), (z3, .inl (Y 0, 24, .inl gu)), (z7, .inl (Y 0, 150, .inl (bkU jr ln pt fa ho))), (g, .inr (6, [.int (nI tm), .int wt, .ref g1, .ref g2, .ref g3])), (g1, .inl (Y 0, 20, .inl sn)), (g2, .inl (Y 0, 20, .inl ic)), (g3, .inl (Y 0, 5, .inl ru)), (y9, .inl (Y 0, 11, .inl (upd (upd (upd (upd (upd (upd (upd (upd (upd (fun _ => 0) 0 (nI tm)) 1 (nI (tm % 24))) 2 (wetU wa da (tm % 24))) 3 (gu (tm % 24))) 4 wt) 5 (nI np)) 6 (sumU ru 5)) 7 (sumU sn 20)) 8 (sumU ic 20))))] _ := hP
    have hD : va_D A [(z, .inr (7, [.int th, .ref z1, .ref z2, .ref z3, .int (nI np), .ref z4, .ref z5, .ref z6, .int (nI nj), .ref z7, .ref q, .ref r])), (z1, .inl (Y 0, 24, .inl wa)), (z2, .inl (Y 0, 24, .inl da)), (z3, .inl (Y 0, 24, .inl gu)), (z7, .inl (Y 0, 150, .inl (bkU jr ln pt fa ho))), (g, .inr (6, [.int (nI tm), .int wt, .ref g1, .ref g2, .ref g3])), (g1, .inl (Y 0, 20, .inl sn)), (g2, .inl (Y 0, 20, .inl ic)), (g3, .inl (Y 0, 5, .inl ru)), (y9, .inl (Y 0, 11, .inl (upd (upd (upd (upd (upd (upd (upd (upd (upd (fun _ => 0) 0 (nI tm)) 1 (nI (tm % 24))) 2 (wetU wa da (tm % 24))) 3 (gu (tm % 24))) 4 wt) 5 (nI np)) 6 (sumU ru 5)) 7 (sumU sn 20)) 8 (sumU ic 20))))] := hD
    refine lv_dup hx hb dX7_counted_125 rfl ?_
    refine lv_bipush (v := (9 : Int32)) hx hb dX7_counted_126 (by decide) ?_
    refine lv_aload_n hx hb dX7_counted_128 rfl (lv_at hl 1 rfl) ?_
    refine va_get (D := D) (ci := 7) (v := .int (nI nj)) (C := RX7) (T := TX7) (N := 12) hx hb hts hi7 hown hKN.1 hP 0 rfl rfl 8 (by decide) (hts (.fieldLink RX7 102 "SnowPumpsModel" "jumps" "I") (by decide +kernel)) (fun _ h9 => h9) rfl dX7_counted_129 ?_
    refine is hx hb hKN.1 hP hD hS 9 0 rfl rfl 9 (by rfl) (by decide) (by first | decide | assumption | omega) dX7_counted_132 (fun H locs hP hD hS => ?_)
    have hP : va_P D vwCl [(z, .inr (7, [.int th, .ref z1, .ref z2, .ref z3, .int (nI np), .ref z4, .ref z5, .ref z6, .int (nI nj), .ref z7, .ref q, .ref r])), (z1, .inl (Y 0, 24, .inl wa)), (z2, .inl (Y 0, 24, .inl da)), (z3, .inl (Y 0, 24, .inl gu)), (z7, .inl (Y 0, 150, .inl (bkU jr ln pt fa ho))), (g, .inr (6, [.int (nI tm), .int wt, .ref g1, .ref g2, .ref g3])), (g1, .inl (Y 0, 20, .inl sn)), (g2, .inl (Y 0, 20, .inl ic)), (g3, .inl (Y 0, 5, .inl ru)), (y9, .inl (Y 0, 11, .inl (upd (upd (upd (upd (upd (upd (upd (upd (upd (upd (fun _ => 0) 0 (nI tm)) 1 (nI (tm % 24))) 2 (wetU wa da (tm % 24))) 3 (gu (tm % 24))) 4 wt) 5 (nI np)) 6 (sumU ru 5)) 7 (sumU sn 20)) 8 (sumU ic 20)) 9 (nI nj))))] _ := hP
    have hD : va_D A [(z, .inr (7, [.int th, .ref z1, .ref z2, .ref z3, .int (nI np), .ref z4, .ref z5, .ref z6, .int (nI nj), .ref z7, .ref q, .ref r])), (z1, .inl (Y 0, 24, .inl wa)), (z2, .inl (Y 0, 24, .inl da)), (z3, .inl (Y 0, 24, .inl gu)), (z7, .inl (Y 0, 150, .inl (bkU jr ln pt fa ho))), (g, .inr (6, [.int (nI tm), .int wt, .ref g1, .ref g2, .ref g3])), (g1, .inl (Y 0, 20, .inl sn)), (g2, .inl (Y 0, 20, .inl ic)), (g3, .inl (Y 0, 5, .inl ru)), (y9, .inl (Y 0, 11, .inl (upd (upd (upd (upd (upd (upd (upd (upd (upd (upd (fun _ => 0) 0 (nI tm)) 1 (nI (tm % 24))) 2 (wetU wa da (tm % 24))) 3 (gu (tm % 24))) 4 wt) 5 (nI np)) 6 (sumU ru 5)) 7 (sumU sn 20)) 8 (sumU ic 20)) 9 (nI nj))))] := hD
    refine lv_dup hx hb dX7_counted_133 rfl ?_
    refine lv_bipush (v := (10 : Int32)) hx hb dX7_counted_134 (by decide) ?_
    refine lv_iload_n hx hb dX7_counted_136 rfl (lv_at hl 4 rfl) ?_
    refine lv_eqi (y := sumU fa 30) (by exact hfa) ?_
    refine is hx hb hKN.1 hP hD hS 9 0 rfl rfl 10 (by rfl) (by decide) (by first | decide | assumption | omega) dX7_counted_137 (fun H locs hP hD hS => ?_)
    have hP : va_P D vwCl [(z, .inr (7, [.int th, .ref z1, .ref z2, .ref z3, .int (nI np), .ref z4, .ref z5, .ref z6, .int (nI nj), .ref z7, .ref q, .ref r])), (z1, .inl (Y 0, 24, .inl wa)), (z2, .inl (Y 0, 24, .inl da)), (z3, .inl (Y 0, 24, .inl gu)), (z7, .inl (Y 0, 150, .inl (bkU jr ln pt fa ho))), (g, .inr (6, [.int (nI tm), .int wt, .ref g1, .ref g2, .ref g3])), (g1, .inl (Y 0, 20, .inl sn)), (g2, .inl (Y 0, 20, .inl ic)), (g3, .inl (Y 0, 5, .inl ru)), (y9, .inl (Y 0, 11, .inl (upd (upd (upd (upd (upd (upd (upd (upd (upd (upd (upd (fun _ => 0) 0 (nI tm)) 1 (nI (tm % 24))) 2 (wetU wa da (tm % 24))) 3 (gu (tm % 24))) 4 wt) 5 (nI np)) 6 (sumU ru 5)) 7 (sumU sn 20)) 8 (sumU ic 20)) 9 (nI nj)) 10 (sumU fa 30))))] _ := hP
    have hD : va_D A [(z, .inr (7, [.int th, .ref z1, .ref z2, .ref z3, .int (nI np), .ref z4, .ref z5, .ref z6, .int (nI nj), .ref z7, .ref q, .ref r])), (z1, .inl (Y 0, 24, .inl wa)), (z2, .inl (Y 0, 24, .inl da)), (z3, .inl (Y 0, 24, .inl gu)), (z7, .inl (Y 0, 150, .inl (bkU jr ln pt fa ho))), (g, .inr (6, [.int (nI tm), .int wt, .ref g1, .ref g2, .ref g3])), (g1, .inl (Y 0, 20, .inl sn)), (g2, .inl (Y 0, 20, .inl ic)), (g3, .inl (Y 0, 5, .inl ru)), (y9, .inl (Y 0, 11, .inl (upd (upd (upd (upd (upd (upd (upd (upd (upd (upd (upd (fun _ => 0) 0 (nI tm)) 1 (nI (tm % 24))) 2 (wetU wa da (tm % 24))) 3 (gu (tm % 24))) 4 wt) 5 (nI np)) 6 (sumU ru 5)) 7 (sumU sn 20)) 8 (sumU ic 20)) 9 (nI nj)) 10 (sumU fa 30))))] := hD
    obtain ⟨hP, hD⟩ := va_nrm hP hD 9 rfl (g := (cntsU wa da gu sn ic ru fa wt tm np nj)) (by exact upd11)
    have hP : va_P D vwCl [(z, .inr (7, [.int th, .ref z1, .ref z2, .ref z3, .int (nI np), .ref z4, .ref z5, .ref z6, .int (nI nj), .ref z7, .ref q, .ref r])), (z1, .inl (Y 0, 24, .inl wa)), (z2, .inl (Y 0, 24, .inl da)), (z3, .inl (Y 0, 24, .inl gu)), (z7, .inl (Y 0, 150, .inl (bkU jr ln pt fa ho))), (g, .inr (6, [.int (nI tm), .int wt, .ref g1, .ref g2, .ref g3])), (g1, .inl (Y 0, 20, .inl sn)), (g2, .inl (Y 0, 20, .inl ic)), (g3, .inl (Y 0, 5, .inl ru)), (y9, .inl (Y 0, 11, .inl (cntsU wa da gu sn ic ru fa wt tm np nj)))] _ := hP
    have hD : va_D A [(z, .inr (7, [.int th, .ref z1, .ref z2, .ref z3, .int (nI np), .ref z4, .ref z5, .ref z6, .int (nI nj), .ref z7, .ref q, .ref r])), (z1, .inl (Y 0, 24, .inl wa)), (z2, .inl (Y 0, 24, .inl da)), (z3, .inl (Y 0, 24, .inl gu)), (z7, .inl (Y 0, 150, .inl (bkU jr ln pt fa ho))), (g, .inr (6, [.int (nI tm), .int wt, .ref g1, .ref g2, .ref g3])), (g1, .inl (Y 0, 20, .inl sn)), (g2, .inl (Y 0, 20, .inl ic)), (g3, .inl (Y 0, 5, .inl ru)), (y9, .inl (Y 0, 11, .inl (cntsU wa da gu sn ic ru fa wt tm np nj)))] := hD
    refine lv_astore (lv' := [(5, .ref y9), (4, .int (nI (tm % 24))), (0, .ref z), (1, .ref g), (2, .int (nI k)), (3, .int (sumU fa nj))]) hx hb dX7_counted_138 hl (by decide) rfl (fun ls hl => ?_)
    refine lv_aload hx hb dX7_counted_140 (lv_at hl 0 rfl) ?_
    refine lv_iload_n hx hb dX7_counted_142 rfl (lv_at hl 4 rfl) ?_
    refine ia hx hb hKN.1 hP 9 0 rfl rfl k (by rfl) (by omega) (by first | decide | assumption | omega) dX7_counted_143 ?_
    have hP := hP.sub (ws' := [(z, .inr (7, [.int th, .ref z1, .ref z2, .ref z3, .int (nI np), .ref z4, .ref z5, .ref z6, .int (nI nj), .ref z7, .ref q, .ref r])), (z1, .inl (Y 0, 24, .inl wa)), (z2, .inl (Y 0, 24, .inl da)), (z3, .inl (Y 0, 24, .inl gu)), (z7, .inl (Y 0, 150, .inl (bkU jr ln pt fa ho))), (g, .inr (6, [.int (nI tm), .int wt, .ref g1, .ref g2, .ref g3])), (g1, .inl (Y 0, 20, .inl sn)), (g2, .inl (Y 0, 20, .inl ic)), (g3, .inl (Y 0, 5, .inl ru))]) [0, 1, 2, 3, 4, 5, 6, 7, 8] rfl
    have hD := hD.sub (ws' := [(z, .inr (7, [.int th, .ref z1, .ref z2, .ref z3, .int (nI np), .ref z4, .ref z5, .ref z6, .int (nI nj), .ref z7, .ref q, .ref r])), (z1, .inl (Y 0, 24, .inl wa)), (z2, .inl (Y 0, 24, .inl da)), (z3, .inl (Y 0, 24, .inl gu)), (z7, .inl (Y 0, 150, .inl (bkU jr ln pt fa ho))), (g, .inr (6, [.int (nI tm), .int wt, .ref g1, .ref g2, .ref g3])), (g1, .inl (Y 0, 20, .inl sn)), (g2, .inl (Y 0, 20, .inl ic)), (g3, .inl (Y 0, 5, .inl ru))]) [0, 1, 2, 3, 4, 5, 6, 7, 8] (by decide) rfl
    exact eI hx hb hr hlk hP hD hS (by rfl) (by rfl) (by exact Nat.le_of_ble_eq_true rfl) (by exact Nat.le_of_ble_eq_true rfl) dX7_counted_144
  · have hlt := nge (N := nj) (by first | decide | omega) (by omega) c_11
    refine lv_iload_n hx hb dX7_counted_14 rfl (lv_at hl 3 rfl) ?_
    refine lv_aload_n hx hb dX7_counted_15 rfl (lv_at hl 0 rfl) ?_
    refine va_get (D := D) (ci := 7) (v := .ref z7) (C := RX7) (T := TX7) (N := 12) hx hb hts hi7 hown hKN.1 hP 0 rfl rfl 9 (by decide) (hts (.fieldLink RX7 28 "SnowPumpsModel" "book" "[I") (by decide +kernel)) (fun _ h9 => h9) rfl dX7_counted_16 ?_
    refine lv_iconst (v := (5 : Int32)) hx hb dX7_counted_19 (by decide) ?_
    refine lv_iload hx hb dX7_counted_20 (lv_at hl 4 rfl) ?_
    refine lv_imul hx hb dX7_counted_22 ?_
    refine lv_eqi (y := nI (5 * i)) (by exact pk_mul 5 _) ?_
    refine lv_iconst (v := (3 : Int32)) hx hb dX7_counted_23 (by decide) ?_
    refine lv_iadd hx hb dX7_counted_24 ?_
    refine lv_eqi (y := nI (5 * i + 3)) (by exact nI_add _ 3) ?_
    refine ia hx hb hKN.1 hP 4 0 rfl rfl (5 * i + 3) (by rfl) (by omega) (by first | decide | assumption | omega) dX7_counted_25 ?_
    refine lv_eqi (y := fa i) (by exact bk_3) ?_
    refine lv_iadd hx hb dX7_counted_26 ?_
    refine lv_eqi (y := sumU fa (i + 1)) (by rfl) ?_
    refine lv_istore_n (lv' := [(3, .int (sumU fa (i + 1))), (0, .ref z), (1, .ref g), (2, .int (nI k)), (4, .int (nI i))]) hx hb dX7_counted_27 rfl hl (by decide) rfl (fun ls hl => ?_)
    refine lv_iinc (v := (nI (i + 1))) (lv' := [(4, .int (nI (i + 1))), (3, .int (sumU fa (i + 1))), (0, .ref z), (1, .ref g), (2, .int (nI k))]) hx hb dX7_counted_28 hl (k := 4) rfl (by exact nI_1 _) (by decide) rfl (fun ls hl => ?_)
    refine lv_goto (tgt := 5) hx hb dX7_counted_31 (by decide) ?_
    exact ih_5 (i + 1) _ _ _ (show nj - (i + 1) < nj - i by omega) ⟨by omega, hP, hD, hS, lv_sub hl [2, 3, 4, 1, 0] rfl⟩
