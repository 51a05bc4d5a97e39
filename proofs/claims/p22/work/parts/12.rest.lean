abbrev rm_kX3_setUp : Room := { frames := 0, cells := 0, slots := 0, locals := 0 }
set_option maxHeartbeats 4000000 in
set_option maxRecDepth 100000 in
theorem kX3_setUp (l : Launch) (D : va_G) (Y : Nat → ClassId) (sz : Nat) (pu : Nat) (p1 : Nat) (p2 : Nat) (np : Nat) (pa : fN) (fl : fN) (x : Int32) (y : Int32) (hnp : np < 5) : MI l yX3_setUp wsX3_setUp rm_kX3_setUp D Y [.ref pu, .int x, .int y] sz [(pu, .inr (3, [.ref p1, .ref p2, .int (nI np)])), (p1, .inl (Y 0, 5, .inl pa)), (p2, .inl (Y 0, 5, .inl fl))] (nI np) [(pu, .inr (3, [.ref p1, .ref p2, .int (nI (np + 1))])), (p1, .inl (Y 0, 5, .inl (upd pa np x))), (p2, .inl (Y 0, 5, .inl (upd fl np y)))] 0 0 := by
  refine pcW_start (cc := cX3_setUp) (maxL := 4) (ret := (some .int)) (Qc := fun A => va_Qi (fun (r : Int32) (_ : Unit) => r = (nI np)) (qW D A [(pu, .inr (3, [.ref p1, .ref p2, .int (nI (np + 1))])), (p1, .inl (Y 0, 5, .inl (upd pa np x))), (p2, .inl (Y 0, 5, .inl (upd fl np y)))]) A) (by decide) rfl (Nat.le_of_ble_eq_true rfl) ?_
  intro p e s m below meth c A ls hE hKN hA hP hD hl
  obtain ⟨hx, hb, hr, hml, hown, hts, hlk, hin⟩ := hE
  have hown : s.vm.findClass RX3 = some m.cls := hown
  have hS : va_S A s.heap s.heap [] := va_S.rf
  have hi3 : ∀ w ∈ wsX30, w ∈ wsX3_setUp := by decide +kernel
  have hl : lv_has ls 4 [(0, .ref pu), (1, .int x), (2, .int y)] := hl
  refine lv_aload_n hx hb dX3_setUp_0 rfl (lv_at hl 0 rfl) ?_
  refine va_get (D := D) (ci := 3) (v := .int (nI np)) (C := RX3) (T := TX3) (N := 3) hx hb hts hi3 hown hKN.1 hP 0 rfl rfl 2 (by decide) (hts (.fieldLink RX3 18 "SnowPumps$Pumps" "count" "I") (by decide +kernel)) (fun _ h9 => h9) rfl dX3_setUp_1 ?_
  refine lv_istore_n (lv' := [(3, .int (nI np)), (0, .ref pu), (1, .int x), (2, .int y)]) hx hb dX3_setUp_4 rfl hl (by decide) rfl (fun ls hl => ?_)
  refine lv_aload_n hx hb dX3_setUp_5 rfl (lv_at hl 1 rfl) ?_
  refine va_get (D := D) (ci := 3) (v := .ref p1) (C := RX3) (T := TX3) (N := 3) hx hb hts hi3 hown hKN.1 hP 0 rfl rfl 0 (by decide) (hts (.fieldLink RX3 9 "SnowPumps$Pumps" "part" "[I") (by decide +kernel)) (fun _ h9 => h9) rfl dX3_setUp_6 ?_
  refine lv_iload_n hx hb dX3_setUp_9 rfl (lv_at hl 0 rfl) ?_
  refine lv_iload_n hx hb dX3_setUp_10 rfl (lv_at hl 2 rfl) ?_
  refine is hx hb hKN.1 hP hD hS 1 0 rfl rfl np (by rfl) (by omega) (by first | decide | assumption | omega) dX3_setUp_11 (fun H locs hP hD hS => ?_)
  have hP : va_P D vwCl [(pu, .inr (3, [.ref p1, .ref p2, .int (nI np)])), (p1, .inl (Y 0, 5, .inl (upd pa np x))), (p2, .inl (Y 0, 5, .inl fl))] _ := hP
  have hD : va_D A [(pu, .inr (3, [.ref p1, .ref p2, .int (nI np)])), (p1, .inl (Y 0, 5, .inl (upd pa np x))), (p2, .inl (Y 0, 5, .inl fl))] := hD
  refine lv_aload_n hx hb dX3_setUp_12 rfl (lv_at hl 1 rfl) ?_
  refine va_get (D := D) (ci := 3) (v := .ref p2) (C := RX3) (T := TX3) (N := 3) hx hb hts hi3 hown hKN.1 hP 0 rfl rfl 1 (by decide) (hts (.fieldLink RX3 15 "SnowPumps$Pumps" "flow" "[I") (by decide +kernel)) (fun _ h9 => h9) rfl dX3_setUp_13 ?_
  refine lv_iload_n hx hb dX3_setUp_16 rfl (lv_at hl 0 rfl) ?_
  refine lv_iload_n hx hb dX3_setUp_17 rfl (lv_at hl 3 rfl) ?_
  refine is hx hb hKN.1 hP hD hS 2 0 rfl rfl np (by rfl) (by omega) (by first | decide | assumption | omega) dX3_setUp_18 (fun H locs hP hD hS => ?_)
  have hP : va_P D vwCl [(pu, .inr (3, [.ref p1, .ref p2, .int (nI np)])), (p1, .inl (Y 0, 5, .inl (upd pa np x))), (p2, .inl (Y 0, 5, .inl (upd fl np y)))] _ := hP
  have hD : va_D A [(pu, .inr (3, [.ref p1, .ref p2, .int (nI np)])), (p1, .inl (Y 0, 5, .inl (upd pa np x))), (p2, .inl (Y 0, 5, .inl (upd fl np y)))] := hD
  refine lv_aload_n hx hb dX3_setUp_19 rfl (lv_at hl 1 rfl) ?_
  refine lv_iload_n hx hb dX3_setUp_20 rfl (lv_at hl 0 rfl) ?_
  refine lv_iconst (v := (1 : Int32)) hx hb dX3_setUp_21 (by decide) ?_
  refine lv_iadd hx hb dX3_setUp_22 ?_
  refine lv_eqi (y := nI (np + 1)) (by exact nI_1 _) ?_
  refine va_put (D := D) (ci := 3) (v := .int (nI (np + 1))) (ty := .int) (C := RX3) (T := TX3) (N := 3) hx hb hts hi3 tyX3 tyX3_ok nmX3 hown hKN.1 hP hD hS 0 rfl rfl 2 (by decide) (hts (.fieldLink RX3 18 "SnowPumps$Pumps" "count" "I") (by decide +kernel)) (fun _ h9 => h9) rfl (by decide +kernel) rfl rfl (Nat.le_of_ble_eq_true rfl) dX3_setUp_23 (fun H locs hP hD hS => ?_)
  have hP : va_P D vwCl [(pu, .inr (3, [.ref p1, .ref p2, .int (nI (np + 1))])), (p1, .inl (Y 0, 5, .inl (upd pa np x))), (p2, .inl (Y 0, 5, .inl (upd fl np y)))] _ := hP
  have hD : va_D A [(pu, .inr (3, [.ref p1, .ref p2, .int (nI (np + 1))])), (p1, .inl (Y 0, 5, .inl (upd pa np x))), (p2, .inl (Y 0, 5, .inl (upd fl np y)))] := hD
  refine lv_iload_n hx hb dX3_setUp_26 rfl (lv_at hl 0 rfl) ?_
  exact eI hx hb hr hlk hP hD hS (by rfl) (by rfl) (by exact Nat.le_of_ble_eq_true rfl) (by exact Nat.le_of_ble_eq_true rfl) dX3_setUp_27
abbrev rm_kX3_countAt : Room := { frames := 0, cells := 0, slots := 0, locals := 0 }
set_option maxHeartbeats 4000000 in
set_option maxRecDepth 100000 in
theorem kX3_countAt (l : Launch) (D : va_G) (Y : Nat → ClassId) (sz : Nat) (pu : Nat) (p1 : Nat) (p2 : Nat) (np : Nat) (pa : fN) (fl : fN) (x : Int32) (hnp : np ≤ 5) : MI l yX3_countAt wsX3_countAt rm_kX3_countAt D Y [.ref pu, .int x] sz [(pu, .inr (3, [.ref p1, .ref p2, .int (nI np)])), (p1, .inl (Y 0, 5, .inl pa)), (p2, .inl (Y 0, 5, .inl fl))] (cntU pa x np) [(pu, .inr (3, [.ref p1, .ref p2, .int (nI np)])), (p1, .inl (Y 0, 5, .inl pa)), (p2, .inl (Y 0, 5, .inl fl))] 0 0 := by
  refine pcW_start (cc := cX3_countAt) (maxL := 4) (ret := (some .int)) (Qc := fun A => va_Qi (fun (r : Int32) (_ : Unit) => r = (cntU pa x np)) (qW D A [(pu, .inr (3, [.ref p1, .ref p2, .int (nI np)])), (p1, .inl (Y 0, 5, .inl pa)), (p2, .inl (Y 0, 5, .inl fl))]) A) (by decide) rfl (Nat.le_of_ble_eq_true rfl) ?_
  intro p e s m below meth c A ls hE hKN hA hP hD hl
  obtain ⟨hx, hb, hr, hml, hown, hts, hlk, hin⟩ := hE
  have hown : s.vm.findClass RX3 = some m.cls := hown
  have hS : va_S A s.heap s.heap [] := va_S.rf
  have hi3 : ∀ w ∈ wsX30, w ∈ wsX3_countAt := by decide +kernel
  have hl : lv_has ls 4 [(0, .ref pu), (1, .int x)] := hl
  refine lv_iconst (v := (0 : Int32)) hx hb dX3_countAt_0 (by decide) ?_
  refine lv_istore_n (lv' := [(2, .int (0 : Int32)), (0, .ref pu), (1, .int x)]) hx hb dX3_countAt_1 rfl hl (by decide) rfl (fun ls hl => ?_)
  refine lv_iconst (v := (0 : Int32)) hx hb dX3_countAt_2 (by decide) ?_
  refine lv_istore_n (lv' := [(3, .int (0 : Int32)), (2, .int (0 : Int32)), (0, .ref pu), (1, .int x)]) hx hb dX3_countAt_3 rfl hl (by decide) rfl (fun ls hl => ?_)
  refine LPP (σ := Nat) (I := fun i H locs ls => i ≤ np ∧ va_P D vwCl [(pu, .inr (3, [.ref p1, .ref p2, .int (nI np)])), (p1, .inl (Y 0, 5, .inl pa)), (p2, .inl (Y 0, 5, .inl fl))] H ∧ va_D A [(pu, .inr (3, [.ref p1, .ref p2, .int (nI np)])), (p1, .inl (Y 0, 5, .inl pa)), (p2, .inl (Y 0, 5, .inl fl))] ∧ va_S A s.heap H locs ∧ lv_has ls 4 [(0, .ref pu), (1, .int x), (2, .int (cntU pa x i)), (3, .int (nI i))]) (μ := fun i => np - i) (cl := fun i => 0) (sl := fun i => 0) (fun i ih_4 H locs ls hI => ?_) 0 _ _ _ ⟨by omega, hP, hD, hS, lv_sub hl [2, 3, 1, 0] rfl⟩
  obtain ⟨hi, hP, hD, hS, hl⟩ := hI
  refine lv_iload_n hx hb dX3_countAt_4 rfl (lv_at hl 3 rfl) ?_
  refine lv_aload_n hx hb dX3_countAt_5 rfl (lv_at hl 0 rfl) ?_
  refine va_get (D := D) (ci := 3) (v := .int (nI np)) (C := RX3) (T := TX3) (N := 3) hx hb hts hi3 hown hKN.1 hP 0 rfl rfl 2 (by decide) (hts (.fieldLink RX3 18 "SnowPumps$Pumps" "count" "I") (by decide +kernel)) (fun _ h9 => h9) rfl dX3_countAt_6 ?_
  refine lv_icmp_ge (tgt := 31) hx hb dX3_countAt_9 (by decide) (fun c_9 => ?_) (fun c_9 => ?_)
  · have hlt := ngl (N := np) (by first | decide | omega) (by omega) c_9
    obtain rfl : np = i := by omega
    refine lv_iload_n hx hb dX3_countAt_31 rfl (lv_at hl 2 rfl) ?_
    exact eI hx hb hr hlk hP hD hS (by rfl) (by rfl) (by exact Nat.le_of_ble_eq_true rfl) (by exact Nat.le_of_ble_eq_true rfl) dX3_countAt_32
  · have hlt := nge (N := np) (by first | decide | omega) (by omega) c_9
    refine lv_aload_n hx hb dX3_countAt_12 rfl (lv_at hl 0 rfl) ?_
    refine va_get (D := D) (ci := 3) (v := .ref p1) (C := RX3) (T := TX3) (N := 3) hx hb hts hi3 hown hKN.1 hP 0 rfl rfl 0 (by decide) (hts (.fieldLink RX3 9 "SnowPumps$Pumps" "part" "[I") (by decide +kernel)) (fun _ h9 => h9) rfl dX3_countAt_13 ?_
    refine lv_iload_n hx hb dX3_countAt_16 rfl (lv_at hl 3 rfl) ?_
    refine ia hx hb hKN.1 hP 1 0 rfl rfl i (by rfl) (by omega) (by first | decide | assumption | omega) dX3_countAt_17 ?_
    refine lv_iload_n hx hb dX3_countAt_18 rfl (lv_at hl 1 rfl) ?_
    refine lv_icmp_ne (tgt := 25) hx hb dX3_countAt_19 (by decide) (fun c_19 => ?_) (fun c_19 => ?_)
    · have ec_1 : (cntU pa x i) = (cntU pa x (i + 1)) := by exact (if_neg c_19).symm
      have hl : lv_has ls 4 [(0, .ref pu), (1, .int x), (2, .int (cntU pa x (i + 1))), (3, .int (nI i))] := (congrArg (fun zz9 => lv_has ls 4 [(0, .ref pu), (1, .int x), (2, .int zz9), (3, .int (nI i))]) ec_1).mp hl
      refine lv_iinc (v := (nI (i + 1))) (lv' := [(3, .int (nI (i + 1))), (0, .ref pu), (1, .int x), (2, .int (cntU pa x (i + 1)))]) hx hb dX3_countAt_25 hl (k := 3) rfl (by exact nI_1 _) (by decide) rfl (fun ls hl => ?_)
      refine lv_goto (tgt := 4) hx hb dX3_countAt_28 (by decide) ?_
      exact ih_4 (i + 1) _ _ _ (show np - (i + 1) < np - i by omega) ⟨by omega, hP, hD, hS, lv_sub hl [1, 2, 3, 0] rfl⟩
    · refine lv_iinc (v := (cntU pa x (i + 1))) (lv' := [(2, .int (cntU pa x (i + 1))), (0, .ref pu), (1, .int x), (3, .int (nI i))]) hx hb dX3_countAt_22 hl (k := 2) rfl (by exact (if_pos c_19).symm) (by decide) rfl (fun ls hl => ?_)
      refine lv_iinc (v := (nI (i + 1))) (lv' := [(3, .int (nI (i + 1))), (2, .int (cntU pa x (i + 1))), (0, .ref pu), (1, .int x)]) hx hb dX3_countAt_25 hl (k := 3) rfl (by exact nI_1 _) (by decide) rfl (fun ls hl => ?_)
      refine lv_goto (tgt := 4) hx hb dX3_countAt_28 (by decide) ?_
      exact ih_4 (i + 1) _ _ _ (show np - (i + 1) < np - i by omega) ⟨by omega, hP, hD, hS, lv_sub hl [2, 3, 1, 0] rfl⟩
abbrev rm_kX2_marks : Room := { frames := 2, cells := 0, slots := 0, locals := 36 }
set_option maxHeartbeats 4000000 in
set_option maxRecDepth 100000 in
theorem kX2_marks (l : Launch) (D : va_G) (Y : Nat → ClassId) (sz : Nat) (j : Nat) (j1 : Nat) (st : fN) (x : Int32) (y : Int32) (z : Int32)  : MI l yX2_marks wsX2_marks rm_kX2_marks D Y [.ref j, .int x, .int y, .int z] sz [(j, .inr (2, [.ref j1])), (j1, .inl (Y 0, 5, .inl st))] ((mksU (x - abI y - f8 z) st 5).1 - (mksU (x - abI y - f8 z) st 5).2.1 - (mksU (x - abI y - f8 z) st 5).2.2) [(j, .inr (2, [.ref j1])), (j1, .inl (Y 0, 5, .inl st))] 0 0 := by
  refine pcW_start (cc := cX2_marks) (maxL := 10) (ret := (some .int)) (Qc := fun A => va_Qi (fun (r : Int32) (_ : Unit) => r = ((mksU (x - abI y - f8 z) st 5).1 - (mksU (x - abI y - f8 z) st 5).2.1 - (mksU (x - abI y - f8 z) st 5).2.2)) (qW D A [(j, .inr (2, [.ref j1])), (j1, .inl (Y 0, 5, .inl st))]) A) (by decide) rfl (Nat.le_of_ble_eq_true rfl) ?_
  intro p e s m below meth c A ls hE hKN hA hP hD hl
  obtain ⟨hx, hb, hr, hml, hown, hts, hlk, hin⟩ := hE
  have hown : s.vm.findClass RX2 = some m.cls := hown
  have hS : va_S A s.heap s.heap [] := va_S.rf
  have hi2 : ∀ w ∈ wsX20, w ∈ wsX2_marks := by decide +kernel
  have hl : lv_has ls 10 [(0, .ref j), (1, .int x), (2, .int y), (3, .int z)] := hl
  refine lv_iconst (v := (0 : Int32)) hx hb dX2_marks_0 (by decide) ?_
  refine lv_istore (lv' := [(4, .int (0 : Int32)), (0, .ref j), (1, .int x), (2, .int y), (3, .int z)]) hx hb dX2_marks_1 hl (by decide) rfl (fun ls hl => ?_)
  refine lv_iconst (v := (0 : Int32)) hx hb dX2_marks_3 (by decide) ?_
  refine lv_istore (lv' := [(5, .int (0 : Int32)), (4, .int (0 : Int32)), (0, .ref j), (1, .int x), (2, .int y), (3, .int z)]) hx hb dX2_marks_4 hl (by decide) rfl (fun ls hl => ?_)
  refine lv_bipush (v := (20 : Int32)) hx hb dX2_marks_6 (by decide) ?_
  refine lv_istore (lv' := [(6, .int (20 : Int32)), (5, .int (0 : Int32)), (4, .int (0 : Int32)), (0, .ref j), (1, .int x), (2, .int y), (3, .int z)]) hx hb dX2_marks_8 hl (by decide) rfl (fun ls hl => ?_)
  refine lv_iload_n hx hb dX2_marks_10 rfl (lv_at hl 4 rfl) ?_
  refine lv_iload_n hx hb dX2_marks_11 rfl (lv_at hl 5 rfl) ?_
  refine va_mabs hx hb (hml.trans hl.1.symm) hown (hts (.methodLink RX2 15 Lib.Math.abs.name) (by decide +kernel)) (hts (.static Lib.Math.abs.name) (by decide +kernel)) (hts (.initialized "java/lang/Math") (by decide +kernel)) (hts (.code Lib.Math.abs.name Lib.Math.abs.code 1 (some .int)) (by decide +kernel)) (Nat.le_of_ble_eq_true rfl) (Nat.le_of_ble_eq_true rfl) (by exact Nat.le_of_ble_eq_true rfl) (by exact Nat.le_of_ble_eq_true rfl) dX2_marks_12 ?_
  refine lv_eqi (y := abI y) rfl ?_
  refine lv_isub hx hb dX2_marks_15 ?_
  refine lv_iload_n hx hb dX2_marks_16 rfl (lv_at hl 6 rfl) ?_
  refine JT (jp := 26) (r' := [.int (x - (abI y))]) (E := f8 z) (fun K_1 => ?_) ?_
  · refine lv_if_eq (tgt := 25) hx hb dX2_marks_17 (by decide) (fun c_17 => ?_) (fun c_17 => ?_)
    · refine lv_iconst (v := (0 : Int32)) hx hb dX2_marks_25 (by decide) ?_
      exact K_1 _ (by first | exact (if_neg c_17).symm | exact (if_pos c_17).symm)
    · refine lv_bipush (v := (8 : Int32)) hx hb dX2_marks_20 (by decide) ?_
      refine lv_goto (tgt := 26) hx hb dX2_marks_22 (by decide) ?_
      exact K_1 _ (by first | exact (if_neg c_17).symm | exact (if_pos c_17).symm)
  refine lv_isub hx hb dX2_marks_26 ?_
  refine lv_istore (lv' := [(7, .int ((x - (abI y)) - (f8 z))), (6, .int (20 : Int32)), (5, .int (0 : Int32)), (4, .int (0 : Int32)), (0, .ref j), (1, .int x), (2, .int y), (3, .int z)]) hx hb dX2_marks_27 hl (by decide) rfl (fun ls hl => ?_)
  refine lv_iconst (v := (0 : Int32)) hx hb dX2_marks_29 (by decide) ?_
  refine lv_istore (lv' := [(8, .int (0 : Int32)), (7, .int ((x - (abI y)) - (f8 z))), (6, .int (20 : Int32)), (5, .int (0 : Int32)), (4, .int (0 : Int32)), (0, .ref j), (1, .int x), (2, .int y), (3, .int z)]) hx hb dX2_marks_30 hl (by decide) rfl (fun ls hl => ?_)
  refine LPP (σ := Nat) (I := fun i H locs ls => i ≤ 5 ∧ va_P D vwCl [(j, .inr (2, [.ref j1])), (j1, .inl (Y 0, 5, .inl st))] H ∧ va_D A [(j, .inr (2, [.ref j1])), (j1, .inl (Y 0, 5, .inl st))] ∧ va_S A s.heap H locs ∧ lv_has ls 10 [(0, .ref j), (1, .int x), (2, .int y), (3, .int z), (4, .int ((mksU (x - abI y - f8 z) st i).1)), (5, .int ((mksU (x - abI y - f8 z) st i).2.1)), (6, .int ((mksU (x - abI y - f8 z) st i).2.2)), (7, .int (x - abI y - f8 z)), (8, .int (nI i))]) (μ := fun i => 5 - i) (cl := fun i => 0) (sl := fun i => 0) (fun i ih_32 H locs ls hI => ?_) 0 _ _ _ ⟨by omega, hP, hD, hS, lv_sub hl [5, 6, 7, 8, 4, 3, 2, 1, 0] rfl⟩
  obtain ⟨hi, hP, hD, hS, hl⟩ := hI
  refine lv_iload hx hb dX2_marks_32 (lv_at hl 8 rfl) ?_
  refine lv_iconst (v := (5 : Int32)) hx hb dX2_marks_34 (by decide) ?_
  refine lv_icmp_ge (tgt := 87) hx hb dX2_marks_35 (by decide) (fun c_35 => ?_) (fun c_35 => ?_)
  · have hlt := ngl (N := 5) (by first | decide | omega) (by omega) c_35
    obtain rfl : 5 = i := by omega
    refine lv_iload hx hb dX2_marks_87 (lv_at hl 4 rfl) ?_
    refine lv_iload hx hb dX2_marks_89 (lv_at hl 5 rfl) ?_
    refine lv_isub hx hb dX2_marks_91 ?_
    refine lv_iload hx hb dX2_marks_92 (lv_at hl 6 rfl) ?_
    refine lv_isub hx hb dX2_marks_94 ?_
    exact eI hx hb hr hlk hP hD hS (by rfl) (by rfl) (by exact Nat.le_of_ble_eq_true rfl) (by exact Nat.le_of_ble_eq_true rfl) dX2_marks_95
  · have hlt := nge (N := 5) (by first | decide | omega) (by omega) c_35
    refine lv_iload hx hb dX2_marks_38 (lv_at hl 7 rfl) ?_
    refine lv_aload_n hx hb dX2_marks_40 rfl (lv_at hl 0 rfl) ?_
    refine va_get (D := D) (ci := 2) (v := .ref j1) (C := RX2) (T := TX2) (N := 1) hx hb hts hi2 hown hKN.1 hP 0 rfl rfl 0 (by decide) (hts (.fieldLink RX2 9 "SnowPumps$Jury" "strict" "[I") (by decide +kernel)) (fun _ h9 => h9) rfl dX2_marks_41 ?_
    refine lv_iload hx hb dX2_marks_44 (lv_at hl 8 rfl) ?_
    refine ia hx hb hKN.1 hP 1 0 rfl rfl i (by rfl) (by omega) (by first | decide | assumption | omega) dX2_marks_46 ?_
    refine lv_isub hx hb dX2_marks_47 ?_
    refine lv_iconst (v := (0 : Int32)) hx hb dX2_marks_48 (by decide) ?_
    refine lv_bipush (v := (20 : Int32)) hx hb dX2_marks_49 (by decide) ?_
    refine cSNi (As := [.int ((x - abI y - f8 z) - (st i)), .int (0 : Int32), .int (20 : Int32)]) (rest := []) (ws' := [(j, .inr (2, [.ref j1])), (j1, .inl (Y 0, 5, .inl st))]) ⟨hx, hb, hml, hown, hts⟩ (kX5_hold l D Y _ ((x - abI y - f8 z) - (st i)) (0 : Int32) (20 : Int32) ) ⟨va_cnB 3 hts gX2_marks_X5_hold_n21 rfl rfl rfl (hKN.2.get 5 rfl) (hts (.initialized RX5) (by decide +kernel)) (by decide +kernel) ⟨Nat.le_of_ble_eq_true rfl, Nat.le_of_ble_eq_true rfl⟩, hts (.static yX5_hold) (by decide +kernel), trivial⟩ hKN hP hD hS hA [] [0, 1] [0, 1] rfl (by decide) rfl rfl rfl rfl hl.1 (Nat.le_of_ble_eq_true rfl) dX2_marks_51 ⟨Nat.le_of_ble_eq_true rfl, Nat.le_of_ble_eq_true rfl⟩ (fun H locs hP hD hS => ?_)
    refine lv_eqi (y := mkU (x - abI y - f8 z) st i) (by rfl) ?_
    refine lv_istore (lv' := [(9, .int (mkU (x - abI y - f8 z) st i)), (0, .ref j), (1, .int x), (2, .int y), (3, .int z), (4, .int ((mksU (x - abI y - f8 z) st i).1)), (5, .int ((mksU (x - abI y - f8 z) st i).2.1)), (6, .int ((mksU (x - abI y - f8 z) st i).2.2)), (7, .int (x - abI y - f8 z)), (8, .int (nI i))]) hx hb dX2_marks_54 hl (by decide) rfl (fun ls hl => ?_)
    refine lv_iload hx hb dX2_marks_56 (lv_at hl 5 rfl) ?_
    refine lv_iload hx hb dX2_marks_58 (lv_at hl 0 rfl) ?_
    refine lv_iadd hx hb dX2_marks_60 ?_
    refine lv_eqi (y := (mksU (x - abI y - f8 z) st (i + 1)).1) (by rfl) ?_
    refine lv_istore (lv' := [(4, .int ((mksU (x - abI y - f8 z) st (i + 1)).1)), (9, .int (mkU (x - abI y - f8 z) st i)), (0, .ref j), (1, .int x), (2, .int y), (3, .int z), (5, .int ((mksU (x - abI y - f8 z) st i).2.1)), (6, .int ((mksU (x - abI y - f8 z) st i).2.2)), (7, .int (x - abI y - f8 z)), (8, .int (nI i))]) hx hb dX2_marks_61 hl (by decide) rfl (fun ls hl => ?_)
    refine lv_iload hx hb dX2_marks_63 (lv_at hl 6 rfl) ?_
    refine lv_iload hx hb dX2_marks_65 (lv_at hl 1 rfl) ?_
    refine va_mmax hx hb (hml.trans hl.1.symm) hown (hts (.methodLink RX2 25 Lib.Math.max.name) (by decide +kernel)) (hts (.static Lib.Math.max.name) (by decide +kernel)) (hts (.initialized "java/lang/Math") (by decide +kernel)) (hts (.code Lib.Math.max.name Lib.Math.max.code 2 (some .int)) (by decide +kernel)) (Nat.le_of_ble_eq_true rfl) (Nat.le_of_ble_eq_true rfl) (by exact Nat.le_of_ble_eq_true rfl) (by exact Nat.le_of_ble_eq_true rfl) dX2_marks_67 ?_
    refine lv_eqi (y := mxI ((mksU (x - abI y - f8 z) st i).2.1) (mkU (x - abI y - f8 z) st i)) rfl ?_
    refine lv_eqi (y := (mksU (x - abI y - f8 z) st (i + 1)).2.1) (by rfl) ?_
    refine lv_istore (lv' := [(5, .int ((mksU (x - abI y - f8 z) st (i + 1)).2.1)), (4, .int ((mksU (x - abI y - f8 z) st (i + 1)).1)), (9, .int (mkU (x - abI y - f8 z) st i)), (0, .ref j), (1, .int x), (2, .int y), (3, .int z), (6, .int ((mksU (x - abI y - f8 z) st i).2.2)), (7, .int (x - abI y - f8 z)), (8, .int (nI i))]) hx hb dX2_marks_70 hl (by decide) rfl (fun ls hl => ?_)
    refine lv_iload hx hb dX2_marks_72 (lv_at hl 7 rfl) ?_
    refine lv_iload hx hb dX2_marks_74 (lv_at hl 2 rfl) ?_
    refine va_mmin hx hb (hml.trans hl.1.symm) hown (hts (.methodLink RX2 29 Lib.Math.min.name) (by decide +kernel)) (hts (.static Lib.Math.min.name) (by decide +kernel)) (hts (.initialized "java/lang/Math") (by decide +kernel)) (hts (.code Lib.Math.min.name Lib.Math.min.code 2 (some .int)) (by decide +kernel)) (Nat.le_of_ble_eq_true rfl) (Nat.le_of_ble_eq_true rfl) (by exact Nat.le_of_ble_eq_true rfl) (by exact Nat.le_of_ble_eq_true rfl) dX2_marks_76 ?_
    refine lv_eqi (y := mnI ((mksU (x - abI y - f8 z) st i).2.2) (mkU (x - abI y - f8 z) st i)) rfl ?_
    refine lv_eqi (y := (mksU (x - abI y - f8 z) st (i + 1)).2.2) (by rfl) ?_
    refine lv_istore (lv' := [(6, .int ((mksU (x - abI y - f8 z) st (i + 1)).2.2)), (5, .int ((mksU (x - abI y - f8 z) st (i + 1)).2.1)), (4, .int ((mksU (x - abI y - f8 z) st (i + 1)).1)), (9, .int (mkU (x - abI y - f8 z) st i)), (0, .ref j), (1, .int x), (2, .int y), (3, .int z), (7, .int (x - abI y - f8 z)), (8, .int (nI i))]) hx hb dX2_marks_79 hl (by decide) rfl (fun ls hl => ?_)
    refine lv_iinc (v := (nI (i + 1))) (lv' := [(8, .int (nI (i + 1))), (6, .int ((mksU (x - abI y - f8 z) st (i + 1)).2.2)), (5, .int ((mksU (x - abI y - f8 z) st (i + 1)).2.1)), (4, .int ((mksU (x - abI y - f8 z) st (i + 1)).1)), (9, .int (mkU (x - abI y - f8 z) st i)), (0, .ref j), (1, .int x), (2, .int y), (3, .int z), (7, .int (x - abI y - f8 z))]) hx hb dX2_marks_81 hl (k := 9) rfl (by exact nI_1 _) (by decide) rfl (fun ls hl => ?_)
    refine lv_goto (tgt := 32) hx hb dX2_marks_84 (by decide) ?_
    exact ih_32 (i + 1) _ _ _ (show 5 - (i + 1) < 5 - i by omega) ⟨by omega, hP, hD, hS, lv_sub hl [5, 6, 7, 8, 3, 2, 1, 9, 0] rfl⟩
abbrev rm_kX2_addTo : Room := { frames := 0, cells := 0, slots := 0, locals := 0 }
set_option maxHeartbeats 4000000 in
set_option maxRecDepth 100000 in
theorem kX2_addTo (l : Launch) (D : va_G) (Y : Nat → ClassId) (sz : Nat) (j : Nat) (j1 : Nat) (st : fN) (d : Int64)  : ML l yX2_addTo wsX2_addTo rm_kX2_addTo D Y [.ref j, .long d] sz [(j, .inr (2, [.ref j1])), (j1, .inl (Y 0, 5, .inl st))] (dig1 st 5 d) [(j, .inr (2, [.ref j1])), (j1, .inl (Y 0, 5, .inl st))] 0 0 := by
  refine pcW_start (cc := cX2_addTo) (maxL := 6) (ret := (some .long)) (Qc := fun A => va_Ql (fun (r : Int64) (_ : Unit) => r = (dig1 st 5 d)) (qW D A [(j, .inr (2, [.ref j1])), (j1, .inl (Y 0, 5, .inl st))]) A) (by decide) rfl (Nat.le_of_ble_eq_true rfl) ?_
  intro p e s m below meth c A ls hE hKN hA hP hD hl
  obtain ⟨hx, hb, hr, hml, hown, hts, hlk, hin⟩ := hE
  have hown : s.vm.findClass RX2 = some m.cls := hown
  have hS : va_S A s.heap s.heap [] := va_S.rf
  have hi2 : ∀ w ∈ wsX20, w ∈ wsX2_addTo := by decide +kernel
  have hl : lv_has ls 6 [(0, .ref j), (1, .long d)] := hl
  refine lv_lload_n hx hb dX2_addTo_0 rfl (lv_at hl 1 rfl) ?_
  refine lv_lstore_n (lv' := [(3, .long d), (0, .ref j), (1, .long d)]) hx hb dX2_addTo_1 rfl hl (by decide) rfl (fun ls hl => ?_)
  refine lv_iconst (v := (0 : Int32)) hx hb dX2_addTo_2 (by decide) ?_
  refine lv_istore (lv' := [(5, .int (0 : Int32)), (3, .long d), (0, .ref j), (1, .long d)]) hx hb dX2_addTo_3 hl (by decide) rfl (fun ls hl => ?_)
  refine LPP (σ := Nat) (I := fun i H locs ls => i ≤ 5 ∧ va_P D vwCl [(j, .inr (2, [.ref j1])), (j1, .inl (Y 0, 5, .inl st))] H ∧ va_D A [(j, .inr (2, [.ref j1])), (j1, .inl (Y 0, 5, .inl st))] ∧ va_S A s.heap H locs ∧ lv_has ls 6 [(0, .ref j), (3, .long (dig1 st i d)), (5, .int (nI i))]) (μ := fun i => 5 - i) (cl := fun i => 0) (sl := fun i => 0) (fun i ih_5 H locs ls hI => ?_) 0 _ _ _ ⟨by omega, hP, hD, hS, lv_sub hl [2, 1, 0] rfl⟩
  obtain ⟨hi, hP, hD, hS, hl⟩ := hI
  refine lv_iload hx hb dX2_addTo_5 (lv_at hl 2 rfl) ?_
  refine lv_iconst (v := (5 : Int32)) hx hb dX2_addTo_7 (by decide) ?_
  refine lv_icmp_ge (tgt := 32) hx hb dX2_addTo_8 (by decide) (fun c_8 => ?_) (fun c_8 => ?_)
  · have hlt := ngl (N := 5) (by first | decide | omega) (by omega) c_8
    obtain rfl : 5 = i := by omega
    refine lv_lload_n hx hb dX2_addTo_32 rfl (lv_at hl 1 rfl) ?_
    exact eL hx hb hr hlk hP hD hS (by rfl) (by exact Nat.le_of_ble_eq_true rfl) (by exact Nat.le_of_ble_eq_true rfl) dX2_addTo_33
  · have hlt := nge (N := 5) (by first | decide | omega) (by omega) c_8
    refine lv_lload_n hx hb dX2_addTo_11 rfl (lv_at hl 1 rfl) ?_
    refine lv_ldc2 (v := (31 : Int64)) hx hb hown (hts (.constantLong RX2 32 (31 : Int64)) (by decide +kernel)) dX2_addTo_12 ?_
    refine lv_lmul hx hb dX2_addTo_15 ?_
    refine lv_aload_n hx hb dX2_addTo_16 rfl (lv_at hl 0 rfl) ?_
    refine va_get (D := D) (ci := 2) (v := .ref j1) (C := RX2) (T := TX2) (N := 1) hx hb hts hi2 hown hKN.1 hP 0 rfl rfl 0 (by decide) (hts (.fieldLink RX2 9 "SnowPumps$Jury" "strict" "[I") (by decide +kernel)) (fun _ h9 => h9) rfl dX2_addTo_17 ?_
    refine lv_iload hx hb dX2_addTo_20 (lv_at hl 2 rfl) ?_
    refine ia hx hb hKN.1 hP 1 0 rfl rfl i (by rfl) (by omega) (by first | decide | assumption | omega) dX2_addTo_22 ?_
    refine lv_i2l hx hb dX2_addTo_23 rfl ?_
    refine lv_ladd hx hb dX2_addTo_24 ?_
    refine lv_eql (y := dig1 st (i + 1) d) (by rfl) ?_
    refine lv_lstore_n (lv' := [(3, .long (dig1 st (i + 1) d)), (0, .ref j), (5, .int (nI i))]) hx hb dX2_addTo_25 rfl hl (by decide) rfl (fun ls hl => ?_)
    refine lv_iinc (v := (nI (i + 1))) (lv' := [(5, .int (nI (i + 1))), (3, .long (dig1 st (i + 1) d)), (0, .ref j)]) hx hb dX2_addTo_26 hl (k := 2) rfl (by exact nI_1 _) (by decide) rfl (fun ls hl => ?_)
    refine lv_goto (tgt := 5) hx hb dX2_addTo_29 (by decide) ?_
    exact ih_5 (i + 1) _ _ _ (show 5 - (i + 1) < 5 - i by omega) ⟨by omega, hP, hD, hS, lv_sub hl [2, 1, 0] rfl⟩
abbrev rm_kX4_addTo : Room := { frames := 0, cells := 0, slots := 0, locals := 0 }
set_option maxHeartbeats 4000000 in
set_option maxRecDepth 100000 in
theorem kX4_addTo (l : Launch) (D : va_G) (Y : Nat → ClassId) (sz : Nat) (w : Nat) (w1 : Nat) (w2 : Nat) (w3 : Nat) (wa : fN) (da : fN) (gu : fN) (d : Int64)  : ML l yX4_addTo wsX4_addTo rm_kX4_addTo D Y [.ref w, .long d] sz [(w, .inr (4, [.ref w1, .ref w2, .ref w3])), (w1, .inl (Y 0, 24, .inl wa)), (w2, .inl (Y 0, 24, .inl da)), (w3, .inl (Y 0, 24, .inl gu))] (dig3 wa da gu 24 d) [(w, .inr (4, [.ref w1, .ref w2, .ref w3])), (w1, .inl (Y 0, 24, .inl wa)), (w2, .inl (Y 0, 24, .inl da)), (w3, .inl (Y 0, 24, .inl gu))] 0 0 := by
  refine pcW_start (cc := cX4_addTo) (maxL := 6) (ret := (some .long)) (Qc := fun A => va_Ql (fun (r : Int64) (_ : Unit) => r = (dig3 wa da gu 24 d)) (qW D A [(w, .inr (4, [.ref w1, .ref w2, .ref w3])), (w1, .inl (Y 0, 24, .inl wa)), (w2, .inl (Y 0, 24, .inl da)), (w3, .inl (Y 0, 24, .inl gu))]) A) (by decide) rfl (Nat.le_of_ble_eq_true rfl) ?_
  intro p e s m below meth c A ls hE hKN hA hP hD hl
  obtain ⟨hx, hb, hr, hml, hown, hts, hlk, hin⟩ := hE
  have hown : s.vm.findClass RX4 = some m.cls := hown
  have hS : va_S A s.heap s.heap [] := va_S.rf
  have hi4 : ∀ w ∈ wsX40, w ∈ wsX4_addTo := by decide +kernel
  have hl : lv_has ls 6 [(0, .ref w), (1, .long d)] := hl
  refine lv_lload_n hx hb dX4_addTo_0 rfl (lv_at hl 1 rfl) ?_
  refine lv_lstore_n (lv' := [(3, .long d), (0, .ref w), (1, .long d)]) hx hb dX4_addTo_1 rfl hl (by decide) rfl (fun ls hl => ?_)
  refine lv_iconst (v := (0 : Int32)) hx hb dX4_addTo_2 (by decide) ?_
  refine lv_istore (lv' := [(5, .int (0 : Int32)), (3, .long d), (0, .ref w), (1, .long d)]) hx hb dX4_addTo_3 hl (by decide) rfl (fun ls hl => ?_)
  refine LPP (σ := Nat) (I := fun i H locs ls => i ≤ 24 ∧ va_P D vwCl [(w, .inr (4, [.ref w1, .ref w2, .ref w3])), (w1, .inl (Y 0, 24, .inl wa)), (w2, .inl (Y 0, 24, .inl da)), (w3, .inl (Y 0, 24, .inl gu))] H ∧ va_D A [(w, .inr (4, [.ref w1, .ref w2, .ref w3])), (w1, .inl (Y 0, 24, .inl wa)), (w2, .inl (Y 0, 24, .inl da)), (w3, .inl (Y 0, 24, .inl gu))] ∧ va_S A s.heap H locs ∧ lv_has ls 6 [(0, .ref w), (3, .long (dig3 wa da gu i d)), (5, .int (nI i))]) (μ := fun i => 24 - i) (cl := fun i => 0) (sl := fun i => 0) (fun i ih_5 H locs ls hI => ?_) 0 _ _ _ ⟨by omega, hP, hD, hS, lv_sub hl [2, 1, 0] rfl⟩
  obtain ⟨hi, hP, hD, hS, hl⟩ := hI
  refine lv_iload hx hb dX4_addTo_5 (lv_at hl 2 rfl) ?_
  refine lv_bipush (v := (24 : Int32)) hx hb dX4_addTo_7 (by decide) ?_
  refine lv_icmp_ge (tgt := 63) hx hb dX4_addTo_9 (by decide) (fun c_9 => ?_) (fun c_9 => ?_)
  · have hlt := ngl (N := 24) (by first | decide | omega) (by omega) c_9
    obtain rfl : 24 = i := by omega
    refine lv_lload_n hx hb dX4_addTo_63 rfl (lv_at hl 1 rfl) ?_
    exact eL hx hb hr hlk hP hD hS (by rfl) (by exact Nat.le_of_ble_eq_true rfl) (by exact Nat.le_of_ble_eq_true rfl) dX4_addTo_64
  · have hlt := nge (N := 24) (by first | decide | omega) (by omega) c_9
    refine lv_lload_n hx hb dX4_addTo_12 rfl (lv_at hl 1 rfl) ?_
    refine lv_ldc2 (v := (31 : Int64)) hx hb hown (hts (.constantLong RX4 21 (31 : Int64)) (by decide +kernel)) dX4_addTo_13 ?_
    refine lv_lmul hx hb dX4_addTo_16 ?_
    refine lv_aload_n hx hb dX4_addTo_17 rfl (lv_at hl 0 rfl) ?_
    refine va_get (D := D) (ci := 4) (v := .ref w1) (C := RX4) (T := TX4) (N := 3) hx hb hts hi4 hown hKN.1 hP 0 rfl rfl 0 (by decide) (hts (.fieldLink RX4 9 "SnowPumps$Weather" "warmth" "[I") (by decide +kernel)) (fun _ h9 => h9) rfl dX4_addTo_18 ?_
    refine lv_iload hx hb dX4_addTo_21 (lv_at hl 2 rfl) ?_
    refine ia hx hb hKN.1 hP 1 0 rfl rfl i (by rfl) (by omega) (by first | decide | assumption | omega) dX4_addTo_23 ?_
    refine lv_i2l hx hb dX4_addTo_24 rfl ?_
    refine lv_ladd hx hb dX4_addTo_25 ?_
    refine lv_lstore_n (lv' := [(3, .long (((dig3 wa da gu i d) * (31 : Int64)) + ((wa i).toInt64))), (0, .ref w), (5, .int (nI i))]) hx hb dX4_addTo_26 rfl hl (by decide) rfl (fun ls hl => ?_)
    refine lv_lload_n hx hb dX4_addTo_27 rfl (lv_at hl 0 rfl) ?_
    refine lv_ldc2 (v := (31 : Int64)) hx hb hown (hts (.constantLong RX4 21 (31 : Int64)) (by decide +kernel)) dX4_addTo_28 ?_
    refine lv_lmul hx hb dX4_addTo_31 ?_
    refine lv_aload_n hx hb dX4_addTo_32 rfl (lv_at hl 1 rfl) ?_
    refine va_get (D := D) (ci := 4) (v := .ref w2) (C := RX4) (T := TX4) (N := 3) hx hb hts hi4 hown hKN.1 hP 0 rfl rfl 1 (by decide) (hts (.fieldLink RX4 15 "SnowPumps$Weather" "damp" "[I") (by decide +kernel)) (fun _ h9 => h9) rfl dX4_addTo_33 ?_
    refine lv_iload hx hb dX4_addTo_36 (lv_at hl 2 rfl) ?_
    refine ia hx hb hKN.1 hP 2 0 rfl rfl i (by rfl) (by omega) (by first | decide | assumption | omega) dX4_addTo_38 ?_
    refine lv_i2l hx hb dX4_addTo_39 rfl ?_
    refine lv_ladd hx hb dX4_addTo_40 ?_
    refine lv_lstore_n (lv' := [(3, .long (((((dig3 wa da gu i d) * (31 : Int64)) + ((wa i).toInt64)) * (31 : Int64)) + ((da i).toInt64))), (0, .ref w), (5, .int (nI i))]) hx hb dX4_addTo_41 rfl hl (by decide) rfl (fun ls hl => ?_)
    refine lv_lload_n hx hb dX4_addTo_42 rfl (lv_at hl 0 rfl) ?_
    refine lv_ldc2 (v := (31 : Int64)) hx hb hown (hts (.constantLong RX4 21 (31 : Int64)) (by decide +kernel)) dX4_addTo_43 ?_
    refine lv_lmul hx hb dX4_addTo_46 ?_
    refine lv_aload_n hx hb dX4_addTo_47 rfl (lv_at hl 1 rfl) ?_
    refine va_get (D := D) (ci := 4) (v := .ref w3) (C := RX4) (T := TX4) (N := 3) hx hb hts hi4 hown hKN.1 hP 0 rfl rfl 2 (by decide) (hts (.fieldLink RX4 18 "SnowPumps$Weather" "gust" "[I") (by decide +kernel)) (fun _ h9 => h9) rfl dX4_addTo_48 ?_
    refine lv_iload hx hb dX4_addTo_51 (lv_at hl 2 rfl) ?_
    refine ia hx hb hKN.1 hP 3 0 rfl rfl i (by rfl) (by omega) (by first | decide | assumption | omega) dX4_addTo_53 ?_
    refine lv_i2l hx hb dX4_addTo_54 rfl ?_
    refine lv_ladd hx hb dX4_addTo_55 ?_
    refine lv_eql (y := dig3 wa da gu (i + 1) d) (by rfl) ?_
    refine lv_lstore_n (lv' := [(3, .long (dig3 wa da gu (i + 1) d)), (0, .ref w), (5, .int (nI i))]) hx hb dX4_addTo_56 rfl hl (by decide) rfl (fun ls hl => ?_)
    refine lv_iinc (v := (nI (i + 1))) (lv' := [(5, .int (nI (i + 1))), (3, .long (dig3 wa da gu (i + 1) d)), (0, .ref w)]) hx hb dX4_addTo_57 hl (k := 2) rfl (by exact nI_1 _) (by decide) rfl (fun ls hl => ?_)
    refine lv_goto (tgt := 5) hx hb dX4_addTo_60 (by decide) ?_
    exact ih_5 (i + 1) _ _ _ (show 24 - (i + 1) < 24 - i by omega) ⟨by omega, hP, hD, hS, lv_sub hl [2, 1, 0] rfl⟩
abbrev rm_kX1_add : Room := { frames := 0, cells := 0, slots := 0, locals := 0 }
set_option maxHeartbeats 4000000 in
set_option maxRecDepth 100000 in
theorem kX1_add (l : Launch) (D : va_G) (Y : Nat → ClassId) (sz : Nat) (u : Nat) (u1 : Nat) (u2 : Nat) (u3 : Nat) (u4 : Nat) (u5 : Nat) (nj : Nat) (jr : fN) (ln : fN) (pt : fN) (fa : fN) (ho : fN) (who : Int32) (far : Int32) (wo : Int32) (fe : Int32) (tm : Int32) (hnj : nj < 30) (hfe : fe = 0 ∨ fe = 1) : MI l yX1_add wsX1_add rm_kX1_add D Y [.ref u, .int who, .int far, .int wo, .int fe, .int tm] sz [(u, .inr (1, [.ref u1, .ref u2, .ref u3, .ref u4, .ref u5, .int (nI nj)])), (u1, .inl (Y 0, 30, .inl jr)), (u2, .inl (Y 0, 30, .inl ln)), (u3, .inl (Y 0, 30, .inl pt)), (u4, .inl (Y 0, 30, .inl fa)), (u5, .inl (Y 0, 30, .inl ho))] (nI nj) [(u, .inr (1, [.ref u1, .ref u2, .ref u3, .ref u4, .ref u5, .int (nI (nj + 1))])), (u1, .inl (Y 0, 30, .inl (upd jr nj who))), (u2, .inl (Y 0, 30, .inl (upd ln nj far))), (u3, .inl (Y 0, 30, .inl (upd pt nj wo))), (u4, .inl (Y 0, 30, .inl (upd fa nj fe))), (u5, .inl (Y 0, 30, .inl (upd ho nj tm)))] 0 0 := by
  refine pcW_start (cc := cX1_add) (maxL := 7) (ret := (some .int)) (Qc := fun A => va_Qi (fun (r : Int32) (_ : Unit) => r = (nI nj)) (qW D A [(u, .inr (1, [.ref u1, .ref u2, .ref u3, .ref u4, .ref u5, .int (nI (nj + 1))])), (u1, .inl (Y 0, 30, .inl (upd jr nj who))), (u2, .inl (Y 0, 30, .inl (upd ln nj far))), (u3, .inl (Y 0, 30, .inl (upd pt nj wo))), (u4, .inl (Y 0, 30, .inl (upd fa nj fe))), (u5, .inl (Y 0, 30, .inl (upd ho nj tm)))]) A) (by decide) rfl (Nat.le_of_ble_eq_true rfl) ?_
  intro p e s m below meth c A ls hE hKN hA hP hD hl
  obtain ⟨hx, hb, hr, hml, hown, hts, hlk, hin⟩ := hE
  have hown : s.vm.findClass RX1 = some m.cls := hown
  have hS : va_S A s.heap s.heap [] := va_S.rf
  have hi1 : ∀ w ∈ wsX10, w ∈ wsX1_add := by decide +kernel
  have hl : lv_has ls 7 [(0, .ref u), (1, .int who), (2, .int far), (3, .int wo), (4, .int fe), (5, .int tm)] := hl
  refine lv_aload_n hx hb dX1_add_0 rfl (lv_at hl 0 rfl) ?_
  refine va_get (D := D) (ci := 1) (v := .int (nI nj)) (C := RX1) (T := TX1) (N := 6) hx hb hts hi1 hown hKN.1 hP 0 rfl rfl 5 (by decide) (hts (.fieldLink RX1 27 "SnowPumps$Jumps" "count" "I") (by decide +kernel)) (fun _ h9 => h9) rfl dX1_add_1 ?_
  refine lv_istore (lv' := [(6, .int (nI nj)), (0, .ref u), (1, .int who), (2, .int far), (3, .int wo), (4, .int fe), (5, .int tm)]) hx hb dX1_add_4 hl (by decide) rfl (fun ls hl => ?_)
  refine lv_aload_n hx hb dX1_add_6 rfl (lv_at hl 1 rfl) ?_
  refine va_get (D := D) (ci := 1) (v := .ref u1) (C := RX1) (T := TX1) (N := 6) hx hb hts hi1 hown hKN.1 hP 0 rfl rfl 0 (by decide) (hts (.fieldLink RX1 9 "SnowPumps$Jumps" "jumper" "[I") (by decide +kernel)) (fun _ h9 => h9) rfl dX1_add_7 ?_
  refine lv_iload hx hb dX1_add_10 (lv_at hl 0 rfl) ?_
  refine lv_iload_n hx hb dX1_add_12 rfl (lv_at hl 2 rfl) ?_
  refine is hx hb hKN.1 hP hD hS 1 0 rfl rfl nj (by rfl) (by omega) (by first | decide | assumption | omega) dX1_add_13 (fun H locs hP hD hS => ?_)
  have hP : va_P D vwCl [(u, .inr (1, [.ref u1, .ref u2, .ref u3, .ref u4, .ref u5, .int (nI nj)])), (u1, .inl (Y 0, 30, .inl (upd jr nj who))), (u2, .inl (Y 0, 30, .inl ln)), (u3, .inl (Y 0, 30, .inl pt)), (u4, .inl (Y 0, 30, .inl fa)), (u5, .inl (Y 0, 30, .inl ho))] _ := hP
  have hD : va_D A [(u, .inr (1, [.ref u1, .ref u2, .ref u3, .ref u4, .ref u5, .int (nI nj)])), (u1, .inl (Y 0, 30, .inl (upd jr nj who))), (u2, .inl (Y 0, 30, .inl ln)), (u3, .inl (Y 0, 30, .inl pt)), (u4, .inl (Y 0, 30, .inl fa)), (u5, .inl (Y 0, 30, .inl ho))] := hD
  refine lv_aload_n hx hb dX1_add_14 rfl (lv_at hl 1 rfl) ?_
  refine va_get (D := D) (ci := 1) (v := .ref u2) (C := RX1) (T := TX1) (N := 6) hx hb hts hi1 hown hKN.1 hP 0 rfl rfl 1 (by decide) (hts (.fieldLink RX1 15 "SnowPumps$Jumps" "length" "[I") (by decide +kernel)) (fun _ h9 => h9) rfl dX1_add_15 ?_
  refine lv_iload hx hb dX1_add_18 (lv_at hl 0 rfl) ?_
  refine lv_iload_n hx hb dX1_add_20 rfl (lv_at hl 3 rfl) ?_
  refine is hx hb hKN.1 hP hD hS 2 0 rfl rfl nj (by rfl) (by omega) (by first | decide | assumption | omega) dX1_add_21 (fun H locs hP hD hS => ?_)
  have hP : va_P D vwCl [(u, .inr (1, [.ref u1, .ref u2, .ref u3, .ref u4, .ref u5, .int (nI nj)])), (u1, .inl (Y 0, 30, .inl (upd jr nj who))), (u2, .inl (Y 0, 30, .inl (upd ln nj far))), (u3, .inl (Y 0, 30, .inl pt)), (u4, .inl (Y 0, 30, .inl fa)), (u5, .inl (Y 0, 30, .inl ho))] _ := hP
  have hD : va_D A [(u, .inr (1, [.ref u1, .ref u2, .ref u3, .ref u4, .ref u5, .int (nI nj)])), (u1, .inl (Y 0, 30, .inl (upd jr nj who))), (u2, .inl (Y 0, 30, .inl (upd ln nj far))), (u3, .inl (Y 0, 30, .inl pt)), (u4, .inl (Y 0, 30, .inl fa)), (u5, .inl (Y 0, 30, .inl ho))] := hD
  refine lv_aload_n hx hb dX1_add_22 rfl (lv_at hl 1 rfl) ?_
  refine va_get (D := D) (ci := 1) (v := .ref u3) (C := RX1) (T := TX1) (N := 6) hx hb hts hi1 hown hKN.1 hP 0 rfl rfl 2 (by decide) (hts (.fieldLink RX1 18 "SnowPumps$Jumps" "points" "[I") (by decide +kernel)) (fun _ h9 => h9) rfl dX1_add_23 ?_
  refine lv_iload hx hb dX1_add_26 (lv_at hl 0 rfl) ?_
  refine lv_iload_n hx hb dX1_add_28 rfl (lv_at hl 4 rfl) ?_
  refine is hx hb hKN.1 hP hD hS 3 0 rfl rfl nj (by rfl) (by omega) (by first | decide | assumption | omega) dX1_add_29 (fun H locs hP hD hS => ?_)
  have hP : va_P D vwCl [(u, .inr (1, [.ref u1, .ref u2, .ref u3, .ref u4, .ref u5, .int (nI nj)])), (u1, .inl (Y 0, 30, .inl (upd jr nj who))), (u2, .inl (Y 0, 30, .inl (upd ln nj far))), (u3, .inl (Y 0, 30, .inl (upd pt nj wo))), (u4, .inl (Y 0, 30, .inl fa)), (u5, .inl (Y 0, 30, .inl ho))] _ := hP
  have hD : va_D A [(u, .inr (1, [.ref u1, .ref u2, .ref u3, .ref u4, .ref u5, .int (nI nj)])), (u1, .inl (Y 0, 30, .inl (upd jr nj who))), (u2, .inl (Y 0, 30, .inl (upd ln nj far))), (u3, .inl (Y 0, 30, .inl (upd pt nj wo))), (u4, .inl (Y 0, 30, .inl fa)), (u5, .inl (Y 0, 30, .inl ho))] := hD
  refine lv_aload_n hx hb dX1_add_30 rfl (lv_at hl 1 rfl) ?_
  refine va_get (D := D) (ci := 1) (v := .ref u4) (C := RX1) (T := TX1) (N := 6) hx hb hts hi1 hown hKN.1 hP 0 rfl rfl 3 (by decide) (hts (.fieldLink RX1 21 "SnowPumps$Jumps" "fall" "[I") (by decide +kernel)) (fun _ h9 => h9) rfl dX1_add_31 ?_
  refine lv_iload hx hb dX1_add_34 (lv_at hl 0 rfl) ?_
  refine lv_iload hx hb dX1_add_36 (lv_at hl 5 rfl) ?_
  refine JT (jp := 46) (r' := [.int (nI nj), .ref u4]) (E := fe) (fun K_1 => ?_) ?_
  · refine lv_if_eq (tgt := 45) hx hb dX1_add_38 (by decide) (fun c_38 => ?_) (fun c_38 => ?_)
    · refine lv_iconst (v := (0 : Int32)) hx hb dX1_add_45 (by decide) ?_
      exact K_1 _ (by first | exact c_38.symm | exact (hfe.resolve_left c_38).symm)
    · refine lv_iconst (v := (1 : Int32)) hx hb dX1_add_41 (by decide) ?_
      refine lv_goto (tgt := 46) hx hb dX1_add_42 (by decide) ?_
      exact K_1 _ (by first | exact c_38.symm | exact (hfe.resolve_left c_38).symm)
  refine is hx hb hKN.1 hP hD hS 4 0 rfl rfl nj (by rfl) (by omega) (by first | decide | assumption | omega) dX1_add_46 (fun H locs hP hD hS => ?_)
  have hP : va_P D vwCl [(u, .inr (1, [.ref u1, .ref u2, .ref u3, .ref u4, .ref u5, .int (nI nj)])), (u1, .inl (Y 0, 30, .inl (upd jr nj who))), (u2, .inl (Y 0, 30, .inl (upd ln nj far))), (u3, .inl (Y 0, 30, .inl (upd pt nj wo))), (u4, .inl (Y 0, 30, .inl (upd fa nj fe))), (u5, .inl (Y 0, 30, .inl ho))] _ := hP
  have hD : va_D A [(u, .inr (1, [.ref u1, .ref u2, .ref u3, .ref u4, .ref u5, .int (nI nj)])), (u1, .inl (Y 0, 30, .inl (upd jr nj who))), (u2, .inl (Y 0, 30, .inl (upd ln nj far))), (u3, .inl (Y 0, 30, .inl (upd pt nj wo))), (u4, .inl (Y 0, 30, .inl (upd fa nj fe))), (u5, .inl (Y 0, 30, .inl ho))] := hD
  refine lv_aload_n hx hb dX1_add_47 rfl (lv_at hl 1 rfl) ?_
  refine va_get (D := D) (ci := 1) (v := .ref u5) (C := RX1) (T := TX1) (N := 6) hx hb hts hi1 hown hKN.1 hP 0 rfl rfl 4 (by decide) (hts (.fieldLink RX1 24 "SnowPumps$Jumps" "hour" "[I") (by decide +kernel)) (fun _ h9 => h9) rfl dX1_add_48 ?_
  refine lv_iload hx hb dX1_add_51 (lv_at hl 0 rfl) ?_
  refine lv_iload hx hb dX1_add_53 (lv_at hl 6 rfl) ?_
  refine is hx hb hKN.1 hP hD hS 5 0 rfl rfl nj (by rfl) (by omega) (by first | decide | assumption | omega) dX1_add_55 (fun H locs hP hD hS => ?_)
  have hP : va_P D vwCl [(u, .inr (1, [.ref u1, .ref u2, .ref u3, .ref u4, .ref u5, .int (nI nj)])), (u1, .inl (Y 0, 30, .inl (upd jr nj who))), (u2, .inl (Y 0, 30, .inl (upd ln nj far))), (u3, .inl (Y 0, 30, .inl (upd pt nj wo))), (u4, .inl (Y 0, 30, .inl (upd fa nj fe))), (u5, .inl (Y 0, 30, .inl (upd ho nj tm)))] _ := hP
  have hD : va_D A [(u, .inr (1, [.ref u1, .ref u2, .ref u3, .ref u4, .ref u5, .int (nI nj)])), (u1, .inl (Y 0, 30, .inl (upd jr nj who))), (u2, .inl (Y 0, 30, .inl (upd ln nj far))), (u3, .inl (Y 0, 30, .inl (upd pt nj wo))), (u4, .inl (Y 0, 30, .inl (upd fa nj fe))), (u5, .inl (Y 0, 30, .inl (upd ho nj tm)))] := hD
  refine lv_aload_n hx hb dX1_add_56 rfl (lv_at hl 1 rfl) ?_
  refine lv_iload hx hb dX1_add_57 (lv_at hl 0 rfl) ?_
  refine lv_iconst (v := (1 : Int32)) hx hb dX1_add_59 (by decide) ?_
  refine lv_iadd hx hb dX1_add_60 ?_
  refine lv_eqi (y := nI (nj + 1)) (by exact nI_1 _) ?_
  refine va_put (D := D) (ci := 1) (v := .int (nI (nj + 1))) (ty := .int) (C := RX1) (T := TX1) (N := 6) hx hb hts hi1 tyX1 tyX1_ok nmX1 hown hKN.1 hP hD hS 0 rfl rfl 5 (by decide) (hts (.fieldLink RX1 27 "SnowPumps$Jumps" "count" "I") (by decide +kernel)) (fun _ h9 => h9) rfl (by decide +kernel) rfl rfl (Nat.le_of_ble_eq_true rfl) dX1_add_61 (fun H locs hP hD hS => ?_)
  have hP : va_P D vwCl [(u, .inr (1, [.ref u1, .ref u2, .ref u3, .ref u4, .ref u5, .int (nI (nj + 1))])), (u1, .inl (Y 0, 30, .inl (upd jr nj who))), (u2, .inl (Y 0, 30, .inl (upd ln nj far))), (u3, .inl (Y 0, 30, .inl (upd pt nj wo))), (u4, .inl (Y 0, 30, .inl (upd fa nj fe))), (u5, .inl (Y 0, 30, .inl (upd ho nj tm)))] _ := hP
  have hD : va_D A [(u, .inr (1, [.ref u1, .ref u2, .ref u3, .ref u4, .ref u5, .int (nI (nj + 1))])), (u1, .inl (Y 0, 30, .inl (upd jr nj who))), (u2, .inl (Y 0, 30, .inl (upd ln nj far))), (u3, .inl (Y 0, 30, .inl (upd pt nj wo))), (u4, .inl (Y 0, 30, .inl (upd fa nj fe))), (u5, .inl (Y 0, 30, .inl (upd ho nj tm)))] := hD
  refine lv_iload hx hb dX1_add_64 (lv_at hl 0 rfl) ?_
  exact eI hx hb hr hlk hP hD hS (by rfl) (by rfl) (by exact Nat.le_of_ble_eq_true rfl) (by exact Nat.le_of_ble_eq_true rfl) dX1_add_66
abbrev rm_kX1_tell : Room := { frames := 0, cells := 0, slots := 0, locals := 0 }
set_option maxHeartbeats 4000000 in
set_option maxRecDepth 100000 in
theorem kX1_tell (l : Launch) (D : va_G) (Y : Nat → ClassId) (sz : Nat) (u : Nat) (u1 : Nat) (u2 : Nat) (u3 : Nat) (u4 : Nat) (u5 : Nat) (nj : Nat) (jr : fN) (ln : fN) (pt : fN) (fa : fN) (ho : fN) (k : Nat) (q : Nat) (hk : k < 30) (hq : q < 5) : MI l yX1_tell wsX1_tell rm_kX1_tell D Y [.ref u, .int (nI k), .int (nI q)] sz [(u, .inr (1, [.ref u1, .ref u2, .ref u3, .ref u4, .ref u5, .int (nI nj)])), (u1, .inl (Y 0, 30, .inl jr)), (u2, .inl (Y 0, 30, .inl ln)), (u3, .inl (Y 0, 30, .inl pt)), (u4, .inl (Y 0, 30, .inl fa)), (u5, .inl (Y 0, 30, .inl ho))] (tellU jr ln pt fa ho k q) [(u, .inr (1, [.ref u1, .ref u2, .ref u3, .ref u4, .ref u5, .int (nI nj)])), (u1, .inl (Y 0, 30, .inl jr)), (u2, .inl (Y 0, 30, .inl ln)), (u3, .inl (Y 0, 30, .inl pt)), (u4, .inl (Y 0, 30, .inl fa)), (u5, .inl (Y 0, 30, .inl ho))] 0 0 := by
  refine pcW_start (cc := cX1_tell) (maxL := 3) (ret := (some .int)) (Qc := fun A => va_Qi (fun (r : Int32) (_ : Unit) => r = (tellU jr ln pt fa ho k q)) (qW D A [(u, .inr (1, [.ref u1, .ref u2, .ref u3, .ref u4, .ref u5, .int (nI nj)])), (u1, .inl (Y 0, 30, .inl jr)), (u2, .inl (Y 0, 30, .inl ln)), (u3, .inl (Y 0, 30, .inl pt)), (u4, .inl (Y 0, 30, .inl fa)), (u5, .inl (Y 0, 30, .inl ho))]) A) (by decide) rfl (Nat.le_of_ble_eq_true rfl) ?_
  intro p e s m below meth c A ls hE hKN hA hP hD hl
  obtain ⟨hx, hb, hr, hml, hown, hts, hlk, hin⟩ := hE
  have hown : s.vm.findClass RX1 = some m.cls := hown
  have hS : va_S A s.heap s.heap [] := va_S.rf
  have hi1 : ∀ w ∈ wsX10, w ∈ wsX1_tell := by decide +kernel
  have hl : lv_has ls 3 [(0, .ref u), (1, .int (nI k)), (2, .int (nI q))] := hl
  refine lv_iload_n hx hb dX1_tell_0 rfl (lv_at hl 2 rfl) ?_
  rcases (show q = 0 ∨ q = 1 ∨ q = 2 ∨ q = 3 ∨ q = 4 by omega) with rfl | rfl | rfl | rfl | rfl
  · refine lv_tableIn (x := nI 0) (off := 31) (tgt := 32) hx hb dX1_tell_1 (by decide) (by decide) rfl (by decide) ?_
    refine lv_aload_n hx hb dX1_tell_32 rfl (lv_at hl 0 rfl) ?_
    refine va_get (D := D) (ci := 1) (v := .ref u1) (C := RX1) (T := TX1) (N := 6) hx hb hts hi1 hown hKN.1 hP 0 rfl rfl 0 (by decide) (hts (.fieldLink RX1 9 "SnowPumps$Jumps" "jumper" "[I") (by decide +kernel)) (fun _ h9 => h9) rfl dX1_tell_33 ?_
    refine lv_iload_n hx hb dX1_tell_36 rfl (lv_at hl 1 rfl) ?_
    refine ia hx hb hKN.1 hP 1 0 rfl rfl k (by rfl) (by omega) (by first | decide | assumption | omega) dX1_tell_37 ?_
    exact eI hx hb hr hlk hP hD hS (by rfl) (by rfl) (by exact Nat.le_of_ble_eq_true rfl) (by exact Nat.le_of_ble_eq_true rfl) dX1_tell_38
  · refine lv_tableIn (x := nI 1) (off := 38) (tgt := 39) hx hb dX1_tell_1 (by decide) (by decide) rfl (by decide) ?_
    refine lv_aload_n hx hb dX1_tell_39 rfl (lv_at hl 0 rfl) ?_
    refine va_get (D := D) (ci := 1) (v := .ref u2) (C := RX1) (T := TX1) (N := 6) hx hb hts hi1 hown hKN.1 hP 0 rfl rfl 1 (by decide) (hts (.fieldLink RX1 15 "SnowPumps$Jumps" "length" "[I") (by decide +kernel)) (fun _ h9 => h9) rfl dX1_tell_40 ?_
    refine lv_iload_n hx hb dX1_tell_43 rfl (lv_at hl 1 rfl) ?_
    refine ia hx hb hKN.1 hP 2 0 rfl rfl k (by rfl) (by omega) (by first | decide | assumption | omega) dX1_tell_44 ?_
    exact eI hx hb hr hlk hP hD hS (by rfl) (by rfl) (by exact Nat.le_of_ble_eq_true rfl) (by exact Nat.le_of_ble_eq_true rfl) dX1_tell_45
  · refine lv_tableIn (x := nI 2) (off := 45) (tgt := 46) hx hb dX1_tell_1 (by decide) (by decide) rfl (by decide) ?_
    refine lv_aload_n hx hb dX1_tell_46 rfl (lv_at hl 0 rfl) ?_
    refine va_get (D := D) (ci := 1) (v := .ref u3) (C := RX1) (T := TX1) (N := 6) hx hb hts hi1 hown hKN.1 hP 0 rfl rfl 2 (by decide) (hts (.fieldLink RX1 18 "SnowPumps$Jumps" "points" "[I") (by decide +kernel)) (fun _ h9 => h9) rfl dX1_tell_47 ?_
    refine lv_iload_n hx hb dX1_tell_50 rfl (lv_at hl 1 rfl) ?_
    refine ia hx hb hKN.1 hP 3 0 rfl rfl k (by rfl) (by omega) (by first | decide | assumption | omega) dX1_tell_51 ?_
    exact eI hx hb hr hlk hP hD hS (by rfl) (by rfl) (by exact Nat.le_of_ble_eq_true rfl) (by exact Nat.le_of_ble_eq_true rfl) dX1_tell_52
  · refine lv_tableIn (x := nI 3) (off := 52) (tgt := 53) hx hb dX1_tell_1 (by decide) (by decide) rfl (by decide) ?_
    refine lv_aload_n hx hb dX1_tell_53 rfl (lv_at hl 0 rfl) ?_
    refine va_get (D := D) (ci := 1) (v := .ref u4) (C := RX1) (T := TX1) (N := 6) hx hb hts hi1 hown hKN.1 hP 0 rfl rfl 3 (by decide) (hts (.fieldLink RX1 21 "SnowPumps$Jumps" "fall" "[I") (by decide +kernel)) (fun _ h9 => h9) rfl dX1_tell_54 ?_
    refine lv_iload_n hx hb dX1_tell_57 rfl (lv_at hl 1 rfl) ?_
    refine ia hx hb hKN.1 hP 4 0 rfl rfl k (by rfl) (by omega) (by first | decide | assumption | omega) dX1_tell_58 ?_
    exact eI hx hb hr hlk hP hD hS (by rfl) (by rfl) (by exact Nat.le_of_ble_eq_true rfl) (by exact Nat.le_of_ble_eq_true rfl) dX1_tell_59
  · refine lv_tableOut (x := nI 4) (tgt := 60) hx hb dX1_tell_1 (by decide) (by decide) ?_
    refine lv_aload_n hx hb dX1_tell_60 rfl (lv_at hl 0 rfl) ?_
    refine va_get (D := D) (ci := 1) (v := .ref u5) (C := RX1) (T := TX1) (N := 6) hx hb hts hi1 hown hKN.1 hP 0 rfl rfl 4 (by decide) (hts (.fieldLink RX1 24 "SnowPumps$Jumps" "hour" "[I") (by decide +kernel)) (fun _ h9 => h9) rfl dX1_tell_61 ?_
    refine lv_iload_n hx hb dX1_tell_64 rfl (lv_at hl 1 rfl) ?_
    refine ia hx hb hKN.1 hP 5 0 rfl rfl k (by rfl) (by omega) (by first | decide | assumption | omega) dX1_tell_65 ?_
    exact eI hx hb hr hlk hP hD hS (by rfl) (by rfl) (by exact Nat.le_of_ble_eq_true rfl) (by exact Nat.le_of_ble_eq_true rfl) dX1_tell_66
abbrev rm_kX1_bestTwo : Room := { frames := 1, cells := 0, slots := 0, locals := 14 }
set_option maxHeartbeats 4000000 in
set_option maxRecDepth 100000 in
theorem kX1_bestTwo (l : Launch) (D : va_G) (Y : Nat → ClassId) (sz : Nat) (u : Nat) (u1 : Nat) (u2 : Nat) (u3 : Nat) (u4 : Nat) (u5 : Nat) (nj : Nat) (jr : fN) (ln : fN) (pt : fN) (fa : fN) (ho : fN) (who : Int32) (hnj : nj ≤ 30) : MI l yX1_bestTwo wsX1_bestTwo rm_kX1_bestTwo D Y [.ref u, .int who] sz [(u, .inr (1, [.ref u1, .ref u2, .ref u3, .ref u4, .ref u5, .int (nI nj)])), (u1, .inl (Y 0, 30, .inl jr)), (u2, .inl (Y 0, 30, .inl ln)), (u3, .inl (Y 0, 30, .inl pt)), (u4, .inl (Y 0, 30, .inl fa)), (u5, .inl (Y 0, 30, .inl ho))] (scU jr pt nj who) [(u, .inr (1, [.ref u1, .ref u2, .ref u3, .ref u4, .ref u5, .int (nI nj)])), (u1, .inl (Y 0, 30, .inl jr)), (u2, .inl (Y 0, 30, .inl ln)), (u3, .inl (Y 0, 30, .inl pt)), (u4, .inl (Y 0, 30, .inl fa)), (u5, .inl (Y 0, 30, .inl ho))] 0 0 := by
  refine pcW_start (cc := cX1_bestTwo) (maxL := 5) (ret := (some .int)) (Qc := fun A => va_Qi (fun (r : Int32) (_ : Unit) => r = (scU jr pt nj who)) (qW D A [(u, .inr (1, [.ref u1, .ref u2, .ref u3, .ref u4, .ref u5, .int (nI nj)])), (u1, .inl (Y 0, 30, .inl jr)), (u2, .inl (Y 0, 30, .inl ln)), (u3, .inl (Y 0, 30, .inl pt)), (u4, .inl (Y 0, 30, .inl fa)), (u5, .inl (Y 0, 30, .inl ho))]) A) (by decide) rfl (Nat.le_of_ble_eq_true rfl) ?_
  intro p e s m below meth c A ls hE hKN hA hP hD hl
  obtain ⟨hx, hb, hr, hml, hown, hts, hlk, hin⟩ := hE
  have hown : s.vm.findClass RX1 = some m.cls := hown
  have hS : va_S A s.heap s.heap [] := va_S.rf
  have hi1 : ∀ w ∈ wsX10, w ∈ wsX1_bestTwo := by decide +kernel
  have hl : lv_has ls 5 [(0, .ref u), (1, .int who)] := hl
  refine lv_iconst (v := (0 : Int32)) hx hb dX1_bestTwo_0 (by decide) ?_
  refine lv_istore_n (lv' := [(2, .int (0 : Int32)), (0, .ref u), (1, .int who)]) hx hb dX1_bestTwo_1 rfl hl (by decide) rfl (fun ls hl => ?_)
  refine lv_iconst (v := (0 : Int32)) hx hb dX1_bestTwo_2 (by decide) ?_
  refine lv_istore_n (lv' := [(3, .int (0 : Int32)), (2, .int (0 : Int32)), (0, .ref u), (1, .int who)]) hx hb dX1_bestTwo_3 rfl hl (by decide) rfl (fun ls hl => ?_)
  refine lv_iconst (v := (0 : Int32)) hx hb dX1_bestTwo_4 (by decide) ?_
  refine lv_istore (lv' := [(4, .int (0 : Int32)), (3, .int (0 : Int32)), (2, .int (0 : Int32)), (0, .ref u), (1, .int who)]) hx hb dX1_bestTwo_5 hl (by decide) rfl (fun ls hl => ?_)
  refine LPP (σ := Nat) (I := fun i H locs ls => i ≤ nj ∧ va_P D vwCl [(u, .inr (1, [.ref u1, .ref u2, .ref u3, .ref u4, .ref u5, .int (nI nj)])), (u1, .inl (Y 0, 30, .inl jr)), (u2, .inl (Y 0, 30, .inl ln)), (u3, .inl (Y 0, 30, .inl pt)), (u4, .inl (Y 0, 30, .inl fa)), (u5, .inl (Y 0, 30, .inl ho))] H ∧ va_D A [(u, .inr (1, [.ref u1, .ref u2, .ref u3, .ref u4, .ref u5, .int (nI nj)])), (u1, .inl (Y 0, 30, .inl jr)), (u2, .inl (Y 0, 30, .inl ln)), (u3, .inl (Y 0, 30, .inl pt)), (u4, .inl (Y 0, 30, .inl fa)), (u5, .inl (Y 0, 30, .inl ho))] ∧ va_S A s.heap H locs ∧ lv_has ls 5 [(0, .ref u), (1, .int who), (2, .int ((btU jr pt who i).1)), (3, .int ((btU jr pt who i).2)), (4, .int (nI i))]) (μ := fun i => nj - i) (cl := fun i => 0) (sl := fun i => 0) (fun i ih_7 H locs ls hI => ?_) 0 _ _ _ ⟨by omega, hP, hD, hS, lv_sub hl [3, 4, 2, 1, 0] rfl⟩
  obtain ⟨hi, hP, hD, hS, hl⟩ := hI
  refine lv_iload hx hb dX1_bestTwo_7 (lv_at hl 4 rfl) ?_
  refine lv_aload_n hx hb dX1_bestTwo_9 rfl (lv_at hl 0 rfl) ?_
  refine va_get (D := D) (ci := 1) (v := .int (nI nj)) (C := RX1) (T := TX1) (N := 6) hx hb hts hi1 hown hKN.1 hP 0 rfl rfl 5 (by decide) (hts (.fieldLink RX1 27 "SnowPumps$Jumps" "count" "I") (by decide +kernel)) (fun _ h9 => h9) rfl dX1_bestTwo_10 ?_
  refine lv_icmp_ge (tgt := 61) hx hb dX1_bestTwo_13 (by decide) (fun c_13 => ?_) (fun c_13 => ?_)
  · have hlt := ngl (N := nj) (by first | decide | omega) (by omega) c_13
    obtain rfl : nj = i := by omega
    refine lv_iload_n hx hb dX1_bestTwo_61 rfl (lv_at hl 2 rfl) ?_
    refine lv_iload_n hx hb dX1_bestTwo_62 rfl (lv_at hl 3 rfl) ?_
    refine lv_iadd hx hb dX1_bestTwo_63 ?_
    exact eI hx hb hr hlk hP hD hS (by rfl) (by rfl) (by exact Nat.le_of_ble_eq_true rfl) (by exact Nat.le_of_ble_eq_true rfl) dX1_bestTwo_64
  · have hlt := nge (N := nj) (by first | decide | omega) (by omega) c_13
    refine lv_aload_n hx hb dX1_bestTwo_16 rfl (lv_at hl 0 rfl) ?_
    refine va_get (D := D) (ci := 1) (v := .ref u1) (C := RX1) (T := TX1) (N := 6) hx hb hts hi1 hown hKN.1 hP 0 rfl rfl 0 (by decide) (hts (.fieldLink RX1 9 "SnowPumps$Jumps" "jumper" "[I") (by decide +kernel)) (fun _ h9 => h9) rfl dX1_bestTwo_17 ?_
    refine lv_iload hx hb dX1_bestTwo_20 (lv_at hl 4 rfl) ?_
    refine ia hx hb hKN.1 hP 1 0 rfl rfl i (by rfl) (by omega) (by first | decide | assumption | omega) dX1_bestTwo_22 ?_
    refine lv_iload_n hx hb dX1_bestTwo_23 rfl (lv_at hl 1 rfl) ?_
    refine lv_icmp_ne (tgt := 55) hx hb dX1_bestTwo_24 (by decide) (fun c_24 => ?_) (fun c_24 => ?_)
    · have ec_1 : ((btU jr pt who i).1) = ((btU jr pt who (i + 1)).1) := by rw [btU_f c_24]
      have hl : lv_has ls 5 [(0, .ref u), (1, .int who), (2, .int ((btU jr pt who (i + 1)).1)), (3, .int ((btU jr pt who i).2)), (4, .int (nI i))] := (congrArg (fun zz9 => lv_has ls 5 [(0, .ref u), (1, .int who), (2, .int zz9), (3, .int ((btU jr pt who i).2)), (4, .int (nI i))]) ec_1).mp hl
      have ec_2 : ((btU jr pt who i).2) = ((btU jr pt who (i + 1)).2) := by rw [btU_f c_24]
      have hl : lv_has ls 5 [(0, .ref u), (1, .int who), (2, .int ((btU jr pt who (i + 1)).1)), (3, .int ((btU jr pt who (i + 1)).2)), (4, .int (nI i))] := (congrArg (fun zz9 => lv_has ls 5 [(0, .ref u), (1, .int who), (2, .int ((btU jr pt who (i + 1)).1)), (3, .int zz9), (4, .int (nI i))]) ec_2).mp hl
      refine lv_iinc (v := (nI (i + 1))) (lv' := [(4, .int (nI (i + 1))), (0, .ref u), (1, .int who), (2, .int ((btU jr pt who (i + 1)).1)), (3, .int ((btU jr pt who (i + 1)).2))]) hx hb dX1_bestTwo_55 hl (k := 4) rfl (by exact nI_1 _) (by decide) rfl (fun ls hl => ?_)
      refine lv_goto (tgt := 7) hx hb dX1_bestTwo_58 (by decide) ?_
      exact ih_7 (i + 1) _ _ _ (show nj - (i + 1) < nj - i by omega) ⟨by omega, hP, hD, hS, lv_sub hl [1, 2, 3, 4, 0] rfl⟩
    · refine lv_iload_n hx hb dX1_bestTwo_27 rfl (lv_at hl 3 rfl) ?_
      refine lv_iload_n hx hb dX1_bestTwo_28 rfl (lv_at hl 2 rfl) ?_
      refine lv_aload_n hx hb dX1_bestTwo_29 rfl (lv_at hl 0 rfl) ?_
      refine va_get (D := D) (ci := 1) (v := .ref u3) (C := RX1) (T := TX1) (N := 6) hx hb hts hi1 hown hKN.1 hP 0 rfl rfl 2 (by decide) (hts (.fieldLink RX1 18 "SnowPumps$Jumps" "points" "[I") (by decide +kernel)) (fun _ h9 => h9) rfl dX1_bestTwo_30 ?_
      refine lv_iload hx hb dX1_bestTwo_33 (lv_at hl 4 rfl) ?_
      refine ia hx hb hKN.1 hP 3 0 rfl rfl i (by rfl) (by omega) (by first | decide | assumption | omega) dX1_bestTwo_35 ?_
      refine va_mmin hx hb (hml.trans hl.1.symm) hown (hts (.methodLink RX1 31 Lib.Math.min.name) (by decide +kernel)) (hts (.static Lib.Math.min.name) (by decide +kernel)) (hts (.initialized "java/lang/Math") (by decide +kernel)) (hts (.code Lib.Math.min.name Lib.Math.min.code 2 (some .int)) (by decide +kernel)) (Nat.le_of_ble_eq_true rfl) (Nat.le_of_ble_eq_true rfl) (by exact Nat.le_of_ble_eq_true rfl) (by exact Nat.le_of_ble_eq_true rfl) dX1_bestTwo_36 ?_
      refine lv_eqi (y := mnI ((btU jr pt who i).1) (pt i)) rfl ?_
      refine va_mmax hx hb (hml.trans hl.1.symm) hown (hts (.methodLink RX1 37 Lib.Math.max.name) (by decide +kernel)) (hts (.static Lib.Math.max.name) (by decide +kernel)) (hts (.initialized "java/lang/Math") (by decide +kernel)) (hts (.code Lib.Math.max.name Lib.Math.max.code 2 (some .int)) (by decide +kernel)) (Nat.le_of_ble_eq_true rfl) (Nat.le_of_ble_eq_true rfl) (by exact Nat.le_of_ble_eq_true rfl) (by exact Nat.le_of_ble_eq_true rfl) dX1_bestTwo_39 ?_
      refine lv_eqi (y := mxI ((btU jr pt who i).2) (mnI ((btU jr pt who i).1) (pt i))) rfl ?_
      refine lv_eqi (y := (btU jr pt who (i + 1)).2) (by rw [btU_t c_24]) ?_
      refine lv_istore_n (lv' := [(3, .int ((btU jr pt who (i + 1)).2)), (0, .ref u), (1, .int who), (2, .int ((btU jr pt who i).1)), (4, .int (nI i))]) hx hb dX1_bestTwo_42 rfl hl (by decide) rfl (fun ls hl => ?_)
      refine lv_iload_n hx hb dX1_bestTwo_43 rfl (lv_at hl 3 rfl) ?_
      refine lv_aload_n hx hb dX1_bestTwo_44 rfl (lv_at hl 1 rfl) ?_
      refine va_get (D := D) (ci := 1) (v := .ref u3) (C := RX1) (T := TX1) (N := 6) hx hb hts hi1 hown hKN.1 hP 0 rfl rfl 2 (by decide) (hts (.fieldLink RX1 18 "SnowPumps$Jumps" "points" "[I") (by decide +kernel)) (fun _ h9 => h9) rfl dX1_bestTwo_45 ?_
      refine lv_iload hx hb dX1_bestTwo_48 (lv_at hl 4 rfl) ?_
      refine ia hx hb hKN.1 hP 3 0 rfl rfl i (by rfl) (by omega) (by first | decide | assumption | omega) dX1_bestTwo_50 ?_
      refine va_mmax hx hb (hml.trans hl.1.symm) hown (hts (.methodLink RX1 37 Lib.Math.max.name) (by decide +kernel)) (hts (.static Lib.Math.max.name) (by decide +kernel)) (hts (.initialized "java/lang/Math") (by decide +kernel)) (hts (.code Lib.Math.max.name Lib.Math.max.code 2 (some .int)) (by decide +kernel)) (Nat.le_of_ble_eq_true rfl) (Nat.le_of_ble_eq_true rfl) (by exact Nat.le_of_ble_eq_true rfl) (by exact Nat.le_of_ble_eq_true rfl) dX1_bestTwo_51 ?_
      refine lv_eqi (y := mxI ((btU jr pt who i).1) (pt i)) rfl ?_
      refine lv_eqi (y := (btU jr pt who (i + 1)).1) (by rw [btU_t c_24]) ?_
      refine lv_istore_n (lv' := [(2, .int ((btU jr pt who (i + 1)).1)), (3, .int ((btU jr pt who (i + 1)).2)), (0, .ref u), (1, .int who), (4, .int (nI i))]) hx hb dX1_bestTwo_54 rfl hl (by decide) rfl (fun ls hl => ?_)
      refine lv_iinc (v := (nI (i + 1))) (lv' := [(4, .int (nI (i + 1))), (2, .int ((btU jr pt who (i + 1)).1)), (3, .int ((btU jr pt who (i + 1)).2)), (0, .ref u), (1, .int who)]) hx hb dX1_bestTwo_55 hl (k := 4) rfl (by exact nI_1 _) (by decide) rfl (fun ls hl => ?_)
      refine lv_goto (tgt := 7) hx hb dX1_bestTwo_58 (by decide) ?_
      exact ih_7 (i + 1) _ _ _ (show nj - (i + 1) < nj - i by omega) ⟨by omega, hP, hD, hS, lv_sub hl [3, 4, 1, 2, 0] rfl⟩
abbrev rm_kX1_countFalls : Room := { frames := 1, cells := 0, slots := 0, locals := 25 }
set_option maxHeartbeats 4000000 in
set_option maxRecDepth 100000 in
theorem kX1_countFalls (l : Launch) (D : va_G) (Y : Nat → ClassId) (sz : Nat) (u : Nat) (u1 : Nat) (u2 : Nat) (u3 : Nat) (u4 : Nat) (u5 : Nat) (nj : Nat) (jr : fN) (ln : fN) (pt : fN) (fa : fN) (ho : fN)  : MI l yX1_countFalls wsX1_countFalls rm_kX1_countFalls D Y [.ref u] sz [(u, .inr (1, [.ref u1, .ref u2, .ref u3, .ref u4, .ref u5, .int (nI nj)])), (u1, .inl (Y 0, 30, .inl jr)), (u2, .inl (Y 0, 30, .inl ln)), (u3, .inl (Y 0, 30, .inl pt)), (u4, .inl (Y 0, 30, .inl fa)), (u5, .inl (Y 0, 30, .inl ho))] (sumU fa 30) [(u, .inr (1, [.ref u1, .ref u2, .ref u3, .ref u4, .ref u5, .int (nI nj)])), (u1, .inl (Y 0, 30, .inl jr)), (u2, .inl (Y 0, 30, .inl ln)), (u3, .inl (Y 0, 30, .inl pt)), (u4, .inl (Y 0, 30, .inl fa)), (u5, .inl (Y 0, 30, .inl ho))] 0 0 := by
  refine pcW_start (cc := cX1_countFalls) (maxL := 1) (ret := (some .int)) (Qc := fun A => va_Qi (fun (r : Int32) (_ : Unit) => r = (sumU fa 30)) (qW D A [(u, .inr (1, [.ref u1, .ref u2, .ref u3, .ref u4, .ref u5, .int (nI nj)])), (u1, .inl (Y 0, 30, .inl jr)), (u2, .inl (Y 0, 30, .inl ln)), (u3, .inl (Y 0, 30, .inl pt)), (u4, .inl (Y 0, 30, .inl fa)), (u5, .inl (Y 0, 30, .inl ho))]) A) (by decide) rfl (Nat.le_of_ble_eq_true rfl) ?_
  intro p e s m below meth c A ls hE hKN hA hP hD hl
  obtain ⟨hx, hb, hr, hml, hown, hts, hlk, hin⟩ := hE
  have hown : s.vm.findClass RX1 = some m.cls := hown
  have hS : va_S A s.heap s.heap [] := va_S.rf
  have hi1 : ∀ w ∈ wsX10, w ∈ wsX1_countFalls := by decide +kernel
  have hl : lv_has ls 1 [(0, .ref u)] := hl
  refine lv_aload_n hx hb dX1_countFalls_0 rfl (lv_at hl 0 rfl) ?_
  refine va_get (D := D) (ci := 1) (v := .ref u4) (C := RX1) (T := TX1) (N := 6) hx hb hts hi1 hown hKN.1 hP 0 rfl rfl 3 (by decide) (hts (.fieldLink RX1 21 "SnowPumps$Jumps" "fall" "[I") (by decide +kernel)) (fun _ h9 => h9) rfl dX1_countFalls_1 ?_
  refine cSNi (As := [.ref u4]) (rest := []) (ws' := [(u, .inr (1, [.ref u1, .ref u2, .ref u3, .ref u4, .ref u5, .int (nI nj)])), (u1, .inl (Y 0, 30, .inl jr)), (u2, .inl (Y 0, 30, .inl ln)), (u3, .inl (Y 0, 30, .inl pt)), (u4, .inl (Y 0, 30, .inl fa)), (u5, .inl (Y 0, 30, .inl ho))]) ⟨hx, hb, hml, hown, hts⟩ (kX5_sum l D Y _ u4 30 fa (by first | assumption | omega)) ⟨va_cnB 1 hts gX1_countFalls_X5_sum_n40 rfl rfl rfl (hKN.2.get 3 rfl) (hts (.initialized RX5) (by decide +kernel)) (by decide +kernel) ⟨Nat.le_of_ble_eq_true rfl, Nat.le_of_ble_eq_true rfl⟩, hts (.static yX5_sum) (by decide +kernel), trivial⟩ hKN hP hD hS hA [4] [0, 1, 2, 3, 5] [0, 1, 2, 3, 5, 4] rfl (by decide) rfl rfl rfl rfl hl.1 (Nat.le_of_ble_eq_true rfl) dX1_countFalls_4 ⟨Nat.le_of_ble_eq_true rfl, Nat.le_of_ble_eq_true rfl⟩ (fun H locs hP hD hS => ?_)
  exact eI hx hb hr hlk hP hD hS (by rfl) (by rfl) (by exact Nat.le_of_ble_eq_true rfl) (by exact Nat.le_of_ble_eq_true rfl) dX1_countFalls_7
abbrev rm_kX1_allPoints : Room := { frames := 1, cells := 0, slots := 0, locals := 25 }
set_option maxHeartbeats 4000000 in
set_option maxRecDepth 100000 in
theorem kX1_allPoints (l : Launch) (D : va_G) (Y : Nat → ClassId) (sz : Nat) (u : Nat) (u1 : Nat) (u2 : Nat) (u3 : Nat) (u4 : Nat) (u5 : Nat) (nj : Nat) (jr : fN) (ln : fN) (pt : fN) (fa : fN) (ho : fN)  : MI l yX1_allPoints wsX1_allPoints rm_kX1_allPoints D Y [.ref u] sz [(u, .inr (1, [.ref u1, .ref u2, .ref u3, .ref u4, .ref u5, .int (nI nj)])), (u1, .inl (Y 0, 30, .inl jr)), (u2, .inl (Y 0, 30, .inl ln)), (u3, .inl (Y 0, 30, .inl pt)), (u4, .inl (Y 0, 30, .inl fa)), (u5, .inl (Y 0, 30, .inl ho))] (sumU pt 30) [(u, .inr (1, [.ref u1, .ref u2, .ref u3, .ref u4, .ref u5, .int (nI nj)])), (u1, .inl (Y 0, 30, .inl jr)), (u2, .inl (Y 0, 30, .inl ln)), (u3, .inl (Y 0, 30, .inl pt)), (u4, .inl (Y 0, 30, .inl fa)), (u5, .inl (Y 0, 30, .inl ho))] 0 0 := by
  refine pcW_start (cc := cX1_allPoints) (maxL := 1) (ret := (some .int)) (Qc := fun A => va_Qi (fun (r : Int32) (_ : Unit) => r = (sumU pt 30)) (qW D A [(u, .inr (1, [.ref u1, .ref u2, .ref u3, .ref u4, .ref u5, .int (nI nj)])), (u1, .inl (Y 0, 30, .inl jr)), (u2, .inl (Y 0, 30, .inl ln)), (u3, .inl (Y 0, 30, .inl pt)), (u4, .inl (Y 0, 30, .inl fa)), (u5, .inl (Y 0, 30, .inl ho))]) A) (by decide) rfl (Nat.le_of_ble_eq_true rfl) ?_
  intro p e s m below meth c A ls hE hKN hA hP hD hl
  obtain ⟨hx, hb, hr, hml, hown, hts, hlk, hin⟩ := hE
  have hown : s.vm.findClass RX1 = some m.cls := hown
  have hS : va_S A s.heap s.heap [] := va_S.rf
  have hi1 : ∀ w ∈ wsX10, w ∈ wsX1_allPoints := by decide +kernel
  have hl : lv_has ls 1 [(0, .ref u)] := hl
  refine lv_aload_n hx hb dX1_allPoints_0 rfl (lv_at hl 0 rfl) ?_
  refine va_get (D := D) (ci := 1) (v := .ref u3) (C := RX1) (T := TX1) (N := 6) hx hb hts hi1 hown hKN.1 hP 0 rfl rfl 2 (by decide) (hts (.fieldLink RX1 18 "SnowPumps$Jumps" "points" "[I") (by decide +kernel)) (fun _ h9 => h9) rfl dX1_allPoints_1 ?_
  refine cSNi (As := [.ref u3]) (rest := []) (ws' := [(u, .inr (1, [.ref u1, .ref u2, .ref u3, .ref u4, .ref u5, .int (nI nj)])), (u1, .inl (Y 0, 30, .inl jr)), (u2, .inl (Y 0, 30, .inl ln)), (u3, .inl (Y 0, 30, .inl pt)), (u4, .inl (Y 0, 30, .inl fa)), (u5, .inl (Y 0, 30, .inl ho))]) ⟨hx, hb, hml, hown, hts⟩ (kX5_sum l D Y _ u3 30 pt (by first | assumption | omega)) ⟨va_cnB 1 hts gX1_allPoints_X5_sum_n40 rfl rfl rfl (hKN.2.get 3 rfl) (hts (.initialized RX5) (by decide +kernel)) (by decide +kernel) ⟨Nat.le_of_ble_eq_true rfl, Nat.le_of_ble_eq_true rfl⟩, hts (.static yX5_sum) (by decide +kernel), trivial⟩ hKN hP hD hS hA [3] [0, 1, 2, 4, 5] [0, 1, 2, 5, 3, 4] rfl (by decide) rfl rfl rfl rfl hl.1 (Nat.le_of_ble_eq_true rfl) dX1_allPoints_4 ⟨Nat.le_of_ble_eq_true rfl, Nat.le_of_ble_eq_true rfl⟩ (fun H locs hP hD hS => ?_)
  exact eI hx hb hr hlk hP hD hS (by rfl) (by rfl) (by exact Nat.le_of_ble_eq_true rfl) (by exact Nat.le_of_ble_eq_true rfl) dX1_allPoints_7
abbrev rm_kX1_addTo : Room := { frames := 1, cells := 0, slots := 0, locals := 22 }
set_option maxHeartbeats 4000000 in
set_option maxRecDepth 100000 in
theorem kX1_addTo (l : Launch) (D : va_G) (Y : Nat → ClassId) (sz : Nat) (u : Nat) (u1 : Nat) (u2 : Nat) (u3 : Nat) (u4 : Nat) (u5 : Nat) (nj : Nat) (jr : fN) (ln : fN) (pt : fN) (fa : fN) (ho : fN) (d : Int64) (hnj : nj ≤ 30) : ML l yX1_addTo wsX1_addTo rm_kX1_addTo D Y [.ref u, .long d] sz [(u, .inr (1, [.ref u1, .ref u2, .ref u3, .ref u4, .ref u5, .int (nI nj)])), (u1, .inl (Y 0, 30, .inl jr)), (u2, .inl (Y 0, 30, .inl ln)), (u3, .inl (Y 0, 30, .inl pt)), (u4, .inl (Y 0, 30, .inl fa)), (u5, .inl (Y 0, 30, .inl ho))] (dig2 (tellU jr ln pt fa ho) 5 nj d) [(u, .inr (1, [.ref u1, .ref u2, .ref u3, .ref u4, .ref u5, .int (nI nj)])), (u1, .inl (Y 0, 30, .inl jr)), (u2, .inl (Y 0, 30, .inl ln)), (u3, .inl (Y 0, 30, .inl pt)), (u4, .inl (Y 0, 30, .inl fa)), (u5, .inl (Y 0, 30, .inl ho))] 0 0 := by
  refine pcW_start (cc := cX1_addTo) (maxL := 7) (ret := (some .long)) (Qc := fun A => va_Ql (fun (r : Int64) (_ : Unit) => r = (dig2 (tellU jr ln pt fa ho) 5 nj d)) (qW D A [(u, .inr (1, [.ref u1, .ref u2, .ref u3, .ref u4, .ref u5, .int (nI nj)])), (u1, .inl (Y 0, 30, .inl jr)), (u2, .inl (Y 0, 30, .inl ln)), (u3, .inl (Y 0, 30, .inl pt)), (u4, .inl (Y 0, 30, .inl fa)), (u5, .inl (Y 0, 30, .inl ho))]) A) (by decide) rfl (Nat.le_of_ble_eq_true rfl) ?_
  intro p e s m below meth c A ls hE hKN hA hP hD hl
  obtain ⟨hx, hb, hr, hml, hown, hts, hlk, hin⟩ := hE
  have hown : s.vm.findClass RX1 = some m.cls := hown
  have hS : va_S A s.heap s.heap [] := va_S.rf
  have hi1 : ∀ w ∈ wsX10, w ∈ wsX1_addTo := by decide +kernel
  have hl : lv_has ls 7 [(0, .ref u), (1, .long d)] := hl
  refine lv_lload_n hx hb dX1_addTo_0 rfl (lv_at hl 1 rfl) ?_
  refine lv_lstore_n (lv' := [(3, .long d), (0, .ref u), (1, .long d)]) hx hb dX1_addTo_1 rfl hl (by decide) rfl (fun ls hl => ?_)
  refine lv_iconst (v := (0 : Int32)) hx hb dX1_addTo_2 (by decide) ?_
  refine lv_istore (lv' := [(5, .int (0 : Int32)), (3, .long d), (0, .ref u), (1, .long d)]) hx hb dX1_addTo_3 hl (by decide) rfl (fun ls hl => ?_)
  refine LPP (σ := Nat) (I := fun i H locs ls => i ≤ nj ∧ va_P D vwCl [(u, .inr (1, [.ref u1, .ref u2, .ref u3, .ref u4, .ref u5, .int (nI nj)])), (u1, .inl (Y 0, 30, .inl jr)), (u2, .inl (Y 0, 30, .inl ln)), (u3, .inl (Y 0, 30, .inl pt)), (u4, .inl (Y 0, 30, .inl fa)), (u5, .inl (Y 0, 30, .inl ho))] H ∧ va_D A [(u, .inr (1, [.ref u1, .ref u2, .ref u3, .ref u4, .ref u5, .int (nI nj)])), (u1, .inl (Y 0, 30, .inl jr)), (u2, .inl (Y 0, 30, .inl ln)), (u3, .inl (Y 0, 30, .inl pt)), (u4, .inl (Y 0, 30, .inl fa)), (u5, .inl (Y 0, 30, .inl ho))] ∧ va_S A s.heap H locs ∧ lv_has ls 7 [(0, .ref u), (3, .long (dig2 (tellU jr ln pt fa ho) 5 i d)), (5, .int (nI i))]) (μ := fun i => nj - i) (cl := fun i => 0) (sl := fun i => 0) (fun i ih_5 H locs ls hI => ?_) 0 _ _ _ ⟨by omega, hP, hD, hS, lv_sub hl [2, 1, 0] rfl⟩
  obtain ⟨hi, hP, hD, hS, hl⟩ := hI
  refine lv_iload hx hb dX1_addTo_5 (lv_at hl 2 rfl) ?_
  refine lv_aload_n hx hb dX1_addTo_7 rfl (lv_at hl 0 rfl) ?_
  refine va_get (D := D) (ci := 1) (v := .int (nI nj)) (C := RX1) (T := TX1) (N := 6) hx hb hts hi1 hown hKN.1 hP 0 rfl rfl 5 (by decide) (hts (.fieldLink RX1 27 "SnowPumps$Jumps" "count" "I") (by decide +kernel)) (fun _ h9 => h9) rfl dX1_addTo_8 ?_
  refine lv_icmp_ge (tgt := 51) hx hb dX1_addTo_11 (by decide) (fun c_11 => ?_) (fun c_11 => ?_)
  · have hlt := ngl (N := nj) (by first | decide | omega) (by omega) c_11
    obtain rfl : nj = i := by omega
    refine lv_lload_n hx hb dX1_addTo_51 rfl (lv_at hl 1 rfl) ?_
    exact eL hx hb hr hlk hP hD hS (by rfl) (by exact Nat.le_of_ble_eq_true rfl) (by exact Nat.le_of_ble_eq_true rfl) dX1_addTo_52
  · have hlt := nge (N := nj) (by first | decide | omega) (by omega) c_11
    refine lv_iconst (v := (0 : Int32)) hx hb dX1_addTo_14 (by decide) ?_
    refine lv_istore (lv' := [(6, .int (0 : Int32)), (0, .ref u), (3, .long (dig2 (tellU jr ln pt fa ho) 5 i d)), (5, .int (nI i))]) hx hb dX1_addTo_15 hl (by decide) rfl (fun ls hl => ?_)
    refine LPP (σ := Nat) (I := fun q H locs ls => q ≤ 5 ∧ va_P D vwCl [(u, .inr (1, [.ref u1, .ref u2, .ref u3, .ref u4, .ref u5, .int (nI nj)])), (u1, .inl (Y 0, 30, .inl jr)), (u2, .inl (Y 0, 30, .inl ln)), (u3, .inl (Y 0, 30, .inl pt)), (u4, .inl (Y 0, 30, .inl fa)), (u5, .inl (Y 0, 30, .inl ho))] H ∧ va_D A [(u, .inr (1, [.ref u1, .ref u2, .ref u3, .ref u4, .ref u5, .int (nI nj)])), (u1, .inl (Y 0, 30, .inl jr)), (u2, .inl (Y 0, 30, .inl ln)), (u3, .inl (Y 0, 30, .inl pt)), (u4, .inl (Y 0, 30, .inl fa)), (u5, .inl (Y 0, 30, .inl ho))] ∧ va_S A s.heap H locs ∧ lv_has ls 7 [(0, .ref u), (3, .long (dig1 (tellU jr ln pt fa ho i) q (dig2 (tellU jr ln pt fa ho) 5 i d))), (5, .int (nI i)), (6, .int (nI q))]) (μ := fun q => 5 - q) (cl := fun q => 0) (sl := fun q => 0) (fun q ih_17 H locs ls hI => ?_) 0 _ _ _ ⟨by omega, hP, hD, hS, lv_sub hl [1, 2, 3, 0] rfl⟩
    obtain ⟨hq, hP, hD, hS, hl⟩ := hI
    refine lv_iload hx hb dX1_addTo_17 (lv_at hl 3 rfl) ?_
    refine lv_iconst (v := (5 : Int32)) hx hb dX1_addTo_19 (by decide) ?_
    refine lv_icmp_ge (tgt := 45) hx hb dX1_addTo_20 (by decide) (fun c_20 => ?_) (fun c_20 => ?_)
    · have hlt := ngl (N := 5) (by first | decide | omega) (by omega) c_20
      obtain rfl : 5 = q := by omega
      refine lv_iinc (v := (nI (i + 1))) (lv' := [(5, .int (nI (i + 1))), (0, .ref u), (3, .long (dig1 (tellU jr ln pt fa ho i) 5 (dig2 (tellU jr ln pt fa ho) 5 i d))), (6, .int (nI 5))]) hx hb dX1_addTo_45 hl (k := 2) rfl (by exact nI_1 _) (by decide) rfl (fun ls hl => ?_)
      refine lv_goto (tgt := 5) hx hb dX1_addTo_48 (by decide) ?_
      exact ih_5 (i + 1) _ _ _ (show nj - (i + 1) < nj - i by omega) ⟨by omega, hP, hD, hS, lv_sub hl [1, 2, 0] rfl⟩
    · have hlt := nge (N := 5) (by first | decide | omega) (by omega) c_20
      refine lv_lload_n hx hb dX1_addTo_23 rfl (lv_at hl 1 rfl) ?_
      refine lv_ldc2 (v := (31 : Int64)) hx hb hown (hts (.constantLong RX1 44 (31 : Int64)) (by decide +kernel)) dX1_addTo_24 ?_
      refine lv_lmul hx hb dX1_addTo_27 ?_
      refine lv_aload_n hx hb dX1_addTo_28 rfl (lv_at hl 0 rfl) ?_
      refine lv_iload hx hb dX1_addTo_29 (lv_at hl 2 rfl) ?_
      refine lv_iload hx hb dX1_addTo_31 (lv_at hl 3 rfl) ?_
      refine cVi (As := [.int (nI i), .int (nI q)]) (rest := [.long ((dig1 (tellU jr ln pt fa ho i) q (dig2 (tellU jr ln pt fa ho) 5 i d)) * (31 : Int64))]) (ws' := [(u, .inr (1, [.ref u1, .ref u2, .ref u3, .ref u4, .ref u5, .int (nI nj)])), (u1, .inl (Y 0, 30, .inl jr)), (u2, .inl (Y 0, 30, .inl ln)), (u3, .inl (Y 0, 30, .inl pt)), (u4, .inl (Y 0, 30, .inl fa)), (u5, .inl (Y 0, 30, .inl ho))]) ⟨hx, hb, hml, hown, hts⟩ (kX1_tell l D Y _ u u1 u2 u3 u4 u5 nj jr ln pt fa ho i q (by first | assumption | omega) (by first | assumption | omega)) (cwV 2 hts gX1_addTo_X1_tell rfl rfl rfl (by decide +kernel) ⟨Nat.le_of_ble_eq_true rfl, Nat.le_of_ble_eq_true rfl⟩) hKN hP hD hS hA [0, 1, 2, 3, 4, 5] [] [0, 1, 2, 3, 4, 5] rfl (by decide) rfl rfl 0 1 rfl rfl rfl rfl hl.1 (Nat.le_of_ble_eq_true rfl) dX1_addTo_33 ⟨Nat.le_of_ble_eq_true rfl, Nat.le_of_ble_eq_true rfl⟩ (fun H locs hP hD hS => ?_)
      refine lv_i2l hx hb dX1_addTo_36 rfl ?_
      refine lv_ladd hx hb dX1_addTo_37 ?_
      refine lv_eql (y := dig1 (tellU jr ln pt fa ho i) (q + 1) (dig2 (tellU jr ln pt fa ho) 5 i d)) (by rfl) ?_
      refine lv_lstore_n (lv' := [(3, .long (dig1 (tellU jr ln pt fa ho i) (q + 1) (dig2 (tellU jr ln pt fa ho) 5 i d))), (0, .ref u), (5, .int (nI i)), (6, .int (nI q))]) hx hb dX1_addTo_38 rfl hl (by decide) rfl (fun ls hl => ?_)
      refine lv_iinc (v := (nI (q + 1))) (lv' := [(6, .int (nI (q + 1))), (3, .long (dig1 (tellU jr ln pt fa ho i) (q + 1) (dig2 (tellU jr ln pt fa ho) 5 i d))), (0, .ref u), (5, .int (nI i))]) hx hb dX1_addTo_39 hl (k := 3) rfl (by exact nI_1 _) (by decide) rfl (fun ls hl => ?_)
      refine lv_goto (tgt := 17) hx hb dX1_addTo_42 (by decide) ?_
      exact ih_17 (q + 1) _ _ _ (show 5 - (q + 1) < 5 - q by omega) ⟨by omega, hP, hD, hS, lv_sub hl [2, 1, 3, 0] rfl⟩
