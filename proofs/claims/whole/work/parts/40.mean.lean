abbrev rm_kX5_mean : Room := { frames := 2, cells := 0, slots := 0, locals := 45 }
set_option maxHeartbeats 4000000 in
set_option maxRecDepth 100000 in
theorem kX5_mean (l : Launch) (D : va_G) (Y : Nat → ClassId) (sz : Nat) (x : Nat) (w : Nat) (pu : Nat) (h : Nat) (a : Nat) (j : Nat) (u : Nat) (u1 : Nat) (u2 : Nat) (u3 : Nat) (u4 : Nat) (u5 : Nat) (jr : fN) (ln : fN) (pt : fN) (fa : fN) (ho : fN) (nj : Nat) (hnj : nj ≤ 30) : MD l yX5_mean wsX5_mean rm_kX5_mean D Y [.ref x] sz [(x, .inr (5, [.ref w, .ref pu, .ref h, .ref a, .ref j, .ref u])), (u, .inr (1, [.ref u1, .ref u2, .ref u3, .ref u4, .ref u5, .int (nI nj)])), (u1, .inl (Y 0, 30, .inl jr)), (u2, .inl (Y 0, 30, .inl ln)), (u3, .inl (Y 0, 30, .inl pt)), (u4, .inl (Y 0, 30, .inl fa)), (u5, .inl (Y 0, 30, .inl ho))] (meanU pt nj) [(x, .inr (5, [.ref w, .ref pu, .ref h, .ref a, .ref j, .ref u])), (u, .inr (1, [.ref u1, .ref u2, .ref u3, .ref u4, .ref u5, .int (nI nj)])), (u1, .inl (Y 0, 30, .inl jr)), (u2, .inl (Y 0, 30, .inl ln)), (u3, .inl (Y 0, 30, .inl pt)), (u4, .inl (Y 0, 30, .inl fa)), (u5, .inl (Y 0, 30, .inl ho))] 0 0 := by
  refine pcD_start (cc := cX5_mean) (maxL := 1) (ret := (some .double)) (Qc := fun A => va_Qd (fun (r : UInt64) (_ : Unit) => alike64 r (meanU pt nj) = true) (qW D A [(x, .inr (5, [.ref w, .ref pu, .ref h, .ref a, .ref j, .ref u])), (u, .inr (1, [.ref u1, .ref u2, .ref u3, .ref u4, .ref u5, .int (nI nj)])), (u1, .inl (Y 0, 30, .inl jr)), (u2, .inl (Y 0, 30, .inl ln)), (u3, .inl (Y 0, 30, .inl pt)), (u4, .inl (Y 0, 30, .inl fa)), (u5, .inl (Y 0, 30, .inl ho))]) A) (by decide) rfl (Nat.le_of_ble_eq_true rfl) ?_
  intro p e s m below meth c A ls hE hKN hA hP hD hl hd0
  obtain ⟨hx, hb, hr, hml, hown, hts, hlk, hin⟩ := hE
  have hown : s.vm.findClass RX5 = some m.cls := hown
  have hS : va_S A s.heap s.heap [] := va_S.rf
  have hts := dr_words hts s.drawn
  have hKN : KN D Y (s.setDrawn s.drawn) := hKN
  have hown : (s.setDrawn s.drawn).vm.findClass RX5 = some m.cls := hown
  have hi1 : ∀ w ∈ wsX10, w ∈ wsX5_mean := by decide +kernel
  have hi5 : ∀ w ∈ wsX50, w ∈ wsX5_mean := by decide +kernel
  have hl : lv_has ls 1 [(0, .ref x)] := hl
  refine lv_aload_n hx hb dX5_mean_0 rfl (lv_at hl 0 rfl) ?_
  refine va_get (D := D) (ci := 5) (v := .ref u) (C := RX5) (T := TX5) (N := 6) hx hb hts hi5 hown hKN.1 hP 0 rfl rfl 5 (by decide) (hts (.fieldLink RX5 45 "SnowPumps" "jumps" "LSnowPumps$Jumps;") (by decide +kernel)) (fun _ h9 => h9) rfl dX5_mean_1 ?_
  refine va_get (D := D) (ci := 1) (v := .int (nI nj)) (C := RX1) (T := TX1) (N := 6) hx hb hts hi1 hown hKN.1 hP 1 rfl rfl 5 (by decide) (hts (.fieldLink RX5 138 "SnowPumps$Jumps" "count" "I") (by decide +kernel)) (fun _ h9 => h9) rfl dX5_mean_4 ?_
  refine lv_if_ne (tgt := 12) hx hb dX5_mean_7 (by decide) (fun c_7 => ?_) (fun c_7 => ?_)
  · refine lv_aload_n hx hb dX5_mean_12 rfl (lv_at hl 0 rfl) ?_
    refine va_get (D := D) (ci := 5) (v := .ref u) (C := RX5) (T := TX5) (N := 6) hx hb hts hi5 hown hKN.1 hP 0 rfl rfl 5 (by decide) (hts (.fieldLink RX5 45 "SnowPumps" "jumps" "LSnowPumps$Jumps;") (by decide +kernel)) (fun _ h9 => h9) rfl dX5_mean_13 ?_
    refine cVi (As := []) (rest := []) (ws' := [(x, .inr (5, [.ref w, .ref pu, .ref h, .ref a, .ref j, .ref u])), (u, .inr (1, [.ref u1, .ref u2, .ref u3, .ref u4, .ref u5, .int (nI nj)])), (u1, .inl (Y 0, 30, .inl jr)), (u2, .inl (Y 0, 30, .inl ln)), (u3, .inl (Y 0, 30, .inl pt)), (u4, .inl (Y 0, 30, .inl fa)), (u5, .inl (Y 0, 30, .inl ho))]) ⟨hx, hb, hml, hown, hts⟩ (kX1_allPoints l D Y _ u u1 u2 u3 u4 u5 nj jr ln pt fa ho ) (cwV 0 hts gX5_mean_X1_allPoints rfl rfl rfl (by decide +kernel) ⟨Nat.le_of_ble_eq_true rfl, Nat.le_of_ble_eq_true rfl⟩) hKN hP hD hS hA [1, 2, 3, 4, 5, 6] [0] [0, 1, 2, 3, 4, 5, 6] rfl (by decide) rfl rfl 1 1 rfl rfl rfl rfl hl.1 (Nat.le_of_ble_eq_true rfl) dX5_mean_16 ⟨Nat.le_of_ble_eq_true rfl, Nat.le_of_ble_eq_true rfl⟩ (fun H locs hP hD hS => ?_)
    refine lv_i2d hx hb dX5_mean_19 ?_
    refine lv_aload_n hx hb dX5_mean_20 rfl (lv_at hl 0 rfl) ?_
    refine va_get (D := D) (ci := 5) (v := .ref u) (C := RX5) (T := TX5) (N := 6) hx hb hts hi5 hown hKN.1 hP 0 rfl rfl 5 (by decide) (hts (.fieldLink RX5 45 "SnowPumps" "jumps" "LSnowPumps$Jumps;") (by decide +kernel)) (fun _ h9 => h9) rfl dX5_mean_21 ?_
    refine va_get (D := D) (ci := 1) (v := .int (nI nj)) (C := RX1) (T := TX1) (N := 6) hx hb hts hi1 hown hKN.1 hP 1 rfl rfl 5 (by decide) (hts (.fieldLink RX5 138 "SnowPumps$Jumps" "count" "I") (by decide +kernel)) (fun _ h9 => h9) rfl dX5_mean_24 ?_
    refine lv_i2d hx hb dX5_mean_27 ?_
    refine lv_ddiv_any hd0 lw_bits hx hb dX5_mean_28 (fun r9 d9 hal hd9 => ?_)
    exact eD hd9 hx hb hr hlk hP hD hS (by rw [show meanU pt nj = FP.ddiv (FP.i2d (sumU pt 30)) (FP.i2d (nI nj)) from if_neg (fun h9 => c_7 (by rw [h9]; rfl))]; exact hal) (by exact Nat.le_of_ble_eq_true rfl) (by exact Nat.le_of_ble_eq_true rfl) dX5_mean_29
  · refine lv_dconst0 hx hb dX5_mean_10 ?_
    exact eD hd0 hx hb hr hlk hP hD hS (by rw [show FP.dconst0 = meanU pt nj from (if_pos ((nI_eq (b := 0) (by omega) (by omega)).mp c_7)).symm]; exact alike64_refl _) (by exact Nat.le_of_ble_eq_true rfl) (by exact Nat.le_of_ble_eq_true rfl) dX5_mean_11
abbrev rm_kX7_mean : Room := { frames := 0, cells := 0, slots := 0, locals := 0 }
set_option maxHeartbeats 4000000 in
set_option maxRecDepth 100000 in
theorem kX7_mean (l : Launch) (D : va_G) (Y : Nat → ClassId) (sz : Nat) (z : Nat) (z1 : Nat) (z2 : Nat) (z3 : Nat) (z4 : Nat) (z5 : Nat) (z6 : Nat) (z7 : Nat) (q : Nat) (r : Nat) (jr : fN) (ln : fN) (pt : fN) (fa : fN) (ho : fN) (th : Int32) (np : Nat) (nj : Nat) (hnj : nj ≤ 30) (hpt : sumU pt nj = sumU pt 30) : MD l yX7_mean wsX7_mean rm_kX7_mean D Y [.ref z] sz [(z, .inr (7, [.int th, .ref z1, .ref z2, .ref z3, .int (nI np), .ref z4, .ref z5, .ref z6, .int (nI nj), .ref z7, .ref q, .ref r])), (z7, .inl (Y 0, 150, .inl (bkU jr ln pt fa ho)))] (meanU pt nj) [(z, .inr (7, [.int (0 : Int32), .ref z1, .ref z2, .ref z3, .int (nI np), .ref z4, .ref z5, .ref z6, .int (nI nj), .ref z7, .ref q, .ref r])), (z7, .inl (Y 0, 150, .inl (bkU jr ln pt fa ho)))] 0 0 := by
  refine pcD_start (cc := cX7_mean) (maxL := 3) (ret := (some .double)) (Qc := fun A => va_Qd (fun (r : UInt64) (_ : Unit) => alike64 r (meanU pt nj) = true) (qW D A [(z, .inr (7, [.int (0 : Int32), .ref z1, .ref z2, .ref z3, .int (nI np), .ref z4, .ref z5, .ref z6, .int (nI nj), .ref z7, .ref q, .ref r])), (z7, .inl (Y 0, 150, .inl (bkU jr ln pt fa ho)))]) A) (by decide) rfl (Nat.le_of_ble_eq_true rfl) ?_
  intro p e s m below meth c A ls hE hKN hA hP hD hl hd0
  obtain ⟨hx, hb, hr, hml, hown, hts, hlk, hin⟩ := hE
  have hown : s.vm.findClass RX7 = some m.cls := hown
  have hS : va_S A s.heap s.heap [] := va_S.rf
  have hts := dr_words hts s.drawn
  have hKN : KN D Y (s.setDrawn s.drawn) := hKN
  have hown : (s.setDrawn s.drawn).vm.findClass RX7 = some m.cls := hown
  have hi7 : ∀ w ∈ wsX70, w ∈ wsX7_mean := by decide +kernel
  have hl : lv_has ls 3 [(0, .ref z)] := hl
  refine lv_aload_n hx hb dX7_mean_0 rfl (lv_at hl 0 rfl) ?_
  refine lv_iconst (v := (0 : Int32)) hx hb dX7_mean_1 (by decide) ?_
  refine va_put (D := D) (ci := 7) (v := .int (0 : Int32)) (ty := .int) (C := RX7) (T := TX7) (N := 12) hx hb hts hi7 tyX7 tyX7_ok nmX7 hown hKN.1 hP hD hS 0 rfl rfl 0 (by decide) (hts (.fieldLink RX7 41 "SnowPumpsModel" "thrown" "I") (by decide +kernel)) (fun _ h9 => h9) rfl (by decide +kernel) rfl rfl (Nat.le_of_ble_eq_true rfl) dX7_mean_2 (fun H locs hP hD hS => ?_)
  have hP : va_P D vwCl [(z, .inr (7, [.int (0 : Int32), .ref z1, .ref z2, .ref z3, .int (nI np), .ref z4, .ref z5, .ref z6, .int (nI nj), .ref z7, .ref q, .ref r])), (z7, .inl (Y 0, 150, .inl (bkU jr ln pt fa ho)))] _ := hP
  have hD : va_D A [(z, .inr (7, [.int (0 : Int32), .ref z1, .ref z2, .ref z3, .int (nI np), .ref z4, .ref z5, .ref z6, .int (nI nj), .ref z7, .ref q, .ref r])), (z7, .inl (Y 0, 150, .inl (bkU jr ln pt fa ho)))] := hD
  refine lv_iconst (v := (0 : Int32)) hx hb dX7_mean_5 (by decide) ?_
  refine lv_istore_n (lv' := [(1, .int (0 : Int32)), (0, .ref z)]) hx hb dX7_mean_6 rfl hl (by decide) rfl (fun ls hl => ?_)
  refine lv_iconst (v := (0 : Int32)) hx hb dX7_mean_7 (by decide) ?_
  refine lv_istore_n (lv' := [(2, .int (0 : Int32)), (1, .int (0 : Int32)), (0, .ref z)]) hx hb dX7_mean_8 rfl hl (by decide) rfl (fun ls hl => ?_)
  refine LPP (σ := Nat) (I := fun i H locs ls => i ≤ nj ∧ va_P D vwCl [(z, .inr (7, [.int (0 : Int32), .ref z1, .ref z2, .ref z3, .int (nI np), .ref z4, .ref z5, .ref z6, .int (nI nj), .ref z7, .ref q, .ref r])), (z7, .inl (Y 0, 150, .inl (bkU jr ln pt fa ho)))] H ∧ va_D A [(z, .inr (7, [.int (0 : Int32), .ref z1, .ref z2, .ref z3, .int (nI np), .ref z4, .ref z5, .ref z6, .int (nI nj), .ref z7, .ref q, .ref r])), (z7, .inl (Y 0, 150, .inl (bkU jr ln pt fa ho)))] ∧ va_S A s.heap H locs ∧ lv_has ls 3 [(0, .ref z), (1, .int (sumU pt i)), (2, .int (nI i))]) (μ := fun i => nj - i) (cl := fun i => 0) (sl := fun i => 0) (fun i ih_9 H locs ls hI => ?_) 0 _ _ _ ⟨by omega, hP, hD, hS, lv_sub hl [2, 1, 0] rfl⟩
  obtain ⟨hi, hP, hD, hS, hl⟩ := hI
  refine lv_iload_n hx hb dX7_mean_9 rfl (lv_at hl 2 rfl) ?_
  refine lv_aload_n hx hb dX7_mean_10 rfl (lv_at hl 0 rfl) ?_
  refine va_get (D := D) (ci := 7) (v := .int (nI nj)) (C := RX7) (T := TX7) (N := 12) hx hb hts hi7 hown hKN.1 hP 0 rfl rfl 8 (by decide) (hts (.fieldLink RX7 102 "SnowPumpsModel" "jumps" "I") (by decide +kernel)) (fun _ h9 => h9) rfl dX7_mean_11 ?_
  refine lv_icmp_ge (tgt := 36) hx hb dX7_mean_14 (by decide) (fun c_14 => ?_) (fun c_14 => ?_)
  · have hlt := ngl (N := nj) (by first | decide | omega) (by omega) c_14
    obtain rfl : nj = i := by omega
    refine lv_aload_n hx hb dX7_mean_36 rfl (lv_at hl 0 rfl) ?_
    refine va_get (D := D) (ci := 7) (v := .int (nI nj)) (C := RX7) (T := TX7) (N := 12) hx hb hts hi7 hown hKN.1 hP 0 rfl rfl 8 (by decide) (hts (.fieldLink RX7 102 "SnowPumpsModel" "jumps" "I") (by decide +kernel)) (fun _ h9 => h9) rfl dX7_mean_37 ?_
    refine lv_if_ne (tgt := 47) hx hb dX7_mean_40 (by decide) (fun c_40 => ?_) (fun c_40 => ?_)
    · refine lv_iload_n hx hb dX7_mean_47 rfl (lv_at hl 1 rfl) ?_
      refine lv_eqi (y := sumU pt 30) (by exact hpt) ?_
      refine lv_i2d hx hb dX7_mean_48 ?_
      refine lv_aload_n hx hb dX7_mean_49 rfl (lv_at hl 0 rfl) ?_
      refine va_get (D := D) (ci := 7) (v := .int (nI nj)) (C := RX7) (T := TX7) (N := 12) hx hb hts hi7 hown hKN.1 hP 0 rfl rfl 8 (by decide) (hts (.fieldLink RX7 102 "SnowPumpsModel" "jumps" "I") (by decide +kernel)) (fun _ h9 => h9) rfl dX7_mean_50 ?_
      refine lv_i2d hx hb dX7_mean_53 ?_
      refine lv_ddiv_any hd0 lw_bits hx hb dX7_mean_54 (fun r9 d9 hal hd9 => ?_)
      exact eD hd9 hx hb hr hlk hP hD hS (by first | (rw [show FP.dconst0 = meanU pt nj from (if_pos ((nI_eq (b := 0) (by omega) (by omega)).mp c_40)).symm]; exact alike64_refl _) | (rw [show meanU pt nj = FP.ddiv (FP.i2d (sumU pt 30)) (FP.i2d (nI nj)) from if_neg (fun h9 => c_40 (by rw [h9]; rfl))]; exact hal)) (by exact Nat.le_of_ble_eq_true rfl) (by exact Nat.le_of_ble_eq_true rfl) dX7_mean_55
    · refine lv_dconst0 hx hb dX7_mean_43 ?_
      refine lv_goto (tgt := 55) hx hb dX7_mean_44 (by decide) ?_
      exact eD hd0 hx hb hr hlk hP hD hS (by first | (rw [show FP.dconst0 = meanU pt nj from (if_pos ((nI_eq (b := 0) (by omega) (by omega)).mp c_40)).symm]; exact alike64_refl _) | (rw [show meanU pt nj = FP.ddiv (FP.i2d (sumU pt 30)) (FP.i2d (nI nj)) from if_neg (fun h9 => c_40 (by rw [h9]; rfl))]; exact hal)) (by exact Nat.le_of_ble_eq_true rfl) (by exact Nat.le_of_ble_eq_true rfl) dX7_mean_55
  · have hlt := nge (N := nj) (by first | decide | omega) (by omega) c_14
    refine lv_iload_n hx hb dX7_mean_17 rfl (lv_at hl 1 rfl) ?_
    refine lv_aload_n hx hb dX7_mean_18 rfl (lv_at hl 0 rfl) ?_
    refine va_get (D := D) (ci := 7) (v := .ref z7) (C := RX7) (T := TX7) (N := 12) hx hb hts hi7 hown hKN.1 hP 0 rfl rfl 9 (by decide) (hts (.fieldLink RX7 28 "SnowPumpsModel" "book" "[I") (by decide +kernel)) (fun _ h9 => h9) rfl dX7_mean_19 ?_
    refine lv_iconst (v := (5 : Int32)) hx hb dX7_mean_22 (by decide) ?_
    refine lv_iload_n hx hb dX7_mean_23 rfl (lv_at hl 2 rfl) ?_
    refine lv_imul hx hb dX7_mean_24 ?_
    refine lv_eqi (y := nI (5 * i)) (by exact pk_mul 5 _) ?_
    refine lv_iconst (v := (2 : Int32)) hx hb dX7_mean_25 (by decide) ?_
    refine lv_iadd hx hb dX7_mean_26 ?_
    refine lv_eqi (y := nI (5 * i + 2)) (by exact nI_add _ 2) ?_
    refine ia hx hb hKN.1 hP 1 0 rfl rfl (5 * i + 2) (by rfl) (by omega) (by first | decide | assumption | omega) dX7_mean_27 ?_
    refine lv_eqi (y := pt i) (by exact bk_2) ?_
    refine lv_iadd hx hb dX7_mean_28 ?_
    refine lv_eqi (y := sumU pt (i + 1)) (by rfl) ?_
    refine lv_istore_n (lv' := [(1, .int (sumU pt (i + 1))), (0, .ref z), (2, .int (nI i))]) hx hb dX7_mean_29 rfl hl (by decide) rfl (fun ls hl => ?_)
    refine lv_iinc (v := (nI (i + 1))) (lv' := [(2, .int (nI (i + 1))), (1, .int (sumU pt (i + 1))), (0, .ref z)]) hx hb dX7_mean_30 hl (k := 2) rfl (by exact nI_1 _) (by decide) rfl (fun ls hl => ?_)
    refine lv_goto (tgt := 9) hx hb dX7_mean_33 (by decide) ?_
    exact ih_9 (i + 1) _ _ _ (show nj - (i + 1) < nj - i by omega) ⟨by omega, hP, hD, hS, lv_sub hl [2, 1, 0] rfl⟩
