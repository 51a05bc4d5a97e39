abbrev rm_kX6_wet : Room := { frames := 0, cells := 0, slots := 0, locals := 0 }
set_option maxHeartbeats 4000000 in
set_option maxRecDepth 100000 in
theorem kX6_wet (l : Launch) (D : va_G) (Y : Nat → ClassId) (sz : Nat) (z : Nat) (a : Nat) (L : List Nat) (N : Nat → Nat) (F : Nat → fN) (ha : a ∈ L) (hN : N a = 3) : MI l yX6_wet wsX6_wet rm_kX6_wet D Y [.ref z, .ref a] sz (wp [] (pl Y L N F)) (F a 0 - (100 - F a 1) / 10) (wp [] (pl Y L N F)) 0 0 := by
  refine pcW_start (cc := cX6_wet) (maxL := 2) (ret := (some .int)) (Qc := fun A => va_Qi (fun (r : Int32) (_ : Unit) => r = (F a 0 - (100 - F a 1) / 10)) (qW D A (wp [] (pl Y L N F))) A) (by decide) rfl (Nat.le_of_ble_eq_true rfl) ?_
  intro p e s m below meth c A ls hE hKN hA hP hD hl
  obtain ⟨hx, hb, hr, hml, hown, hts, hlk, hin⟩ := hE
  have hown : s.vm.findClass RX6 = some m.cls := hown
  have hS : va_S A s.heap s.heap [] := va_S.rf
  have hl : lv_has ls 2 [(0, .ref z), (1, .ref a)] := hl
  refine lv_aload_n hx hb dX6_wet_0 rfl (lv_at hl 1 rfl) ?_
  refine lv_iconst (v := (0 : Int32)) hx hb dX6_wet_1 (by decide) ?_
  refine ip hx hb hKN.1 hP (List.mem_append_right _ (pl_in ha)) 0 (by rfl) (by rw [hN]; decide) (by rw [hN]; decide) dX6_wet_2 ?_
  refine lv_bipush (v := (100 : Int32)) hx hb dX6_wet_3 (by decide) ?_
  refine lv_aload_n hx hb dX6_wet_5 rfl (lv_at hl 1 rfl) ?_
  refine lv_iconst (v := (1 : Int32)) hx hb dX6_wet_6 (by decide) ?_
  refine ip hx hb hKN.1 hP (List.mem_append_right _ (pl_in ha)) 1 (by rfl) (by rw [hN]; decide) (by rw [hN]; decide) dX6_wet_7 ?_
  refine lv_isub hx hb dX6_wet_8 ?_
  refine lv_bipush (v := (10 : Int32)) hx hb dX6_wet_9 (by decide) ?_
  refine lv_idiv hx hb dX6_wet_11 (by decide) ?_
  refine lv_isub hx hb dX6_wet_12 ?_
  exact eI hx hb hr hlk hP hD hS (by rfl) (by rfl) (by exact Nat.le_of_ble_eq_true rfl) (by exact Nat.le_of_ble_eq_true rfl) dX6_wet_13
abbrev rm_kX6_lay : Room := { frames := 0, cells := 0, slots := 0, locals := 0 }
set_option maxHeartbeats 4000000 in
set_option maxRecDepth 100000 in
theorem kX6_lay (l : Launch) (D : va_G) (Y : Nat → ClassId) (sz : Nat) (z : Nat) (z1 : Nat) (z2 : Nat) (z3 : Nat) (z4 : Nat) (z5 : Nat) (z6 : Nat) (th : Int32) (wt : Int32) (mn : Int32) (jd : Int32) (sn : fN) (x : Int32) (mo : Int32)  : MV l yX6_lay wsX6_lay rm_kX6_lay D Y [.ref z, .int x, .int mo] sz [(z, .inr (6, [.int th, .int wt, .ref z1, .ref z2, .ref z3, .ref z4, .int mn, .ref z5, .ref z6, .int jd])), (z1, .inl (Y 0, 20, .inl sn))] [(z, .inr (6, [.int th, .int wt, .ref z1, .ref z2, .ref z3, .ref z4, .int mn, .ref z5, .ref z6, .int jd])), (z1, .inl (Y 0, 20, .inl (layU sn x mo)))] 0 0 := by
  refine pcW_start (cc := cX6_lay) (maxL := 3) (ret := none) (Qc := fun A => va_Qv (fun (_ : Unit) => True) (qW D A [(z, .inr (6, [.int th, .int wt, .ref z1, .ref z2, .ref z3, .ref z4, .int mn, .ref z5, .ref z6, .int jd])), (z1, .inl (Y 0, 20, .inl (layU sn x mo)))]) A) (by decide) rfl (Nat.le_of_ble_eq_true rfl) ?_
  intro p e s m below meth c A ls hE hKN hA hP hD hl
  obtain ⟨hx, hb, hr, hml, hown, hts, hlk, hin⟩ := hE
  have hown : s.vm.findClass RX6 = some m.cls := hown
  have hS : va_S A s.heap s.heap [] := va_S.rf
  have hi6 : ∀ w ∈ wsX60, w ∈ wsX6_lay := by decide +kernel
  have hl : lv_has ls 3 [(0, .ref z), (1, .int x), (2, .int mo)] := hl
  refine lv_iload_n hx hb dX6_lay_0 rfl (lv_at hl 1 rfl) ?_
  refine lv_if_lt (tgt := 10) hx hb dX6_lay_1 (by decide) (fun c_1 => ?_) (fun c_1 => ?_)
  · have ec_1 : sn = (layU sn x mo) := by first | exact layU_f (Or.inl c_1) | exact layU_f (Or.inr (Int32.not_le.mp c_7))
    have hP : va_P D vwCl [(z, .inr (6, [.int th, .int wt, .ref z1, .ref z2, .ref z3, .ref z4, .int mn, .ref z5, .ref z6, .int jd])), (z1, .inl (Y 0, 20, .inl (layU sn x mo)))] _ := (congrArg (fun zz9 => va_P D vwCl [(z, .inr (6, [.int th, .int wt, .ref z1, .ref z2, .ref z3, .ref z4, .int mn, .ref z5, .ref z6, .int jd])), (z1, .inl (Y 0, 20, .inl zz9))] _) ec_1).mp hP
    have hD : va_D A [(z, .inr (6, [.int th, .int wt, .ref z1, .ref z2, .ref z3, .ref z4, .int mn, .ref z5, .ref z6, .int jd])), (z1, .inl (Y 0, 20, .inl (layU sn x mo)))] := (congrArg (fun zz9 => va_D A [(z, .inr (6, [.int th, .int wt, .ref z1, .ref z2, .ref z3, .ref z4, .int mn, .ref z5, .ref z6, .int jd])), (z1, .inl (Y 0, 20, .inl zz9))]) ec_1).mp hD
    exact eV hx hb hr hlk hP hD hS (by exact Nat.le_of_ble_eq_true rfl) (by exact Nat.le_of_ble_eq_true rfl) dX6_lay_10
  · refine lv_iload_n hx hb dX6_lay_4 rfl (lv_at hl 1 rfl) ?_
    refine lv_bipush (v := (19 : Int32)) hx hb dX6_lay_5 (by decide) ?_
    refine lv_icmp_le (tgt := 11) hx hb dX6_lay_7 (by decide) (fun c_7 => ?_) (fun c_7 => ?_)
    · have hin9 : inP x := fun h9 => h9.elim c_1 (fun h8 => absurd c_7 (Int32.not_le.mpr h8))
      refine lv_aload_n hx hb dX6_lay_11 rfl (lv_at hl 0 rfl) ?_
      refine va_get (D := D) (ci := 6) (v := .ref z1) (C := RX6) (T := TX6) (N := 10) hx hb hts hi6 hown hKN.1 hP 0 rfl rfl 2 (by decide) (hts (.fieldLink RX6 7 "SnowPumpsLaw$Sim" "snow" "[I") (by decide +kernel)) (fun _ h9 => h9) rfl dX6_lay_12 ?_
      refine lv_iload_n hx hb dX6_lay_15 rfl (lv_at hl 1 rfl) ?_
      refine lv_dup2_11 hx hb dX6_lay_16 rfl rfl ?_
      refine va_iald hx hb hKN.1 hP 1 0 rfl rfl (by exact inP_in hin9) dX6_lay_17 ?_
      refine lv_iload_n hx hb dX6_lay_18 rfl (lv_at hl 2 rfl) ?_
      refine lv_iadd hx hb dX6_lay_19 ?_
      refine va_iast hx hb hKN.1 hP hD hS 1 0 rfl rfl (by exact inP_in hin9) dX6_lay_20 (fun H locs hP hD hS => ?_)
      have hP : va_P D vwCl [(z, .inr (6, [.int th, .int wt, .ref z1, .ref z2, .ref z3, .ref z4, .int mn, .ref z5, .ref z6, .int jd])), (z1, .inl (Y 0, 20, .inl (upd sn x.toNatClampNeg ((sn x.toNatClampNeg) + mo))))] _ := hP
      have hD : va_D A [(z, .inr (6, [.int th, .int wt, .ref z1, .ref z2, .ref z3, .ref z4, .int mn, .ref z5, .ref z6, .int jd])), (z1, .inl (Y 0, 20, .inl (upd sn x.toNatClampNeg ((sn x.toNatClampNeg) + mo))))] := hD
      refine lv_aload_n hx hb dX6_lay_21 rfl (lv_at hl 0 rfl) ?_
      refine va_get (D := D) (ci := 6) (v := .ref z1) (C := RX6) (T := TX6) (N := 10) hx hb hts hi6 hown hKN.1 hP 0 rfl rfl 2 (by decide) (hts (.fieldLink RX6 7 "SnowPumpsLaw$Sim" "snow" "[I") (by decide +kernel)) (fun _ h9 => h9) rfl dX6_lay_22 ?_
      refine lv_iload_n hx hb dX6_lay_25 rfl (lv_at hl 1 rfl) ?_
      refine va_iald hx hb hKN.1 hP 1 0 rfl rfl (by exact inP_in hin9) dX6_lay_26 ?_
      refine lv_eqi (y := sn x.toNatClampNeg + mo) (by exact upd_s _ _ _) ?_
      refine lv_sipush (v := (300 : Int32)) hx hb dX6_lay_27 (by decide) ?_
      refine lv_icmp_le (tgt := 42) hx hb dX6_lay_30 (by decide) (fun c_30 => ?_) (fun c_30 => ?_)
      · have ec_2 : (upd sn x.toNatClampNeg ((sn x.toNatClampNeg) + mo)) = (layU sn x mo) := by exact lay_le hin9 c_30
        have hP : va_P D vwCl [(z, .inr (6, [.int th, .int wt, .ref z1, .ref z2, .ref z3, .ref z4, .int mn, .ref z5, .ref z6, .int jd])), (z1, .inl (Y 0, 20, .inl (layU sn x mo)))] _ := (congrArg (fun zz9 => va_P D vwCl [(z, .inr (6, [.int th, .int wt, .ref z1, .ref z2, .ref z3, .ref z4, .int mn, .ref z5, .ref z6, .int jd])), (z1, .inl (Y 0, 20, .inl zz9))] _) ec_2).mp hP
        have hD : va_D A [(z, .inr (6, [.int th, .int wt, .ref z1, .ref z2, .ref z3, .ref z4, .int mn, .ref z5, .ref z6, .int jd])), (z1, .inl (Y 0, 20, .inl (layU sn x mo)))] := (congrArg (fun zz9 => va_D A [(z, .inr (6, [.int th, .int wt, .ref z1, .ref z2, .ref z3, .ref z4, .int mn, .ref z5, .ref z6, .int jd])), (z1, .inl (Y 0, 20, .inl zz9))]) ec_2).mp hD
        exact eV hx hb hr hlk hP hD hS (by exact Nat.le_of_ble_eq_true rfl) (by exact Nat.le_of_ble_eq_true rfl) dX6_lay_42
      · refine lv_aload_n hx hb dX6_lay_33 rfl (lv_at hl 0 rfl) ?_
        refine va_get (D := D) (ci := 6) (v := .ref z1) (C := RX6) (T := TX6) (N := 10) hx hb hts hi6 hown hKN.1 hP 0 rfl rfl 2 (by decide) (hts (.fieldLink RX6 7 "SnowPumpsLaw$Sim" "snow" "[I") (by decide +kernel)) (fun _ h9 => h9) rfl dX6_lay_34 ?_
        refine lv_iload_n hx hb dX6_lay_37 rfl (lv_at hl 1 rfl) ?_
        refine lv_sipush (v := (300 : Int32)) hx hb dX6_lay_38 (by decide) ?_
        refine va_iast hx hb hKN.1 hP hD hS 1 0 rfl rfl (by exact inP_in hin9) dX6_lay_41 (fun H locs hP hD hS => ?_)
        have hP : va_P D vwCl [(z, .inr (6, [.int th, .int wt, .ref z1, .ref z2, .ref z3, .ref z4, .int mn, .ref z5, .ref z6, .int jd])), (z1, .inl (Y 0, 20, .inl (upd (upd sn x.toNatClampNeg ((sn x.toNatClampNeg) + mo)) x.toNatClampNeg (300 : Int32))))] _ := hP
        have hD : va_D A [(z, .inr (6, [.int th, .int wt, .ref z1, .ref z2, .ref z3, .ref z4, .int mn, .ref z5, .ref z6, .int jd])), (z1, .inl (Y 0, 20, .inl (upd (upd sn x.toNatClampNeg ((sn x.toNatClampNeg) + mo)) x.toNatClampNeg (300 : Int32))))] := hD
        have ec_3 : (upd (upd sn x.toNatClampNeg ((sn x.toNatClampNeg) + mo)) x.toNatClampNeg (300 : Int32)) = (layU sn x mo) := by exact lay_gt hin9 c_30
        have hP : va_P D vwCl [(z, .inr (6, [.int th, .int wt, .ref z1, .ref z2, .ref z3, .ref z4, .int mn, .ref z5, .ref z6, .int jd])), (z1, .inl (Y 0, 20, .inl (layU sn x mo)))] _ := (congrArg (fun zz9 => va_P D vwCl [(z, .inr (6, [.int th, .int wt, .ref z1, .ref z2, .ref z3, .ref z4, .int mn, .ref z5, .ref z6, .int jd])), (z1, .inl (Y 0, 20, .inl zz9))] _) ec_3).mp hP
        have hD : va_D A [(z, .inr (6, [.int th, .int wt, .ref z1, .ref z2, .ref z3, .ref z4, .int mn, .ref z5, .ref z6, .int jd])), (z1, .inl (Y 0, 20, .inl (layU sn x mo)))] := (congrArg (fun zz9 => va_D A [(z, .inr (6, [.int th, .int wt, .ref z1, .ref z2, .ref z3, .ref z4, .int mn, .ref z5, .ref z6, .int jd])), (z1, .inl (Y 0, 20, .inl zz9))]) ec_3).mp hD
        exact eV hx hb hr hlk hP hD hS (by exact Nat.le_of_ble_eq_true rfl) (by exact Nat.le_of_ble_eq_true rfl) dX6_lay_42
    · have ec_4 : sn = (layU sn x mo) := by first | exact layU_f (Or.inl c_1) | exact layU_f (Or.inr (Int32.not_le.mp c_7))
      have hP : va_P D vwCl [(z, .inr (6, [.int th, .int wt, .ref z1, .ref z2, .ref z3, .ref z4, .int mn, .ref z5, .ref z6, .int jd])), (z1, .inl (Y 0, 20, .inl (layU sn x mo)))] _ := (congrArg (fun zz9 => va_P D vwCl [(z, .inr (6, [.int th, .int wt, .ref z1, .ref z2, .ref z3, .ref z4, .int mn, .ref z5, .ref z6, .int jd])), (z1, .inl (Y 0, 20, .inl zz9))] _) ec_4).mp hP
      have hD : va_D A [(z, .inr (6, [.int th, .int wt, .ref z1, .ref z2, .ref z3, .ref z4, .int mn, .ref z5, .ref z6, .int jd])), (z1, .inl (Y 0, 20, .inl (layU sn x mo)))] := (congrArg (fun zz9 => va_D A [(z, .inr (6, [.int th, .int wt, .ref z1, .ref z2, .ref z3, .ref z4, .int mn, .ref z5, .ref z6, .int jd])), (z1, .inl (Y 0, 20, .inl zz9))]) ec_4).mp hD
      exact eV hx hb hr hlk hP hD hS (by exact Nat.le_of_ble_eq_true rfl) (by exact Nat.le_of_ble_eq_true rfl) dX6_lay_10
abbrev rm_kX6_falls : Room := { frames := 0, cells := 0, slots := 0, locals := 0 }
set_option maxHeartbeats 4000000 in
set_option maxRecDepth 100000 in
theorem kX6_falls (l : Launch) (D : va_G) (Y : Nat → ClassId) (sz : Nat) (z : Nat) (z1 : Nat) (z2 : Nat) (z3 : Nat) (z4 : Nat) (z5 : Nat) (z6 : Nat) (th : Int32) (wt : Int32) (mn : Int32) (jd : Int32) (sn : fN) (ic : fN) (k : Nat) (hk : k < 20) : MI l yX6_falls wsX6_falls rm_kX6_falls D Y [.ref z, .int (nI k)] sz [(z, .inr (6, [.int th, .int wt, .ref z1, .ref z2, .ref z3, .ref z4, .int mn, .ref z5, .ref z6, .int jd])), (z1, .inl (Y 0, 20, .inl sn)), (z2, .inl (Y 0, 20, .inl ic))] (bi (badU sn ic k)) [(z, .inr (6, [.int th, .int wt, .ref z1, .ref z2, .ref z3, .ref z4, .int mn, .ref z5, .ref z6, .int jd])), (z1, .inl (Y 0, 20, .inl sn)), (z2, .inl (Y 0, 20, .inl ic))] 0 0 := by
  refine pcW_start (cc := cX6_falls) (maxL := 2) (ret := (some .boolean)) (Qc := fun A => va_Qi (fun (r : Int32) (_ : Unit) => r = (bi (badU sn ic k))) (qW D A [(z, .inr (6, [.int th, .int wt, .ref z1, .ref z2, .ref z3, .ref z4, .int mn, .ref z5, .ref z6, .int jd])), (z1, .inl (Y 0, 20, .inl sn)), (z2, .inl (Y 0, 20, .inl ic))]) A) (by decide) rfl (Nat.le_of_ble_eq_true rfl) ?_
  intro p e s m below meth c A ls hE hKN hA hP hD hl
  obtain ⟨hx, hb, hr, hml, hown, hts, hlk, hin⟩ := hE
  have hown : s.vm.findClass RX6 = some m.cls := hown
  have hS : va_S A s.heap s.heap [] := va_S.rf
  have hi6 : ∀ w ∈ wsX60, w ∈ wsX6_falls := by decide +kernel
  have hl : lv_has ls 2 [(0, .ref z), (1, .int (nI k))] := hl
  refine lv_aload_n hx hb dX6_falls_0 rfl (lv_at hl 0 rfl) ?_
  refine va_get (D := D) (ci := 6) (v := .ref z1) (C := RX6) (T := TX6) (N := 10) hx hb hts hi6 hown hKN.1 hP 0 rfl rfl 2 (by decide) (hts (.fieldLink RX6 7 "SnowPumpsLaw$Sim" "snow" "[I") (by decide +kernel)) (fun _ h9 => h9) rfl dX6_falls_1 ?_
  refine lv_iload_n hx hb dX6_falls_4 rfl (lv_at hl 1 rfl) ?_
  refine ia hx hb hKN.1 hP 1 0 rfl rfl k (by rfl) (by omega) (by first | decide | assumption | omega) dX6_falls_5 ?_
  refine lv_bipush (v := (30 : Int32)) hx hb dX6_falls_6 (by decide) ?_
  refine lv_icmp_lt (tgt := 22) hx hb dX6_falls_8 (by decide) (fun c_8 => ?_) (fun c_8 => ?_)
  · have c_19 : True := trivial
    refine lv_iconst (v := (1 : Int32)) hx hb dX6_falls_22 (by decide) ?_
    refine lv_goto (tgt := 27) hx hb dX6_falls_23 (by decide) ?_
    exact eI hx hb hr hlk hP hD hS (by first | rfl | exact narZ _) (by first | exact (bi_t (Or.inl c_8)).symm | exact (bi_t (Or.inr (i9.mp c_19))).symm | exact (bi_f (fun h9 => h9.elim c_8 (fun h8 => (i9.mpr h8) c_19))).symm) (by exact Nat.le_of_ble_eq_true rfl) (by exact Nat.le_of_ble_eq_true rfl) dX6_falls_27
  · refine lv_aload_n hx hb dX6_falls_11 rfl (lv_at hl 0 rfl) ?_
    refine va_get (D := D) (ci := 6) (v := .ref z2) (C := RX6) (T := TX6) (N := 10) hx hb hts hi6 hown hKN.1 hP 0 rfl rfl 3 (by decide) (hts (.fieldLink RX6 13 "SnowPumpsLaw$Sim" "ice" "[I") (by decide +kernel)) (fun _ h9 => h9) rfl dX6_falls_12 ?_
    refine lv_iload_n hx hb dX6_falls_15 rfl (lv_at hl 1 rfl) ?_
    refine ia hx hb hKN.1 hP 2 0 rfl rfl k (by rfl) (by omega) (by first | decide | assumption | omega) dX6_falls_16 ?_
    refine lv_bipush (v := (9 : Int32)) hx hb dX6_falls_17 (by decide) ?_
    refine lv_icmp_le (tgt := 26) hx hb dX6_falls_19 (by decide) (fun c_19 => ?_) (fun c_19 => ?_)
    · refine lv_iconst (v := (0 : Int32)) hx hb dX6_falls_26 (by decide) ?_
      exact eI hx hb hr hlk hP hD hS (by first | rfl | exact narZ _) (by first | exact (bi_t (Or.inl c_8)).symm | exact (bi_t (Or.inr (i9.mp c_19))).symm | exact (bi_f (fun h9 => h9.elim c_8 (fun h8 => (i9.mpr h8) c_19))).symm) (by exact Nat.le_of_ble_eq_true rfl) (by exact Nat.le_of_ble_eq_true rfl) dX6_falls_27
    · refine lv_iconst (v := (1 : Int32)) hx hb dX6_falls_22 (by decide) ?_
      refine lv_goto (tgt := 27) hx hb dX6_falls_23 (by decide) ?_
      exact eI hx hb hr hlk hP hD hS (by first | rfl | exact narZ _) (by first | exact (bi_t (Or.inl c_8)).symm | exact (bi_t (Or.inr (i9.mp c_19))).symm | exact (bi_f (fun h9 => h9.elim c_8 (fun h8 => (i9.mpr h8) c_19))).symm) (by exact Nat.le_of_ble_eq_true rfl) (by exact Nat.le_of_ble_eq_true rfl) dX6_falls_27
abbrev rm_kX6_length : Room := { frames := 0, cells := 0, slots := 0, locals := 0 }
set_option maxHeartbeats 4000000 in
set_option maxRecDepth 100000 in
theorem kX6_length (l : Launch) (D : va_G) (Y : Nat → ClassId) (sz : Nat) (z : Nat) (z1 : Nat) (z2 : Nat) (z3 : Nat) (z4 : Nat) (z5 : Nat) (z6 : Nat) (tm : Nat) (wt : Int32) (mn : Int32) (jd : Int32) (wr : Nat → Option Nat) (wa : fN) (da : fN) (gu : fN) (L : List Nat) (N : Nat → Nat) (F : Nat → fN) (gate : Int32) (style : Int32) (htm : tm < 2 ^ 31) (hWR : WR L N F wr wa da gu) : MI l yX6_length wsX6_length rm_kX6_length D Y [.ref z, .int gate, .int style] sz (wp [(z, .inr (6, [.int (nI tm), .int wt, .ref z1, .ref z2, .ref z3, .ref z4, .int mn, .ref z5, .ref z6, .int jd])), (z3, .inl (Y 2, 24, .inr (.inr (.inr (.inr wr)))))] (pl Y L N F)) (lenU gate (gu (tm % 24)) style) (wp [(z, .inr (6, [.int (nI tm), .int wt, .ref z1, .ref z2, .ref z3, .ref z4, .int mn, .ref z5, .ref z6, .int jd])), (z3, .inl (Y 2, 24, .inr (.inr (.inr (.inr wr)))))] (pl Y L N F)) 0 0 := by
  refine pcW_start (cc := cX6_length) (maxL := 4) (ret := (some .int)) (Qc := fun A => va_Qi (fun (r : Int32) (_ : Unit) => r = (lenU gate (gu (tm % 24)) style)) (qW D A (wp [(z, .inr (6, [.int (nI tm), .int wt, .ref z1, .ref z2, .ref z3, .ref z4, .int mn, .ref z5, .ref z6, .int jd])), (z3, .inl (Y 2, 24, .inr (.inr (.inr (.inr wr)))))] (pl Y L N F))) A) (by decide) rfl (Nat.le_of_ble_eq_true rfl) ?_
  intro p e s m below meth c A ls hE hKN hA hP hD hl
  obtain ⟨hx, hb, hr, hml, hown, hts, hlk, hin⟩ := hE
  have hown : s.vm.findClass RX6 = some m.cls := hown
  have hS : va_S A s.heap s.heap [] := va_S.rf
  have hi6 : ∀ w ∈ wsX60, w ∈ wsX6_length := by decide +kernel
  have hl : lv_has ls 4 [(0, .ref z), (1, .int gate), (2, .int style)] := hl
  refine lv_iconst (v := (4 : Int32)) hx hb dX6_length_0 (by decide) ?_
  refine lv_iload_n hx hb dX6_length_1 rfl (lv_at hl 1 rfl) ?_
  refine lv_imul hx hb dX6_length_2 ?_
  refine lv_iconst (v := (2 : Int32)) hx hb dX6_length_3 (by decide) ?_
  refine lv_aload_n hx hb dX6_length_4 rfl (lv_at hl 0 rfl) ?_
  refine va_get (D := D) (ci := 6) (v := .ref z3) (C := RX6) (T := TX6) (N := 10) hx hb hts hi6 hown hKN.1 hP 0 rfl rfl 4 (by decide) (hts (.fieldLink RX6 17 "SnowPumpsLaw$Sim" "weather" "[[I") (by decide +kernel)) (fun _ h9 => h9) rfl dX6_length_5 ?_
  refine lv_aload_n hx hb dX6_length_8 rfl (lv_at hl 0 rfl) ?_
  refine va_get (D := D) (ci := 6) (v := .int (nI tm)) (C := RX6) (T := TX6) (N := 10) hx hb hts hi6 hown hKN.1 hP 0 rfl rfl 0 (by decide) (hts (.fieldLink RX6 30 "SnowPumpsLaw$Sim" "hour" "I") (by decide +kernel)) (fun _ h9 => h9) rfl dX6_length_9 ?_
  refine lv_bipush (v := (24 : Int32)) hx hb dX6_length_12 (by decide) ?_
  refine lv_irem hx hb dX6_length_14 (by decide) ?_
  refine lv_eqi (y := nI (tm % 24)) (by exact pk_rem (d := 24) htm (by decide) (by decide)) ?_
  obtain ⟨aw, ew, mw, nw9, fw0, fw1, fw2⟩ := hWR (tm % 24) (Nat.mod_lt _ (by decide))
  refine qa hx hb hKN.1 hP 1 rfl (tm % 24) (by rfl) (by exact Nat.mod_lt _ (by decide)) (by decide) (v := aw) (by exact ew) dX6_length_15 ?_
  refine lv_iconst (v := (2 : Int32)) hx hb dX6_length_16 (by decide) ?_
  refine ip hx hb hKN.1 hP (List.mem_append_right _ (pl_in mw)) 2 (by rfl) (by rw [nw9]; decide) (by rw [nw9]; decide) dX6_length_17 ?_
  refine lv_eqi (y := gu (tm % 24)) (by exact fw2) ?_
  refine lv_imul hx hb dX6_length_18 ?_
  refine lv_iadd hx hb dX6_length_19 ?_
  refine lv_iload_n hx hb dX6_length_20 rfl (lv_at hl 2 rfl) ?_
  refine lv_iconst (v := (4 : Int32)) hx hb dX6_length_21 (by decide) ?_
  refine lv_idiv hx hb dX6_length_22 (by decide) ?_
  refine lv_iadd hx hb dX6_length_23 ?_
  refine lv_istore_n (lv' := [(3, .int ((((4 : Int32) * gate) + ((2 : Int32) * (gu (tm % 24)))) + (style / (4 : Int32)))), (0, .ref z), (1, .int gate), (2, .int style)]) hx hb dX6_length_24 rfl hl (by decide) rfl (fun ls hl => ?_)
  refine lv_iload_n hx hb dX6_length_25 rfl (lv_at hl 0 rfl) ?_
  refine lv_if_ge (tgt := 33) hx hb dX6_length_26 (by decide) (fun c_26 => ?_) (fun c_26 => ?_)
  · refine lv_iload_n hx hb dX6_length_33 rfl (lv_at hl 0 rfl) ?_
    refine lv_bipush (v := (99 : Int32)) hx hb dX6_length_34 (by decide) ?_
    refine lv_icmp_le (tgt := 44) hx hb dX6_length_36 (by decide) (fun c_36 => ?_) (fun c_36 => ?_)
    · refine lv_iload_n hx hb dX6_length_44 rfl (lv_at hl 0 rfl) ?_
      exact eI hx hb hr hlk hP hD hS (by rfl) (by first | exact len_0 c_26 | exact len_99 c_36 | exact len_v c_26 c_36) (by exact Nat.le_of_ble_eq_true rfl) (by exact Nat.le_of_ble_eq_true rfl) dX6_length_45
    · refine lv_bipush (v := (99 : Int32)) hx hb dX6_length_39 (by decide) ?_
      refine lv_goto (tgt := 45) hx hb dX6_length_41 (by decide) ?_
      exact eI hx hb hr hlk hP hD hS (by rfl) (by first | exact len_0 c_26 | exact len_99 c_36 | exact len_v c_26 c_36) (by exact Nat.le_of_ble_eq_true rfl) (by exact Nat.le_of_ble_eq_true rfl) dX6_length_45
  · refine lv_iconst (v := (0 : Int32)) hx hb dX6_length_29 (by decide) ?_
    refine lv_goto (tgt := 45) hx hb dX6_length_30 (by decide) ?_
    exact eI hx hb hr hlk hP hD hS (by rfl) (by first | exact len_0 c_26 | exact len_99 c_36 | exact len_v c_26 c_36) (by exact Nat.le_of_ble_eq_true rfl) (by exact Nat.le_of_ble_eq_true rfl) dX6_length_45
abbrev rm_kX6_score : Room := { frames := 4, cells := 1, slots := 32, locals := 111 }
set_option maxHeartbeats 4000000 in
set_option maxRecDepth 100000 in
theorem kX6_score (l : Launch) (D : va_G) (Y : Nat → ClassId) (sz : Nat) (z : Nat) (z1 : Nat) (z2 : Nat) (z3 : Nat) (z4 : Nat) (z5 : Nat) (z6 : Nat) (th : Int32) (wt : Int32) (mn : Int32) (jw : Nat → Option Nat) (jr : fN) (ln : fN) (pt : fN) (fa : fN) (ho : fN) (nj : Nat) (L : List Nat) (N : Nat → Nat) (F : Nat → fN) (who : Int32) (hnj : nj ≤ 30) (hJR : JR L N F jw jr ln pt fa ho nj) (hpt : ∀ k, k < nj → 0 ≤ pt k) : MI l yX6_score wsX6_score rm_kX6_score D Y [.ref z, .int who] sz (wp [(z, .inr (6, [.int th, .int wt, .ref z1, .ref z2, .ref z3, .ref z4, .int mn, .ref z5, .ref z6, .int (nI nj)])), (z6, .inl (Y 2, 30, .inr (.inr (.inr (.inr jw)))))] (pl Y L N F)) (scU jr pt nj who) (wp [(z, .inr (6, [.int th, .int wt, .ref z1, .ref z2, .ref z3, .ref z4, .int mn, .ref z5, .ref z6, .int (nI nj)])), (z6, .inl (Y 2, 30, .inr (.inr (.inr (.inr jw)))))] (pl Y L N F)) 1 32 := by
  refine pcW_start (cc := cX6_score) (maxL := 4) (ret := (some .int)) (Qc := fun A => va_Qi (fun (r : Int32) (_ : Unit) => r = (scU jr pt nj who)) (qW D A (wp [(z, .inr (6, [.int th, .int wt, .ref z1, .ref z2, .ref z3, .ref z4, .int mn, .ref z5, .ref z6, .int (nI nj)])), (z6, .inl (Y 2, 30, .inr (.inr (.inr (.inr jw)))))] (pl Y L N F))) A) (by decide) rfl (Nat.le_of_ble_eq_true rfl) ?_
  intro p e s m below meth c A ls hE hKN hA hP hD hl
  obtain ⟨hx, hb, hr, hml, hown, hts, hlk, hin⟩ := hE
  have hown : s.vm.findClass RX6 = some m.cls := hown
  have hS : va_S A s.heap s.heap [] := va_S.rf
  have hi6 : ∀ w ∈ wsX60, w ∈ wsX6_score := by decide +kernel
  have hl : lv_has ls 4 [(0, .ref z), (1, .int who)] := hl
  refine lv_bipush (v := (32 : Int32)) hx hb dX6_score_0 (by decide) ?_
  refine nAP (C := []) (X := [(z, .inr (6, [.int th, .int wt, .ref z1, .ref z2, .ref z3, .ref z4, .int mn, .ref z5, .ref z6, .int (nI nj)])), (z6, .inl (Y 2, 30, .inr (.inr (.inr (.inr jw)))))]) (r := pl Y L N F) hx hb (hts (.arrayClass .int) (by decide +kernel)) hKN.1 hP hD hS hA (n := (32 : Int32)) (N' := 32) (by decide) (by decide) (by decide) (by exact Nat.le_of_ble_eq_true rfl) (by exact Nat.le_of_ble_eq_true rfl) dX6_score_2 (fun b9 H hP hD hS => ?_)
  have hP : va_P D vwCl (wp [(z, .inr (6, [.int th, .int wt, .ref z1, .ref z2, .ref z3, .ref z4, .int mn, .ref z5, .ref z6, .int (nI nj)])), (z6, .inl (Y 2, 30, .inr (.inr (.inr (.inr jw))))), (b9, .inl (Y 0, 32, .inl (fun _ => 0)))] (pl Y L N F)) _ := hP
  have hD : va_D A (wp [(z, .inr (6, [.int th, .int wt, .ref z1, .ref z2, .ref z3, .ref z4, .int mn, .ref z5, .ref z6, .int (nI nj)])), (z6, .inl (Y 2, 30, .inr (.inr (.inr (.inr jw))))), (b9, .inl (Y 0, 32, .inl (fun _ => 0)))] (pl Y L N F)) := hD
  refine lv_astore_n (lv' := [(2, .ref b9), (0, .ref z), (1, .int who)]) hx hb dX6_score_4 rfl hl (by decide) rfl (fun ls hl => ?_)
  refine lv_iconst (v := (0 : Int32)) hx hb dX6_score_5 (by decide) ?_
  refine lv_istore_n (lv' := [(3, .int (0 : Int32)), (2, .ref b9), (0, .ref z), (1, .int who)]) hx hb dX6_score_6 rfl hl (by decide) rfl (fun ls hl => ?_)
  have ec_1 : (fun _ => 0) = (ptsU jr pt who 0) := by exact ptsU_0 _ _ _
  have hP : va_P D vwCl (wp [(z, .inr (6, [.int th, .int wt, .ref z1, .ref z2, .ref z3, .ref z4, .int mn, .ref z5, .ref z6, .int (nI nj)])), (z6, .inl (Y 2, 30, .inr (.inr (.inr (.inr jw))))), (b9, .inl (Y 0, 32, .inl (ptsU jr pt who 0)))] (pl Y L N F)) _ := (congrArg (fun zz9 => va_P D vwCl (wp [(z, .inr (6, [.int th, .int wt, .ref z1, .ref z2, .ref z3, .ref z4, .int mn, .ref z5, .ref z6, .int (nI nj)])), (z6, .inl (Y 2, 30, .inr (.inr (.inr (.inr jw))))), (b9, .inl (Y 0, 32, .inl zz9))] (pl Y L N F)) _) ec_1).mp hP
  have hD : va_D A (wp [(z, .inr (6, [.int th, .int wt, .ref z1, .ref z2, .ref z3, .ref z4, .int mn, .ref z5, .ref z6, .int (nI nj)])), (z6, .inl (Y 2, 30, .inr (.inr (.inr (.inr jw))))), (b9, .inl (Y 0, 32, .inl (ptsU jr pt who 0)))] (pl Y L N F)) := (congrArg (fun zz9 => va_D A (wp [(z, .inr (6, [.int th, .int wt, .ref z1, .ref z2, .ref z3, .ref z4, .int mn, .ref z5, .ref z6, .int (nI nj)])), (z6, .inl (Y 2, 30, .inr (.inr (.inr (.inr jw))))), (b9, .inl (Y 0, 32, .inl zz9))] (pl Y L N F))) ec_1).mp hD
  refine LPP (σ := Nat) (I := fun i H locs ls => i ≤ nj ∧ va_P D vwCl (wp [(z, .inr (6, [.int th, .int wt, .ref z1, .ref z2, .ref z3, .ref z4, .int mn, .ref z5, .ref z6, .int (nI nj)])), (z6, .inl (Y 2, 30, .inr (.inr (.inr (.inr jw))))), (b9, .inl (Y 0, 32, .inl (ptsU jr pt who i)))] (pl Y L N F)) H ∧ va_D A (wp [(z, .inr (6, [.int th, .int wt, .ref z1, .ref z2, .ref z3, .ref z4, .int mn, .ref z5, .ref z6, .int (nI nj)])), (z6, .inl (Y 2, 30, .inr (.inr (.inr (.inr jw))))), (b9, .inl (Y 0, 32, .inl (ptsU jr pt who i)))] (pl Y L N F)) ∧ va_S A s.heap H locs ∧ lv_has ls 4 [(0, .ref z), (1, .int who), (2, .ref b9), (3, .int (nI i))]) (μ := fun i => nj - i) (cl := fun i => 0 + 1) (sl := fun i => 0 + 32) (fun i ih_7 H locs ls hI => ?_) 0 _ _ _ ⟨by omega, hP, hD, hS, lv_sub hl [2, 3, 1, 0] rfl⟩
  obtain ⟨hi, hP, hD, hS, hl⟩ := hI
  refine lv_iload_n hx hb dX6_score_7 rfl (lv_at hl 3 rfl) ?_
  refine lv_aload_n hx hb dX6_score_8 rfl (lv_at hl 0 rfl) ?_
  refine va_get (D := D) (ci := 6) (v := .int (nI nj)) (C := RX6) (T := TX6) (N := 10) hx hb hts hi6 hown hKN.1 hP 0 rfl rfl 9 (by decide) (hts (.fieldLink RX6 62 "SnowPumpsLaw$Sim" "jumped" "I") (by decide +kernel)) (fun _ h9 => h9) rfl dX6_score_9 ?_
  refine lv_icmp_ge (tgt := 44) hx hb dX6_score_12 (by decide) (fun c_12 => ?_) (fun c_12 => ?_)
  · have hlt := ngl (N := nj) (by first | decide | omega) (by omega) c_12
    obtain rfl : nj = i := by omega
    refine lv_aload_n hx hb dX6_score_44 rfl (lv_at hl 2 rfl) ?_
    refine gSv (As := [.ref b9]) (rest := []) (ws' := (wp [(z, .inr (6, [.int th, .int wt, .ref z1, .ref z2, .ref z3, .ref z4, .int mn, .ref z5, .ref z6, .int (nI nj)])), (z6, .inl (Y 2, 30, .inr (.inr (.inr (.inr jw))))), (b9, .inl (Y 0, 32, .inl (sortP (ptsU jr pt who nj) 32)))] (pl Y L N F))) ⟨hx, hb, hml, hown, hts⟩ (kJ7_sort_2022b l D Y _ b9 32 (ptsU jr pt who nj) (by first | assumption | omega) (by first | assumption | omega)) (va_cwS 1 hts gX6_score_J7_sort_2022b rfl rfl rfl (by decide +kernel) ⟨Nat.le_of_ble_eq_true rfl, Nat.le_of_ble_eq_true rfl⟩) hKN hP hD hS hA (pA (pmo (X := [(z, .inr (6, [.int th, .int wt, .ref z1, .ref z2, .ref z3, .ref z4, .int mn, .ref z5, .ref z6, .int (nI nj)])), (z6, .inl (Y 2, 30, .inr (.inr (.inr (.inr jw))))), (b9, .inl (Y 0, 32, .inl (ptsU jr pt who nj)))]) (X2 := [(b9, .inl (Y 0, 32, .inl (ptsU jr pt who nj)))] ++ [(z, .inr (6, [.int th, .int wt, .ref z1, .ref z2, .ref z3, .ref z4, .int mn, .ref z5, .ref z6, .int (nI nj)])), (z6, .inl (Y 2, 30, .inr (.inr (.inr (.inr jw)))))]) 3 rfl [2, 0, 1] (by decide) rfl)) (pA' (pmo (X := [(z, .inr (6, [.int th, .int wt, .ref z1, .ref z2, .ref z3, .ref z4, .int mn, .ref z5, .ref z6, .int (nI nj)])), (z6, .inl (Y 2, 30, .inr (.inr (.inr (.inr jw))))), (b9, .inl (Y 0, 32, .inl (sortP (ptsU jr pt who nj) 32)))]) (X2 := [(b9, .inl (Y 0, 32, .inl (sortP (ptsU jr pt who nj) 32)))] ++ [(z, .inr (6, [.int th, .int wt, .ref z1, .ref z2, .ref z3, .ref z4, .int mn, .ref z5, .ref z6, .int (nI nj)])), (z6, .inl (Y 2, 30, .inr (.inr (.inr (.inr jw)))))]) 3 rfl [2, 0, 1] (by decide) rfl)) rfl rfl hl.1 (Nat.le_of_ble_eq_true rfl) dX6_score_45 ⟨Nat.le_of_ble_eq_true rfl, Nat.le_of_ble_eq_true rfl⟩ (fun H locs hP hD hS => ?_)
    refine lv_aload_n hx hb dX6_score_48 rfl (lv_at hl 2 rfl) ?_
    refine lv_bipush (v := (31 : Int32)) hx hb dX6_score_49 (by decide) ?_
    refine ia hx hb hKN.1 hP 2 0 rfl rfl 31 (by rfl) (by decide) (by first | decide | assumption | omega) dX6_score_51 ?_
    refine lv_aload_n hx hb dX6_score_52 rfl (lv_at hl 2 rfl) ?_
    refine lv_bipush (v := (30 : Int32)) hx hb dX6_score_53 (by decide) ?_
    refine ia hx hb hKN.1 hP 2 0 rfl rfl 30 (by rfl) (by decide) (by first | decide | assumption | omega) dX6_score_55 ?_
    refine lv_iadd hx hb dX6_score_56 ?_
    obtain ⟨hP, hD⟩ := drp (C := []) (X := [(z, .inr (6, [.int th, .int wt, .ref z1, .ref z2, .ref z3, .ref z4, .int mn, .ref z5, .ref z6, .int (nI nj)])), (z6, .inl (Y 2, 30, .inr (.inr (.inr (.inr jw))))), (b9, .inl (Y 0, 32, .inl (sortP (ptsU jr pt who nj) 32)))]) (cx := [(z, .inr (6, [.int th, .int wt, .ref z1, .ref z2, .ref z3, .ref z4, .int mn, .ref z5, .ref z6, .int (nI nj)])), (z6, .inl (Y 2, 30, .inr (.inr (.inr (.inr jw)))))]) (wr := [(b9, .inl (Y 0, 32, .inl (sortP (ptsU jr pt who nj) 32)))]) (r := pl Y L N F) hP hD (pmo 3 rfl [0, 1, 2] (by decide) rfl)
    have hP : va_P D vwCl (wp [(z, .inr (6, [.int th, .int wt, .ref z1, .ref z2, .ref z3, .ref z4, .int mn, .ref z5, .ref z6, .int (nI nj)])), (z6, .inl (Y 2, 30, .inr (.inr (.inr (.inr jw)))))] (pl Y L N F)) _ := hP
    have hD : va_D A (wp [(z, .inr (6, [.int th, .int wt, .ref z1, .ref z2, .ref z3, .ref z4, .int mn, .ref z5, .ref z6, .int (nI nj)])), (z6, .inl (Y 2, 30, .inr (.inr (.inr (.inr jw)))))] (pl Y L N F)) := hD
    exact eI hx hb hr hlk hP hD hS (by rfl) (by exact score_sort hnj hpt) (by exact Nat.le_of_ble_eq_true rfl) (by exact Nat.le_of_ble_eq_true rfl) dX6_score_57
  · have hlt := nge (N := nj) (by first | decide | omega) (by omega) c_12
    obtain ⟨aj, ej, mj, nj9, fj0, fj1, fj2, fj3, fj4⟩ := hJR i (by omega)
    refine lv_aload_n hx hb dX6_score_15 rfl (lv_at hl 0 rfl) ?_
    refine va_get (D := D) (ci := 6) (v := .ref z6) (C := RX6) (T := TX6) (N := 10) hx hb hts hi6 hown hKN.1 hP 0 rfl rfl 8 (by decide) (hts (.fieldLink RX6 27 "SnowPumpsLaw$Sim" "jumps" "[[I") (by decide +kernel)) (fun _ h9 => h9) rfl dX6_score_16 ?_
    refine lv_iload_n hx hb dX6_score_19 rfl (lv_at hl 3 rfl) ?_
    refine qa hx hb hKN.1 hP 1 rfl i (by rfl) (by omega) (by decide) (v := aj) (by exact ej) dX6_score_20 ?_
    refine lv_iconst (v := (0 : Int32)) hx hb dX6_score_21 (by decide) ?_
    refine ip hx hb hKN.1 hP (List.mem_append_right _ (pl_in mj)) 0 (by rfl) (by rw [nj9]; decide) (by rw [nj9]; decide) dX6_score_22 ?_
    refine lv_eqi (y := jr i) (by exact fj0) ?_
    refine lv_iload_n hx hb dX6_score_23 rfl (lv_at hl 1 rfl) ?_
    refine lv_icmp_ne (tgt := 38) hx hb dX6_score_24 (by decide) (fun c_24 => ?_) (fun c_24 => ?_)
    · have ec_2 : (ptsU jr pt who i) = (ptsU jr pt who (i + 1)) := by exact ptsU_n c_24
      have hP : va_P D vwCl (wp [(z, .inr (6, [.int th, .int wt, .ref z1, .ref z2, .ref z3, .ref z4, .int mn, .ref z5, .ref z6, .int (nI nj)])), (z6, .inl (Y 2, 30, .inr (.inr (.inr (.inr jw))))), (b9, .inl (Y 0, 32, .inl (ptsU jr pt who (i + 1))))] (pl Y L N F)) _ := (congrArg (fun zz9 => va_P D vwCl (wp [(z, .inr (6, [.int th, .int wt, .ref z1, .ref z2, .ref z3, .ref z4, .int mn, .ref z5, .ref z6, .int (nI nj)])), (z6, .inl (Y 2, 30, .inr (.inr (.inr (.inr jw))))), (b9, .inl (Y 0, 32, .inl zz9))] (pl Y L N F)) _) ec_2).mp hP
      have hD : va_D A (wp [(z, .inr (6, [.int th, .int wt, .ref z1, .ref z2, .ref z3, .ref z4, .int mn, .ref z5, .ref z6, .int (nI nj)])), (z6, .inl (Y 2, 30, .inr (.inr (.inr (.inr jw))))), (b9, .inl (Y 0, 32, .inl (ptsU jr pt who (i + 1))))] (pl Y L N F)) := (congrArg (fun zz9 => va_D A (wp [(z, .inr (6, [.int th, .int wt, .ref z1, .ref z2, .ref z3, .ref z4, .int mn, .ref z5, .ref z6, .int (nI nj)])), (z6, .inl (Y 2, 30, .inr (.inr (.inr (.inr jw))))), (b9, .inl (Y 0, 32, .inl zz9))] (pl Y L N F))) ec_2).mp hD
      refine lv_iinc (v := (nI (i + 1))) (lv' := [(3, .int (nI (i + 1))), (0, .ref z), (1, .int who), (2, .ref b9)]) hx hb dX6_score_38 hl (k := 3) rfl (by exact nI_1 _) (by decide) rfl (fun ls hl => ?_)
      refine lv_goto (tgt := 7) hx hb dX6_score_41 (by decide) ?_
      exact ih_7 (i + 1) _ _ _ (show nj - (i + 1) < nj - i by omega) ⟨by omega, hP, hD, hS, lv_sub hl [1, 2, 3, 0] rfl⟩
    · refine lv_aload_n hx hb dX6_score_27 rfl (lv_at hl 2 rfl) ?_
      refine lv_iload_n hx hb dX6_score_28 rfl (lv_at hl 3 rfl) ?_
      refine lv_aload_n hx hb dX6_score_29 rfl (lv_at hl 0 rfl) ?_
      refine va_get (D := D) (ci := 6) (v := .ref z6) (C := RX6) (T := TX6) (N := 10) hx hb hts hi6 hown hKN.1 hP 0 rfl rfl 8 (by decide) (hts (.fieldLink RX6 27 "SnowPumpsLaw$Sim" "jumps" "[[I") (by decide +kernel)) (fun _ h9 => h9) rfl dX6_score_30 ?_
      refine lv_iload_n hx hb dX6_score_33 rfl (lv_at hl 3 rfl) ?_
      refine qa hx hb hKN.1 hP 1 rfl i (by rfl) (by omega) (by decide) (v := aj) (by exact ej) dX6_score_34 ?_
      refine lv_iconst (v := (2 : Int32)) hx hb dX6_score_35 (by decide) ?_
      refine ip hx hb hKN.1 hP (List.mem_append_right _ (pl_in mj)) 2 (by rfl) (by rw [nj9]; decide) (by rw [nj9]; decide) dX6_score_36 ?_
      refine lv_eqi (y := pt i) (by exact fj2) ?_
      refine is hx hb hKN.1 hP hD hS 2 0 rfl rfl i (by rfl) (by omega) (by first | decide | assumption | omega) dX6_score_37 (fun H locs hP hD hS => ?_)
      have hP : va_P D vwCl (wp [(z, .inr (6, [.int th, .int wt, .ref z1, .ref z2, .ref z3, .ref z4, .int mn, .ref z5, .ref z6, .int (nI nj)])), (z6, .inl (Y 2, 30, .inr (.inr (.inr (.inr jw))))), (b9, .inl (Y 0, 32, .inl (upd (ptsU jr pt who i) i (pt i))))] (pl Y L N F)) _ := hP
      have hD : va_D A (wp [(z, .inr (6, [.int th, .int wt, .ref z1, .ref z2, .ref z3, .ref z4, .int mn, .ref z5, .ref z6, .int (nI nj)])), (z6, .inl (Y 2, 30, .inr (.inr (.inr (.inr jw))))), (b9, .inl (Y 0, 32, .inl (upd (ptsU jr pt who i) i (pt i))))] (pl Y L N F)) := hD
      have ec_3 : (upd (ptsU jr pt who i) i (pt i)) = (ptsU jr pt who (i + 1)) := by exact ptsU_y c_24
      have hP : va_P D vwCl (wp [(z, .inr (6, [.int th, .int wt, .ref z1, .ref z2, .ref z3, .ref z4, .int mn, .ref z5, .ref z6, .int (nI nj)])), (z6, .inl (Y 2, 30, .inr (.inr (.inr (.inr jw))))), (b9, .inl (Y 0, 32, .inl (ptsU jr pt who (i + 1))))] (pl Y L N F)) _ := (congrArg (fun zz9 => va_P D vwCl (wp [(z, .inr (6, [.int th, .int wt, .ref z1, .ref z2, .ref z3, .ref z4, .int mn, .ref z5, .ref z6, .int (nI nj)])), (z6, .inl (Y 2, 30, .inr (.inr (.inr (.inr jw))))), (b9, .inl (Y 0, 32, .inl zz9))] (pl Y L N F)) _) ec_3).mp hP
      have hD : va_D A (wp [(z, .inr (6, [.int th, .int wt, .ref z1, .ref z2, .ref z3, .ref z4, .int mn, .ref z5, .ref z6, .int (nI nj)])), (z6, .inl (Y 2, 30, .inr (.inr (.inr (.inr jw))))), (b9, .inl (Y 0, 32, .inl (ptsU jr pt who (i + 1))))] (pl Y L N F)) := (congrArg (fun zz9 => va_D A (wp [(z, .inr (6, [.int th, .int wt, .ref z1, .ref z2, .ref z3, .ref z4, .int mn, .ref z5, .ref z6, .int (nI nj)])), (z6, .inl (Y 2, 30, .inr (.inr (.inr (.inr jw))))), (b9, .inl (Y 0, 32, .inl zz9))] (pl Y L N F))) ec_3).mp hD
      refine lv_iinc (v := (nI (i + 1))) (lv' := [(3, .int (nI (i + 1))), (0, .ref z), (1, .int who), (2, .ref b9)]) hx hb dX6_score_38 hl (k := 3) rfl (by exact nI_1 _) (by decide) rfl (fun ls hl => ?_)
      refine lv_goto (tgt := 7) hx hb dX6_score_41 (by decide) ?_
      exact ih_7 (i + 1) _ _ _ (show nj - (i + 1) < nj - i by omega) ⟨by omega, hP, hD, hS, lv_sub hl [1, 2, 3, 0] rfl⟩
abbrev rm_kX6_sum : Room := { frames := 0, cells := 0, slots := 0, locals := 0 }
set_option maxHeartbeats 4000000 in
set_option maxRecDepth 100000 in
theorem kX6_sum (l : Launch) (D : va_G) (Y : Nat → ClassId) (sz : Nat) (a : Nat) (n : Nat) (f : fN) (hn : n < 2 ^ 31) : MI l yX6_sum wsX6_sum rm_kX6_sum D Y [.ref a] sz [(a, .inl (Y 0, n, .inl f))] (sumU f n) [(a, .inl (Y 0, n, .inl f))] 0 0 := by
  refine pcW_start (cc := cX6_sum) (maxL := 6) (ret := (some .int)) (Qc := fun A => va_Qi (fun (r : Int32) (_ : Unit) => r = (sumU f n)) (qW D A [(a, .inl (Y 0, n, .inl f))]) A) (by decide) rfl (Nat.le_of_ble_eq_true rfl) ?_
  intro p e s m below meth c A ls hE hKN hA hP hD hl
  obtain ⟨hx, hb, hr, hml, hown, hts, hlk, hin⟩ := hE
  have hown : s.vm.findClass RX6 = some m.cls := hown
  have hS : va_S A s.heap s.heap [] := va_S.rf
  have hl : lv_has ls 6 [(0, .ref a)] := hl
  refine lv_iconst (v := (0 : Int32)) hx hb dX6_sum_0 (by decide) ?_
  refine lv_istore_n (lv' := [(1, .int (0 : Int32)), (0, .ref a)]) hx hb dX6_sum_1 rfl hl (by decide) rfl (fun ls hl => ?_)
  refine lv_aload_n hx hb dX6_sum_2 rfl (lv_at hl 1 rfl) ?_
  refine lv_astore_n (lv' := [(2, .ref a), (1, .int (0 : Int32)), (0, .ref a)]) hx hb dX6_sum_3 rfl hl (by decide) rfl (fun ls hl => ?_)
  refine lv_aload_n hx hb dX6_sum_4 rfl (lv_at hl 0 rfl) ?_
  refine va_alen hx hb hKN.1 hP 0 0 rfl rfl (v := nI n) (by rfl) dX6_sum_5 ?_
  refine lv_istore_n (lv' := [(3, .int (nI n)), (2, .ref a), (1, .int (0 : Int32)), (0, .ref a)]) hx hb dX6_sum_6 rfl hl (by decide) rfl (fun ls hl => ?_)
  refine lv_iconst (v := (0 : Int32)) hx hb dX6_sum_7 (by decide) ?_
  refine lv_istore (lv' := [(4, .int (0 : Int32)), (3, .int (nI n)), (2, .ref a), (1, .int (0 : Int32)), (0, .ref a)]) hx hb dX6_sum_8 hl (by decide) rfl (fun ls hl => ?_)
  refine LPP (σ := Nat) (I := fun i H locs ls => i ≤ n ∧ va_P D vwCl [(a, .inl (Y 0, n, .inl f))] H ∧ va_D A [(a, .inl (Y 0, n, .inl f))] ∧ va_S A s.heap H locs ∧ lv_has ls 6 [(1, .int (sumU f i)), (2, .ref a), (3, .int (nI n)), (4, .int (nI i))]) (μ := fun i => n - i) (cl := fun i => 0) (sl := fun i => 0) (fun i ih_10 H locs ls hI => ?_) 0 _ _ _ ⟨by omega, hP, hD, hS, lv_sub hl [3, 2, 1, 0] rfl⟩
  obtain ⟨hi, hP, hD, hS, hl⟩ := hI
  refine lv_iload hx hb dX6_sum_10 (lv_at hl 3 rfl) ?_
  refine lv_iload_n hx hb dX6_sum_12 rfl (lv_at hl 2 rfl) ?_
  refine lv_icmp_ge (tgt := 33) hx hb dX6_sum_13 (by decide) (fun c_13 => ?_) (fun c_13 => ?_)
  · have hlt := ngl hn (by omega) c_13
    obtain rfl : n = i := by omega
    refine lv_iload_n hx hb dX6_sum_33 rfl (lv_at hl 0 rfl) ?_
    exact eI hx hb hr hlk hP hD hS (by rfl) (by rfl) (by exact Nat.le_of_ble_eq_true rfl) (by exact Nat.le_of_ble_eq_true rfl) dX6_sum_34
  · have hlt := nge hn (by omega) c_13
    refine lv_aload_n hx hb dX6_sum_16 rfl (lv_at hl 1 rfl) ?_
    refine lv_iload hx hb dX6_sum_17 (lv_at hl 3 rfl) ?_
    refine ia hx hb hKN.1 hP 0 0 rfl rfl i (by rfl) (by omega) (by first | decide | assumption | omega) dX6_sum_19 ?_
    refine lv_istore (lv' := [(5, .int (f i)), (1, .int (sumU f i)), (2, .ref a), (3, .int (nI n)), (4, .int (nI i))]) hx hb dX6_sum_20 hl (by decide) rfl (fun ls hl => ?_)
    refine lv_iload_n hx hb dX6_sum_22 rfl (lv_at hl 1 rfl) ?_
    refine lv_iload hx hb dX6_sum_23 (lv_at hl 0 rfl) ?_
    refine lv_iadd hx hb dX6_sum_25 ?_
    refine lv_eqi (y := sumU f (i + 1)) (by rfl) ?_
    refine lv_istore_n (lv' := [(1, .int (sumU f (i + 1))), (5, .int (f i)), (2, .ref a), (3, .int (nI n)), (4, .int (nI i))]) hx hb dX6_sum_26 rfl hl (by decide) rfl (fun ls hl => ?_)
    refine lv_iinc (v := (nI (i + 1))) (lv' := [(4, .int (nI (i + 1))), (1, .int (sumU f (i + 1))), (5, .int (f i)), (2, .ref a), (3, .int (nI n))]) hx hb dX6_sum_27 hl (k := 4) rfl (by exact nI_1 _) (by decide) rfl (fun ls hl => ?_)
    refine lv_goto (tgt := 10) hx hb dX6_sum_30 (by decide) ?_
    exact ih_10 (i + 1) _ _ _ (show n - (i + 1) < n - i by omega) ⟨by omega, hP, hD, hS, lv_sub hl [1, 3, 4, 0] rfl⟩
