abbrev rm_kX5_setWeather : Room := { frames := 1, cells := 0, slots := 0, locals := 22 }
set_option maxHeartbeats 4000000 in
set_option maxRecDepth 100000 in
theorem kX5_setWeather (l : Launch) (D : va_G) (Y : Nat → ClassId) (sz : Nat) (x : Nat) (w : Nat) (w1 : Nat) (w2 : Nat) (w3 : Nat) (pu : Nat) (h : Nat) (a : Nat) (j : Nat) (u : Nat) (wa : fN) (da : fN) (gu : fN) (v0 : Int32) (v1 : Int32) (v2 : Int32) (v3 : Int32) (ht : tSetW v0 v1 v2 v3 = 0) : MI l yX5_setWeather wsX5_setWeather rm_kX5_setWeather D Y [.ref x, .int v0, .int v1, .int v2, .int v3] sz [(x, .inr (5, [.ref w, .ref pu, .ref h, .ref a, .ref j, .ref u])), (w, .inr (4, [.ref w1, .ref w2, .ref w3])), (w1, .inl (Y 0, 24, .inl wa)), (w2, .inl (Y 0, 24, .inl da)), (w3, .inl (Y 0, 24, .inl gu))] (wetU (upd wa (ix v0) v1) (upd da (ix v0) v2) (ix v0)) [(x, .inr (5, [.ref w, .ref pu, .ref h, .ref a, .ref j, .ref u])), (w, .inr (4, [.ref w1, .ref w2, .ref w3])), (w1, .inl (Y 0, 24, .inl (upd wa (ix v0) v1))), (w2, .inl (Y 0, 24, .inl (upd da (ix v0) v2))), (w3, .inl (Y 0, 24, .inl (upd gu (ix v0) v3)))] 0 0 := by
  refine pcW_start (cc := cX5_setWeather) (maxL := 5) (ret := (some .int)) (Qc := fun A => va_Qi (fun (r : Int32) (_ : Unit) => r = (wetU (upd wa (ix v0) v1) (upd da (ix v0) v2) (ix v0))) (qW D A [(x, .inr (5, [.ref w, .ref pu, .ref h, .ref a, .ref j, .ref u])), (w, .inr (4, [.ref w1, .ref w2, .ref w3])), (w1, .inl (Y 0, 24, .inl (upd wa (ix v0) v1))), (w2, .inl (Y 0, 24, .inl (upd da (ix v0) v2))), (w3, .inl (Y 0, 24, .inl (upd gu (ix v0) v3)))]) A) (by decide) rfl (Nat.le_of_ble_eq_true rfl) ?_
  intro p e s m below meth c A ls hE hKN hA hP hD hl
  obtain ⟨hx, hb, hr, hml, hown, hts, hlk, hin⟩ := hE
  have hown : s.vm.findClass RX5 = some m.cls := hown
  have hS : va_S A s.heap s.heap [] := va_S.rf
  have hi4 : ∀ w ∈ wsX40, w ∈ wsX5_setWeather := by decide +kernel
  have hi5 : ∀ w ∈ wsX50, w ∈ wsX5_setWeather := by decide +kernel
  have hl : lv_has ls 5 [(0, .ref x), (1, .int v0), (2, .int v1), (3, .int v2), (4, .int v3)] := hl
  have n0 := tSetW_0 ht
  obtain ⟨n1, n2, n3, n4⟩ := n0
  obtain ⟨e1, b1⟩ := rng (x := v0) (n := 23) (by decide) n1
  refine lv_iload_n hx hb dX5_setWeather_0 rfl (lv_at hl 1 rfl) ?_
  refine lv_iconst (v := (0 : Int32)) hx hb dX5_setWeather_1 (by decide) ?_
  refine lv_bipush (v := (23 : Int32)) hx hb dX5_setWeather_2 (by decide) ?_
  refine cSi (As := [.int v0, .int (0 : Int32), .int (23 : Int32)]) (rest := []) (ws' := [(x, .inr (5, [.ref w, .ref pu, .ref h, .ref a, .ref j, .ref u])), (w, .inr (4, [.ref w1, .ref w2, .ref w3])), (w1, .inl (Y 0, 24, .inl wa)), (w2, .inl (Y 0, 24, .inl da)), (w3, .inl (Y 0, 24, .inl gu))]) ⟨hx, hb, hml, hown, hts⟩ (kX5_isOutside l D Y _ v0 (0 : Int32) (23 : Int32) ) (va_cwS 3 hts gX5_setWeather_X5_isOutside rfl rfl rfl (by decide +kernel) ⟨Nat.le_of_ble_eq_true rfl, Nat.le_of_ble_eq_true rfl⟩) hKN hP hD hS hA [] [0, 1, 2, 3, 4] [0, 1, 2, 3, 4] rfl (by decide) rfl rfl rfl rfl hl.1 (Nat.le_of_ble_eq_true rfl) dX5_setWeather_4 ⟨Nat.le_of_ble_eq_true rfl, Nat.le_of_ble_eq_true rfl⟩ (fun H locs hP hD hS => ?_)
  refine lv_eqi (y := (0 : Int32)) (by exact bi_f n1) ?_
  refine lv_if_eq (tgt := 20) hx hb dX5_setWeather_7 (by decide) (fun c_7 => ?_) (fun c_7 => by exfalso; revert c_7; decide)
  refine lv_iload_n hx hb dX5_setWeather_20 rfl (lv_at hl 2 rfl) ?_
  refine lv_bipush (v := (-30 : Int32)) hx hb dX5_setWeather_21 (by decide) ?_
  refine lv_bipush (v := (20 : Int32)) hx hb dX5_setWeather_23 (by decide) ?_
  refine cSi (As := [.int v1, .int (-30 : Int32), .int (20 : Int32)]) (rest := []) (ws' := [(x, .inr (5, [.ref w, .ref pu, .ref h, .ref a, .ref j, .ref u])), (w, .inr (4, [.ref w1, .ref w2, .ref w3])), (w1, .inl (Y 0, 24, .inl wa)), (w2, .inl (Y 0, 24, .inl da)), (w3, .inl (Y 0, 24, .inl gu))]) ⟨hx, hb, hml, hown, hts⟩ (kX5_isOutside l D Y _ v1 (-30 : Int32) (20 : Int32) ) (va_cwS 3 hts gX5_setWeather_X5_isOutside rfl rfl rfl (by decide +kernel) ⟨Nat.le_of_ble_eq_true rfl, Nat.le_of_ble_eq_true rfl⟩) hKN hP hD hS hA [] [0, 1, 2, 3, 4] [0, 1, 2, 3, 4] rfl (by decide) rfl rfl rfl rfl hl.1 (Nat.le_of_ble_eq_true rfl) dX5_setWeather_25 ⟨Nat.le_of_ble_eq_true rfl, Nat.le_of_ble_eq_true rfl⟩ (fun H locs hP hD hS => ?_)
  refine lv_eqi (y := (0 : Int32)) (by exact bi_f n2) ?_
  refine lv_if_eq (tgt := 41) hx hb dX5_setWeather_28 (by decide) (fun c_28 => ?_) (fun c_28 => by exfalso; revert c_28; decide)
  refine lv_iload_n hx hb dX5_setWeather_41 rfl (lv_at hl 3 rfl) ?_
  refine lv_iconst (v := (0 : Int32)) hx hb dX5_setWeather_42 (by decide) ?_
  refine lv_bipush (v := (100 : Int32)) hx hb dX5_setWeather_43 (by decide) ?_
  refine cSi (As := [.int v2, .int (0 : Int32), .int (100 : Int32)]) (rest := []) (ws' := [(x, .inr (5, [.ref w, .ref pu, .ref h, .ref a, .ref j, .ref u])), (w, .inr (4, [.ref w1, .ref w2, .ref w3])), (w1, .inl (Y 0, 24, .inl wa)), (w2, .inl (Y 0, 24, .inl da)), (w3, .inl (Y 0, 24, .inl gu))]) ⟨hx, hb, hml, hown, hts⟩ (kX5_isOutside l D Y _ v2 (0 : Int32) (100 : Int32) ) (va_cwS 3 hts gX5_setWeather_X5_isOutside rfl rfl rfl (by decide +kernel) ⟨Nat.le_of_ble_eq_true rfl, Nat.le_of_ble_eq_true rfl⟩) hKN hP hD hS hA [] [0, 1, 2, 3, 4] [0, 1, 2, 3, 4] rfl (by decide) rfl rfl rfl rfl hl.1 (Nat.le_of_ble_eq_true rfl) dX5_setWeather_45 ⟨Nat.le_of_ble_eq_true rfl, Nat.le_of_ble_eq_true rfl⟩ (fun H locs hP hD hS => ?_)
  refine lv_eqi (y := (0 : Int32)) (by exact bi_f n3) ?_
  refine lv_if_eq (tgt := 61) hx hb dX5_setWeather_48 (by decide) (fun c_48 => ?_) (fun c_48 => by exfalso; revert c_48; decide)
  refine lv_iload hx hb dX5_setWeather_61 (lv_at hl 4 rfl) ?_
  refine lv_bipush (v := (-9 : Int32)) hx hb dX5_setWeather_63 (by decide) ?_
  refine lv_bipush (v := (9 : Int32)) hx hb dX5_setWeather_65 (by decide) ?_
  refine cSi (As := [.int v3, .int (-9 : Int32), .int (9 : Int32)]) (rest := []) (ws' := [(x, .inr (5, [.ref w, .ref pu, .ref h, .ref a, .ref j, .ref u])), (w, .inr (4, [.ref w1, .ref w2, .ref w3])), (w1, .inl (Y 0, 24, .inl wa)), (w2, .inl (Y 0, 24, .inl da)), (w3, .inl (Y 0, 24, .inl gu))]) ⟨hx, hb, hml, hown, hts⟩ (kX5_isOutside l D Y _ v3 (-9 : Int32) (9 : Int32) ) (va_cwS 3 hts gX5_setWeather_X5_isOutside rfl rfl rfl (by decide +kernel) ⟨Nat.le_of_ble_eq_true rfl, Nat.le_of_ble_eq_true rfl⟩) hKN hP hD hS hA [] [0, 1, 2, 3, 4] [0, 1, 2, 3, 4] rfl (by decide) rfl rfl rfl rfl hl.1 (Nat.le_of_ble_eq_true rfl) dX5_setWeather_67 ⟨Nat.le_of_ble_eq_true rfl, Nat.le_of_ble_eq_true rfl⟩ (fun H locs hP hD hS => ?_)
  refine lv_eqi (y := (0 : Int32)) (by exact bi_f n4) ?_
  refine lv_if_eq (tgt := 83) hx hb dX5_setWeather_70 (by decide) (fun c_70 => ?_) (fun c_70 => by exfalso; revert c_70; decide)
  have ec_1 : v0 = (nI (ix v0)) := by exact e1
  have hl : lv_has ls 5 [(0, .ref x), (1, .int (nI (ix v0))), (2, .int v1), (3, .int v2), (4, .int v3)] := (congrArg (fun zz9 => lv_has ls 5 [(0, .ref x), (1, .int zz9), (2, .int v1), (3, .int v2), (4, .int v3)]) ec_1).mp hl
  refine lv_aload_n hx hb dX5_setWeather_83 rfl (lv_at hl 0 rfl) ?_
  refine va_get (D := D) (ci := 5) (v := .ref w) (C := RX5) (T := TX5) (N := 6) hx hb hts hi5 hown hKN.1 hP 0 rfl rfl 0 (by decide) (hts (.fieldLink RX5 10 "SnowPumps" "weather" "LSnowPumps$Weather;") (by decide +kernel)) (fun _ h9 => h9) rfl dX5_setWeather_84 ?_
  refine va_get (D := D) (ci := 4) (v := .ref w1) (C := RX4) (T := TX4) (N := 3) hx hb hts hi4 hown hKN.1 hP 1 rfl rfl 0 (by decide) (hts (.fieldLink RX5 69 "SnowPumps$Weather" "warmth" "[I") (by decide +kernel)) (fun _ h9 => h9) rfl dX5_setWeather_87 ?_
  refine lv_iload_n hx hb dX5_setWeather_90 rfl (lv_at hl 1 rfl) ?_
  refine lv_iload_n hx hb dX5_setWeather_91 rfl (lv_at hl 2 rfl) ?_
  refine is hx hb hKN.1 hP hD hS 2 0 rfl rfl (ix v0) (by rfl) (by omega) (by first | decide | assumption | omega) dX5_setWeather_92 (fun H locs hP hD hS => ?_)
  have hP : va_P D vwCl [(x, .inr (5, [.ref w, .ref pu, .ref h, .ref a, .ref j, .ref u])), (w, .inr (4, [.ref w1, .ref w2, .ref w3])), (w1, .inl (Y 0, 24, .inl (upd wa (ix v0) v1))), (w2, .inl (Y 0, 24, .inl da)), (w3, .inl (Y 0, 24, .inl gu))] _ := hP
  have hD : va_D A [(x, .inr (5, [.ref w, .ref pu, .ref h, .ref a, .ref j, .ref u])), (w, .inr (4, [.ref w1, .ref w2, .ref w3])), (w1, .inl (Y 0, 24, .inl (upd wa (ix v0) v1))), (w2, .inl (Y 0, 24, .inl da)), (w3, .inl (Y 0, 24, .inl gu))] := hD
  refine lv_aload_n hx hb dX5_setWeather_93 rfl (lv_at hl 0 rfl) ?_
  refine va_get (D := D) (ci := 5) (v := .ref w) (C := RX5) (T := TX5) (N := 6) hx hb hts hi5 hown hKN.1 hP 0 rfl rfl 0 (by decide) (hts (.fieldLink RX5 10 "SnowPumps" "weather" "LSnowPumps$Weather;") (by decide +kernel)) (fun _ h9 => h9) rfl dX5_setWeather_94 ?_
  refine va_get (D := D) (ci := 4) (v := .ref w2) (C := RX4) (T := TX4) (N := 3) hx hb hts hi4 hown hKN.1 hP 1 rfl rfl 1 (by decide) (hts (.fieldLink RX5 73 "SnowPumps$Weather" "damp" "[I") (by decide +kernel)) (fun _ h9 => h9) rfl dX5_setWeather_97 ?_
  refine lv_iload_n hx hb dX5_setWeather_100 rfl (lv_at hl 1 rfl) ?_
  refine lv_iload_n hx hb dX5_setWeather_101 rfl (lv_at hl 3 rfl) ?_
  refine is hx hb hKN.1 hP hD hS 3 0 rfl rfl (ix v0) (by rfl) (by omega) (by first | decide | assumption | omega) dX5_setWeather_102 (fun H locs hP hD hS => ?_)
  have hP : va_P D vwCl [(x, .inr (5, [.ref w, .ref pu, .ref h, .ref a, .ref j, .ref u])), (w, .inr (4, [.ref w1, .ref w2, .ref w3])), (w1, .inl (Y 0, 24, .inl (upd wa (ix v0) v1))), (w2, .inl (Y 0, 24, .inl (upd da (ix v0) v2))), (w3, .inl (Y 0, 24, .inl gu))] _ := hP
  have hD : va_D A [(x, .inr (5, [.ref w, .ref pu, .ref h, .ref a, .ref j, .ref u])), (w, .inr (4, [.ref w1, .ref w2, .ref w3])), (w1, .inl (Y 0, 24, .inl (upd wa (ix v0) v1))), (w2, .inl (Y 0, 24, .inl (upd da (ix v0) v2))), (w3, .inl (Y 0, 24, .inl gu))] := hD
  refine lv_aload_n hx hb dX5_setWeather_103 rfl (lv_at hl 0 rfl) ?_
  refine va_get (D := D) (ci := 5) (v := .ref w) (C := RX5) (T := TX5) (N := 6) hx hb hts hi5 hown hKN.1 hP 0 rfl rfl 0 (by decide) (hts (.fieldLink RX5 10 "SnowPumps" "weather" "LSnowPumps$Weather;") (by decide +kernel)) (fun _ h9 => h9) rfl dX5_setWeather_104 ?_
  refine va_get (D := D) (ci := 4) (v := .ref w3) (C := RX4) (T := TX4) (N := 3) hx hb hts hi4 hown hKN.1 hP 1 rfl rfl 2 (by decide) (hts (.fieldLink RX5 76 "SnowPumps$Weather" "gust" "[I") (by decide +kernel)) (fun _ h9 => h9) rfl dX5_setWeather_107 ?_
  refine lv_iload_n hx hb dX5_setWeather_110 rfl (lv_at hl 1 rfl) ?_
  refine lv_iload hx hb dX5_setWeather_111 (lv_at hl 4 rfl) ?_
  refine is hx hb hKN.1 hP hD hS 4 0 rfl rfl (ix v0) (by rfl) (by omega) (by first | decide | assumption | omega) dX5_setWeather_113 (fun H locs hP hD hS => ?_)
  have hP : va_P D vwCl [(x, .inr (5, [.ref w, .ref pu, .ref h, .ref a, .ref j, .ref u])), (w, .inr (4, [.ref w1, .ref w2, .ref w3])), (w1, .inl (Y 0, 24, .inl (upd wa (ix v0) v1))), (w2, .inl (Y 0, 24, .inl (upd da (ix v0) v2))), (w3, .inl (Y 0, 24, .inl (upd gu (ix v0) v3)))] _ := hP
  have hD : va_D A [(x, .inr (5, [.ref w, .ref pu, .ref h, .ref a, .ref j, .ref u])), (w, .inr (4, [.ref w1, .ref w2, .ref w3])), (w1, .inl (Y 0, 24, .inl (upd wa (ix v0) v1))), (w2, .inl (Y 0, 24, .inl (upd da (ix v0) v2))), (w3, .inl (Y 0, 24, .inl (upd gu (ix v0) v3)))] := hD
  refine lv_aload_n hx hb dX5_setWeather_114 rfl (lv_at hl 0 rfl) ?_
  refine va_get (D := D) (ci := 5) (v := .ref w) (C := RX5) (T := TX5) (N := 6) hx hb hts hi5 hown hKN.1 hP 0 rfl rfl 0 (by decide) (hts (.fieldLink RX5 10 "SnowPumps" "weather" "LSnowPumps$Weather;") (by decide +kernel)) (fun _ h9 => h9) rfl dX5_setWeather_115 ?_
  refine lv_iload_n hx hb dX5_setWeather_118 rfl (lv_at hl 1 rfl) ?_
  refine cVi (As := [.int (nI (ix v0))]) (rest := []) (ws' := [(x, .inr (5, [.ref w, .ref pu, .ref h, .ref a, .ref j, .ref u])), (w, .inr (4, [.ref w1, .ref w2, .ref w3])), (w1, .inl (Y 0, 24, .inl (upd wa (ix v0) v1))), (w2, .inl (Y 0, 24, .inl (upd da (ix v0) v2))), (w3, .inl (Y 0, 24, .inl (upd gu (ix v0) v3)))]) ⟨hx, hb, hml, hown, hts⟩ (kX4_wetCold l D Y _ w w1 w2 w3 (upd wa (ix v0) v1) (upd da (ix v0) v2) (upd gu (ix v0) v3) (ix v0) (by first | assumption | omega)) (cwV 1 hts gX5_setWeather_X4_wetCold rfl rfl rfl (by decide +kernel) ⟨Nat.le_of_ble_eq_true rfl, Nat.le_of_ble_eq_true rfl⟩) hKN hP hD hS hA [1, 2, 3, 4] [0] [0, 1, 2, 3, 4] rfl (by decide) rfl rfl 1 4 rfl rfl rfl rfl hl.1 (Nat.le_of_ble_eq_true rfl) dX5_setWeather_119 ⟨Nat.le_of_ble_eq_true rfl, Nat.le_of_ble_eq_true rfl⟩ (fun H locs hP hD hS => ?_)
  exact eI hx hb hr hlk hP hD hS (by rfl) (by rfl) (by exact Nat.le_of_ble_eq_true rfl) (by exact Nat.le_of_ble_eq_true rfl) dX5_setWeather_122
abbrev rm_kX5_setWeather_bad : Room := { frames := 6, cells := 1, slots := 6, locals := 82 }
set_option maxHeartbeats 4000000 in
set_option maxRecDepth 100000 in
theorem kX5_setWeather_bad (l : Launch) (hl0 : l.stackTraces = false) (D : va_G) (Y : Nat → ClassId) (sz : Nat) (x : Nat) (w : Nat) (w1 : Nat) (w2 : Nat) (w3 : Nat) (pu : Nat) (h : Nat) (a : Nat) (j : Nat) (u : Nat) (wa : fN) (da : fN) (gu : fN) (v0 : Int32) (v1 : Int32) (v2 : Int32) (v3 : Int32) (ht : ¬ tSetW v0 v1 v2 v3 = 0) : MX l yX5_setWeather wsX5_setWeather rm_kX5_setWeather_bad D Y [.ref x, .int v0, .int v1, .int v2, .int v3] sz [(x, .inr (5, [.ref w, .ref pu, .ref h, .ref a, .ref j, .ref u])), (w, .inr (4, [.ref w1, .ref w2, .ref w3])), (w1, .inl (Y 0, 24, .inl wa)), (w2, .inl (Y 0, 24, .inl da)), (w3, .inl (Y 0, 24, .inl gu))] (exn (tSetW v0 v1 v2 v3) ["java/lang/IndexOutOfBoundsException", "java/lang/IllegalArgumentException", "java/lang/IllegalStateException"]) 1 6 := by
  refine pcX_start (cc := cX5_setWeather) (maxL := 5) (ret := (some .int)) (Qc := fun A => va_Qi (fun (_ : Int32) (_ : Unit) => False) (fun _ _ => True) A) (XC := fun A => vx_X (fun (_ : Unit) => True) (fun E' _ t => E' = (exn (tSetW v0 v1 v2 v3) ["java/lang/IndexOutOfBoundsException", "java/lang/IllegalArgumentException", "java/lang/IllegalStateException"]) ∧ va_P D vwCl [(x, .inr (5, [.ref w, .ref pu, .ref h, .ref a, .ref j, .ref u])), (w, .inr (4, [.ref w1, .ref w2, .ref w3])), (w1, .inl (Y 0, 24, .inl wa)), (w2, .inl (Y 0, 24, .inl da)), (w3, .inl (Y 0, 24, .inl gu))] t.heap ∧ va_D A [(x, .inr (5, [.ref w, .ref pu, .ref h, .ref a, .ref j, .ref u])), (w, .inr (4, [.ref w1, .ref w2, .ref w3])), (w1, .inl (Y 0, 24, .inl wa)), (w2, .inl (Y 0, 24, .inl da)), (w3, .inl (Y 0, 24, .inl gu))]) A) (by decide) rfl (Nat.le_of_ble_eq_true rfl) ?_
  intro p e s m below meth c A ls hE hKN hA hP hD hl hEX hZX htab
  obtain ⟨hx, hb, hr, hml, hown, hts, hlk, hin⟩ := hE
  have hown : s.vm.findClass RX5 = some m.cls := hown
  have hS : va_S A s.heap s.heap [] := va_S.rf
  have hl : lv_has ls 5 [(0, .ref x), (1, .int v0), (2, .int v1), (3, .int v2), (4, .int v3)] := hl
  refine lv_iload_n hx hb dX5_setWeather_0 rfl (lv_at hl 1 rfl) ?_
  refine lv_iconst (v := (0 : Int32)) hx hb dX5_setWeather_1 (by decide) ?_
  refine lv_bipush (v := (23 : Int32)) hx hb dX5_setWeather_2 (by decide) ?_
  refine cSi (As := [.int v0, .int (0 : Int32), .int (23 : Int32)]) (rest := []) (ws' := [(x, .inr (5, [.ref w, .ref pu, .ref h, .ref a, .ref j, .ref u])), (w, .inr (4, [.ref w1, .ref w2, .ref w3])), (w1, .inl (Y 0, 24, .inl wa)), (w2, .inl (Y 0, 24, .inl da)), (w3, .inl (Y 0, 24, .inl gu))]) ⟨hx, hb, hml, hown, hts⟩ (kX5_isOutside l D Y _ v0 (0 : Int32) (23 : Int32) ) (va_cwS 3 hts gX5_setWeather_X5_isOutside rfl rfl rfl (by decide +kernel) ⟨Nat.le_of_ble_eq_true rfl, Nat.le_of_ble_eq_true rfl⟩) hKN hP hD hS hA [] [0, 1, 2, 3, 4] [0, 1, 2, 3, 4] rfl (by decide) rfl rfl rfl rfl hl.1 (Nat.le_of_ble_eq_true rfl) dX5_setWeather_4 ⟨Nat.le_of_ble_eq_true rfl, Nat.le_of_ble_eq_true rfl⟩ (fun H locs hP hD hS => ?_)
  refine lv_if_eq (tgt := 20) hx hb dX5_setWeather_7 (by decide) (fun c_7 => ?_) (fun c_7 => ?_)
  · have n1 : ¬ (v0 < 0 ∨ 23 < v0) := bi_0 c_7
    refine lv_iload_n hx hb dX5_setWeather_20 rfl (lv_at hl 2 rfl) ?_
    refine lv_bipush (v := (-30 : Int32)) hx hb dX5_setWeather_21 (by decide) ?_
    refine lv_bipush (v := (20 : Int32)) hx hb dX5_setWeather_23 (by decide) ?_
    refine cSi (As := [.int v1, .int (-30 : Int32), .int (20 : Int32)]) (rest := []) (ws' := [(x, .inr (5, [.ref w, .ref pu, .ref h, .ref a, .ref j, .ref u])), (w, .inr (4, [.ref w1, .ref w2, .ref w3])), (w1, .inl (Y 0, 24, .inl wa)), (w2, .inl (Y 0, 24, .inl da)), (w3, .inl (Y 0, 24, .inl gu))]) ⟨hx, hb, hml, hown, hts⟩ (kX5_isOutside l D Y _ v1 (-30 : Int32) (20 : Int32) ) (va_cwS 3 hts gX5_setWeather_X5_isOutside rfl rfl rfl (by decide +kernel) ⟨Nat.le_of_ble_eq_true rfl, Nat.le_of_ble_eq_true rfl⟩) hKN hP hD hS hA [] [0, 1, 2, 3, 4] [0, 1, 2, 3, 4] rfl (by decide) rfl rfl rfl rfl hl.1 (Nat.le_of_ble_eq_true rfl) dX5_setWeather_25 ⟨Nat.le_of_ble_eq_true rfl, Nat.le_of_ble_eq_true rfl⟩ (fun H locs hP hD hS => ?_)
    refine lv_if_eq (tgt := 41) hx hb dX5_setWeather_28 (by decide) (fun c_28 => ?_) (fun c_28 => ?_)
    · have n2 : ¬ (v1 < -30 ∨ 20 < v1) := bi_0 c_28
      refine lv_iload_n hx hb dX5_setWeather_41 rfl (lv_at hl 3 rfl) ?_
      refine lv_iconst (v := (0 : Int32)) hx hb dX5_setWeather_42 (by decide) ?_
      refine lv_bipush (v := (100 : Int32)) hx hb dX5_setWeather_43 (by decide) ?_
      refine cSi (As := [.int v2, .int (0 : Int32), .int (100 : Int32)]) (rest := []) (ws' := [(x, .inr (5, [.ref w, .ref pu, .ref h, .ref a, .ref j, .ref u])), (w, .inr (4, [.ref w1, .ref w2, .ref w3])), (w1, .inl (Y 0, 24, .inl wa)), (w2, .inl (Y 0, 24, .inl da)), (w3, .inl (Y 0, 24, .inl gu))]) ⟨hx, hb, hml, hown, hts⟩ (kX5_isOutside l D Y _ v2 (0 : Int32) (100 : Int32) ) (va_cwS 3 hts gX5_setWeather_X5_isOutside rfl rfl rfl (by decide +kernel) ⟨Nat.le_of_ble_eq_true rfl, Nat.le_of_ble_eq_true rfl⟩) hKN hP hD hS hA [] [0, 1, 2, 3, 4] [0, 1, 2, 3, 4] rfl (by decide) rfl rfl rfl rfl hl.1 (Nat.le_of_ble_eq_true rfl) dX5_setWeather_45 ⟨Nat.le_of_ble_eq_true rfl, Nat.le_of_ble_eq_true rfl⟩ (fun H locs hP hD hS => ?_)
      refine lv_if_eq (tgt := 61) hx hb dX5_setWeather_48 (by decide) (fun c_48 => ?_) (fun c_48 => ?_)
      · have n3 : ¬ (v2 < 0 ∨ 100 < v2) := bi_0 c_48
        refine lv_iload hx hb dX5_setWeather_61 (lv_at hl 4 rfl) ?_
        refine lv_bipush (v := (-9 : Int32)) hx hb dX5_setWeather_63 (by decide) ?_
        refine lv_bipush (v := (9 : Int32)) hx hb dX5_setWeather_65 (by decide) ?_
        refine cSi (As := [.int v3, .int (-9 : Int32), .int (9 : Int32)]) (rest := []) (ws' := [(x, .inr (5, [.ref w, .ref pu, .ref h, .ref a, .ref j, .ref u])), (w, .inr (4, [.ref w1, .ref w2, .ref w3])), (w1, .inl (Y 0, 24, .inl wa)), (w2, .inl (Y 0, 24, .inl da)), (w3, .inl (Y 0, 24, .inl gu))]) ⟨hx, hb, hml, hown, hts⟩ (kX5_isOutside l D Y _ v3 (-9 : Int32) (9 : Int32) ) (va_cwS 3 hts gX5_setWeather_X5_isOutside rfl rfl rfl (by decide +kernel) ⟨Nat.le_of_ble_eq_true rfl, Nat.le_of_ble_eq_true rfl⟩) hKN hP hD hS hA [] [0, 1, 2, 3, 4] [0, 1, 2, 3, 4] rfl (by decide) rfl rfl rfl rfl hl.1 (Nat.le_of_ble_eq_true rfl) dX5_setWeather_67 ⟨Nat.le_of_ble_eq_true rfl, Nat.le_of_ble_eq_true rfl⟩ (fun H locs hP hD hS => ?_)
        refine lv_if_eq (tgt := 83) hx hb dX5_setWeather_70 (by decide) (fun c_70 => ?_) (fun c_70 => ?_)
        · exfalso
          exact ht (by unfold tSetW; rw [if_neg n1, if_neg n2, if_neg n3, if_neg (bi_0 c_70)])
        · exact thS (cls := "java/lang/IllegalArgumentException") (text := "gust is not -9 to 9") (is := 67) (ic := 64) (ik := 60) hx hb hl0 hown (by decide +kernel) hts (by decide +kernel) (by decide +kernel) (by decide +kernel) (by decide +kernel) hEX hZX hP hD hS hl.1 hml htab dX5_setWeather_73 dX5_setWeather_76 dX5_setWeather_77 dX5_setWeather_79 dX5_setWeather_82 (Nat.le_of_ble_eq_true rfl) (Nat.le_of_ble_eq_true rfl) (Nat.le_of_ble_eq_true rfl) (Nat.le_of_ble_eq_true rfl) hlk (by have e9 : tSetW v0 v1 v2 v3 = 2 := (by unfold tSetW; rw [if_neg n1, if_neg n2, if_neg n3, if_pos (bi_n c_70)]); rw [e9]; first | done | rfl) (Nat.le_of_ble_eq_true rfl) (Nat.le_of_ble_eq_true rfl)
      · exact thS (cls := "java/lang/IllegalArgumentException") (text := "damp is not 0 to 100") (is := 65) (ic := 64) (ik := 60) hx hb hl0 hown (by decide +kernel) hts (by decide +kernel) (by decide +kernel) (by decide +kernel) (by decide +kernel) hEX hZX hP hD hS hl.1 hml htab dX5_setWeather_51 dX5_setWeather_54 dX5_setWeather_55 dX5_setWeather_57 dX5_setWeather_60 (Nat.le_of_ble_eq_true rfl) (Nat.le_of_ble_eq_true rfl) (Nat.le_of_ble_eq_true rfl) (Nat.le_of_ble_eq_true rfl) hlk (by have e9 : tSetW v0 v1 v2 v3 = 2 := (by unfold tSetW; rw [if_neg n1, if_neg n2, if_pos (bi_n c_48)]); rw [e9]; first | done | rfl) (Nat.le_of_ble_eq_true rfl) (Nat.le_of_ble_eq_true rfl)
    · exact thS (cls := "java/lang/IllegalArgumentException") (text := "warmth is not -30 to 20") (is := 62) (ic := 64) (ik := 60) hx hb hl0 hown (by decide +kernel) hts (by decide +kernel) (by decide +kernel) (by decide +kernel) (by decide +kernel) hEX hZX hP hD hS hl.1 hml htab dX5_setWeather_31 dX5_setWeather_34 dX5_setWeather_35 dX5_setWeather_37 dX5_setWeather_40 (Nat.le_of_ble_eq_true rfl) (Nat.le_of_ble_eq_true rfl) (Nat.le_of_ble_eq_true rfl) (Nat.le_of_ble_eq_true rfl) hlk (by have e9 : tSetW v0 v1 v2 v3 = 2 := (by unfold tSetW; rw [if_neg n1, if_pos (bi_n c_28)]); rw [e9]; first | done | rfl) (Nat.le_of_ble_eq_true rfl) (Nat.le_of_ble_eq_true rfl)
  · exact thS (cls := "java/lang/IndexOutOfBoundsException") (text := "hour is not 0 to 23") (is := 55) (ic := 57) (ik := 53) hx hb hl0 hown (by decide +kernel) hts (by decide +kernel) (by decide +kernel) (by decide +kernel) (by decide +kernel) hEX hZX hP hD hS hl.1 hml htab dX5_setWeather_10 dX5_setWeather_13 dX5_setWeather_14 dX5_setWeather_16 dX5_setWeather_19 (Nat.le_of_ble_eq_true rfl) (Nat.le_of_ble_eq_true rfl) (Nat.le_of_ble_eq_true rfl) (Nat.le_of_ble_eq_true rfl) hlk (by have e9 : tSetW v0 v1 v2 v3 = 1 := (by unfold tSetW; rw [if_pos (bi_n c_7)]); rw [e9]; first | done | rfl) (Nat.le_of_ble_eq_true rfl) (Nat.le_of_ble_eq_true rfl)
abbrev rm_kL_setWeather : Room := { frames := 2, cells := 0, slots := 0, locals := 46 }
set_option maxHeartbeats 4000000 in
set_option maxRecDepth 100000 in
theorem kL_setWeather (l : Launch) (D : va_G) (Y : Nat → ClassId) (sz : Nat) (x : Nat) (w : Nat) (w1 : Nat) (w2 : Nat) (w3 : Nat) (pu : Nat) (h : Nat) (a : Nat) (j : Nat) (u : Nat) (og9 : Nat) (wa : fN) (da : fN) (gu : fN) (og : Nat → Int64) (v0 : Int32) (v1 : Int32) (v2 : Int32) (v3 : Int32) (ht : tSetW v0 v1 v2 v3 = 0) : MI l yL_setWeather wsL_setWeather rm_kL_setWeather D Y [.ref x, .int v0, .int v1, .int v2, .int v3, .ref og9] sz [(x, .inr (5, [.ref w, .ref pu, .ref h, .ref a, .ref j, .ref u])), (w, .inr (4, [.ref w1, .ref w2, .ref w3])), (w1, .inl (Y 0, 24, .inl wa)), (w2, .inl (Y 0, 24, .inl da)), (w3, .inl (Y 0, 24, .inl gu)), (og9, .inl (Y 2, 1, .inr (.inl og)))] (0 : Int32) [(x, .inr (5, [.ref w, .ref pu, .ref h, .ref a, .ref j, .ref u])), (w, .inr (4, [.ref w1, .ref w2, .ref w3])), (w1, .inl (Y 0, 24, .inl (upd wa (ix v0) v1))), (w2, .inl (Y 0, 24, .inl (upd da (ix v0) v2))), (w3, .inl (Y 0, 24, .inl (upd gu (ix v0) v3))), (og9, .inl (Y 2, 1, .inr (.inl (fun _ => (wetU (upd wa (ix v0) v1) (upd da (ix v0) v2) (ix v0)).toInt64))))] 0 0 := by
  refine pcW_startW (cc := cL_setWeather) (maxL := 7) (ret := (some .int)) (Qc := fun A => va_Qi (fun (r : Int32) (_ : Unit) => r = (0 : Int32)) (qW D A [(x, .inr (5, [.ref w, .ref pu, .ref h, .ref a, .ref j, .ref u])), (w, .inr (4, [.ref w1, .ref w2, .ref w3])), (w1, .inl (Y 0, 24, .inl (upd wa (ix v0) v1))), (w2, .inl (Y 0, 24, .inl (upd da (ix v0) v2))), (w3, .inl (Y 0, 24, .inl (upd gu (ix v0) v3))), (og9, .inl (Y 2, 1, .inr (.inl (fun _ => (wetU (upd wa (ix v0) v1) (upd da (ix v0) v2) (ix v0)).toInt64))))]) A) (by decide) rfl (Nat.le_of_ble_eq_true rfl) ?_
  intro p e s m below meth c A ls hE hKN hA hP hD hl
  obtain ⟨hx, hb, hr, hml, hown, hts, hlk, hin⟩ := hE
  have hown : s.vm.findClass RL = some m.cls := hown
  have hS : va_S A s.heap s.heap [] := va_S.rf
  have hl : lv_has ls 7 [(0, .ref x), (1, .int v0), (2, .int v1), (3, .int v2), (4, .int v3), (5, .ref og9)] := hl
  refine lv_aload hx hb dL_setWeather_0 (lv_at hl 5 rfl) ?_
  refine lv_iconst (v := (0 : Int32)) hx hb dL_setWeather_2 (by decide) ?_
  refine lv_aload_n hx hb dL_setWeather_3 rfl (lv_at hl 0 rfl) ?_
  refine lv_iload_n hx hb dL_setWeather_4 rfl (lv_at hl 1 rfl) ?_
  refine lv_iload_n hx hb dL_setWeather_5 rfl (lv_at hl 2 rfl) ?_
  refine lv_iload_n hx hb dL_setWeather_6 rfl (lv_at hl 3 rfl) ?_
  refine lv_iload hx hb dL_setWeather_7 (lv_at hl 4 rfl) ?_
  refine cVi (As := [.int v0, .int v1, .int v2, .int v3]) (rest := [.int (0 : Int32), .ref og9]) (ws' := [(x, .inr (5, [.ref w, .ref pu, .ref h, .ref a, .ref j, .ref u])), (w, .inr (4, [.ref w1, .ref w2, .ref w3])), (w1, .inl (Y 0, 24, .inl (upd wa (ix v0) v1))), (w2, .inl (Y 0, 24, .inl (upd da (ix v0) v2))), (w3, .inl (Y 0, 24, .inl (upd gu (ix v0) v3))), (og9, .inl (Y 2, 1, .inr (.inl og)))]) ⟨hx, hb, hml, hown, hts⟩ (kX5_setWeather l D Y _ x w w1 w2 w3 pu h a j u wa da gu v0 v1 v2 v3 (by first | assumption | omega)) (cwV 4 hts gL_setWeather_X5_setWeather rfl rfl rfl (by decide +kernel) ⟨Nat.le_of_ble_eq_true rfl, Nat.le_of_ble_eq_true rfl⟩) hKN hP hD hS hA [0, 1, 2, 3, 4] [5] [1, 2, 3, 4, 5, 0] rfl (by decide) rfl rfl 0 5 rfl rfl rfl rfl hl.1 (Nat.le_of_ble_eq_true rfl) dL_setWeather_9 ⟨Nat.le_of_ble_eq_true rfl, Nat.le_of_ble_eq_true rfl⟩ (fun H locs hP hD hS => ?_)
  refine lv_i2l hx hb dL_setWeather_12 rfl ?_
  refine lst hx hb hKN.1 hP hD hS 5 2 rfl rfl 0 (by rfl) (by decide) (by first | decide | assumption | omega) dL_setWeather_13 (fun H locs hP hD hS => ?_)
  have hP : va_P D vwCl [(x, .inr (5, [.ref w, .ref pu, .ref h, .ref a, .ref j, .ref u])), (w, .inr (4, [.ref w1, .ref w2, .ref w3])), (w1, .inl (Y 0, 24, .inl (upd wa (ix v0) v1))), (w2, .inl (Y 0, 24, .inl (upd da (ix v0) v2))), (w3, .inl (Y 0, 24, .inl (upd gu (ix v0) v3))), (og9, .inl (Y 2, 1, .inr (.inl (vp_updL og 0 ((wetU (upd wa (ix v0) v1) (upd da (ix v0) v2) (ix v0)).toInt64)))))] _ := hP
  have hD : va_D A [(x, .inr (5, [.ref w, .ref pu, .ref h, .ref a, .ref j, .ref u])), (w, .inr (4, [.ref w1, .ref w2, .ref w3])), (w1, .inl (Y 0, 24, .inl (upd wa (ix v0) v1))), (w2, .inl (Y 0, 24, .inl (upd da (ix v0) v2))), (w3, .inl (Y 0, 24, .inl (upd gu (ix v0) v3))), (og9, .inl (Y 2, 1, .inr (.inl (vp_updL og 0 ((wetU (upd wa (ix v0) v1) (upd da (ix v0) v2) (ix v0)).toInt64)))))] := hD
  obtain ⟨hP, hD⟩ := va_nrmL hP hD 5 rfl (g := (fun _ => (wetU (upd wa (ix v0) v1) (upd da (ix v0) v2) (ix v0)).toInt64)) (by exact outL _ _)
  have hP : va_P D vwCl [(x, .inr (5, [.ref w, .ref pu, .ref h, .ref a, .ref j, .ref u])), (w, .inr (4, [.ref w1, .ref w2, .ref w3])), (w1, .inl (Y 0, 24, .inl (upd wa (ix v0) v1))), (w2, .inl (Y 0, 24, .inl (upd da (ix v0) v2))), (w3, .inl (Y 0, 24, .inl (upd gu (ix v0) v3))), (og9, .inl (Y 2, 1, .inr (.inl (fun _ => (wetU (upd wa (ix v0) v1) (upd da (ix v0) v2) (ix v0)).toInt64))))] _ := hP
  have hD : va_D A [(x, .inr (5, [.ref w, .ref pu, .ref h, .ref a, .ref j, .ref u])), (w, .inr (4, [.ref w1, .ref w2, .ref w3])), (w1, .inl (Y 0, 24, .inl (upd wa (ix v0) v1))), (w2, .inl (Y 0, 24, .inl (upd da (ix v0) v2))), (w3, .inl (Y 0, 24, .inl (upd gu (ix v0) v3))), (og9, .inl (Y 2, 1, .inr (.inl (fun _ => (wetU (upd wa (ix v0) v1) (upd da (ix v0) v2) (ix v0)).toInt64))))] := hD
  refine lv_goto (tgt := 25) hx hb dL_setWeather_14 (by decide) ?_
  refine lv_iconst (v := (0 : Int32)) hx hb dL_setWeather_25 (by decide) ?_
  exact eI hx hb hr hlk hP hD hS (by rfl) (by rfl) (by exact Nat.le_of_ble_eq_true rfl) (by exact Nat.le_of_ble_eq_true rfl) dL_setWeather_26
abbrev rm_kL_setWeather_bad : Room := { frames := 7, cells := 1, slots := 6, locals := 106 }
set_option maxHeartbeats 4000000 in
set_option maxRecDepth 100000 in
theorem kL_setWeather_bad (l : Launch) (hl0 : l.stackTraces = false) (D : va_G) (Y : Nat → ClassId) (sz : Nat) (x : Nat) (w : Nat) (w1 : Nat) (w2 : Nat) (w3 : Nat) (pu : Nat) (h : Nat) (a : Nat) (j : Nat) (u : Nat) (og9 : Nat) (wa : fN) (da : fN) (gu : fN) (og : Nat → Int64) (v0 : Int32) (v1 : Int32) (v2 : Int32) (v3 : Int32) (ht : ¬ tSetW v0 v1 v2 v3 = 0) : MIX l yL_setWeather wsL_setWeather rm_kL_setWeather_bad D Y [.ref x, .int v0, .int v1, .int v2, .int v3, .ref og9] sz [(x, .inr (5, [.ref w, .ref pu, .ref h, .ref a, .ref j, .ref u])), (w, .inr (4, [.ref w1, .ref w2, .ref w3])), (w1, .inl (Y 0, 24, .inl wa)), (w2, .inl (Y 0, 24, .inl da)), (w3, .inl (Y 0, 24, .inl gu)), (og9, .inl (Y 2, 1, .inr (.inl og)))] (nI (tSetW v0 v1 v2 v3)) [(x, .inr (5, [.ref w, .ref pu, .ref h, .ref a, .ref j, .ref u])), (w, .inr (4, [.ref w1, .ref w2, .ref w3])), (w1, .inl (Y 0, 24, .inl wa)), (w2, .inl (Y 0, 24, .inl da)), (w3, .inl (Y 0, 24, .inl gu)), (og9, .inl (Y 2, 1, .inr (.inl og)))] 1 6 := by
  refine pcX_startW (cc := cL_setWeather) (maxL := 7) (ret := (some .int)) (Qc := fun A => va_Qi (fun (r : Int32) (_ : Unit) => r = (nI (tSetW v0 v1 v2 v3))) (qW D A [(x, .inr (5, [.ref w, .ref pu, .ref h, .ref a, .ref j, .ref u])), (w, .inr (4, [.ref w1, .ref w2, .ref w3])), (w1, .inl (Y 0, 24, .inl wa)), (w2, .inl (Y 0, 24, .inl da)), (w3, .inl (Y 0, 24, .inl gu)), (og9, .inl (Y 2, 1, .inr (.inl og)))]) A) (by decide) rfl (Nat.le_of_ble_eq_true rfl) ?_
  intro p e s m below meth c A ls hE hKN hA hP hD hl hEX hZX htab
  obtain ⟨hx, hb, hr, hml, hown, hts, hlk, hin⟩ := hE
  have hown : s.vm.findClass RL = some m.cls := hown
  have hS : va_S A s.heap s.heap [] := va_S.rf
  have hl : lv_has ls 7 [(0, .ref x), (1, .int v0), (2, .int v1), (3, .int v2), (4, .int v3), (5, .ref og9)] := hl
  refine lv_aload hx hb dL_setWeather_0 (lv_at hl 5 rfl) ?_
  refine lv_iconst (v := (0 : Int32)) hx hb dL_setWeather_2 (by decide) ?_
  refine lv_aload_n hx hb dL_setWeather_3 rfl (lv_at hl 0 rfl) ?_
  refine lv_iload_n hx hb dL_setWeather_4 rfl (lv_at hl 1 rfl) ?_
  refine lv_iload_n hx hb dL_setWeather_5 rfl (lv_at hl 2 rfl) ?_
  refine lv_iload_n hx hb dL_setWeather_6 rfl (lv_at hl 3 rfl) ?_
  refine lv_iload hx hb dL_setWeather_7 (lv_at hl 4 rfl) ?_
  refine cXV (As := [.int v0, .int v1, .int v2, .int v3]) (rest := [.int (0 : Int32), .ref og9]) ⟨hx, hb, hml, hown, hts⟩ (kX5_setWeather_bad l hl0 D Y _ x w w1 w2 w3 pu h a j u wa da gu v0 v1 v2 v3 (by first | assumption | omega)) (cwV 4 hts gL_setWeather_X5_setWeather rfl rfl rfl (by decide +kernel) ⟨Nat.le_of_ble_eq_true rfl, Nat.le_of_ble_eq_true rfl⟩) hKN hEX hZX hP hD hS hA [0, 1, 2, 3, 4] [5] [1, 2, 3, 4, 5, 0] rfl (by decide) rfl rfl 0 5 rfl rfl rfl rfl hl.1 (Nat.le_of_ble_eq_true rfl) dL_setWeather_9 ⟨Nat.le_of_ble_eq_true rfl, Nat.le_of_ble_eq_true rfl⟩ (fun ce q9 H locs hP hD hS hq9 hv9 hcl => ?_)
  rcases tSetW_n ht with e9 | e9
  · rw [e9] at hcl
    refine vx_catch (E := "java/lang/IndexOutOfBoundsException") (name := "java/lang/IndexOutOfBoundsException") hown [] ⟨0, 14, 17, 13⟩ [⟨0, 14, 21, 15⟩] htab (fun z hz => absurd hz List.not_mem_nil) (by decide) (by decide) (hts (.classLink RL 13 "java/lang/IndexOutOfBoundsException") (by decide +kernel)) (va_Nw.use (exW_tab _ (by decide +kernel)) (hEX.1 (.castable "java/lang/IndexOutOfBoundsException" "java/lang/IndexOutOfBoundsException") (by decide +kernel))) hq9 hv9 hcl ?_
    refine lv_astore (lv' := [(6, .ref q9), (0, .ref x), (1, .int v0), (2, .int v1), (3, .int v2), (4, .int v3), (5, .ref og9)]) hx hb dL_setWeather_17 hl (by decide) rfl (fun ls hl => ?_)
    refine lv_iconst (v := (1 : Int32)) hx hb dL_setWeather_19 (by decide) ?_
    exact eI hx hb hr hlk hP hD hS (by rfl) (by rw [e9]; first | done | rfl) (by exact Nat.le_of_ble_eq_true rfl) (by exact Nat.le_of_ble_eq_true rfl) dL_setWeather_20
  · rw [e9] at hcl
    refine vx_catch (E := "java/lang/IllegalArgumentException") (name := "java/lang/IllegalArgumentException") hown [⟨0, 14, 17, 13⟩] ⟨0, 14, 21, 15⟩ [] htab (List.forall_mem_cons.mpr ⟨Or.inr ⟨by decide, "java/lang/IndexOutOfBoundsException", hts (.classLink RL 13 "java/lang/IndexOutOfBoundsException") (by decide +kernel), hEX.2.2 ("java/lang/IllegalArgumentException", "java/lang/IndexOutOfBoundsException") (by decide)⟩, fun z hz => absurd hz List.not_mem_nil⟩) (by decide) (by decide) (hts (.classLink RL 15 "java/lang/IllegalArgumentException") (by decide +kernel)) (va_Nw.use (exW_tab _ (by decide +kernel)) (hEX.1 (.castable "java/lang/IllegalArgumentException" "java/lang/IllegalArgumentException") (by decide +kernel))) hq9 hv9 hcl ?_
    refine lv_astore (lv' := [(6, .ref q9), (0, .ref x), (1, .int v0), (2, .int v1), (3, .int v2), (4, .int v3), (5, .ref og9)]) hx hb dL_setWeather_21 hl (by decide) rfl (fun ls hl => ?_)
    refine lv_iconst (v := (2 : Int32)) hx hb dL_setWeather_23 (by decide) ?_
    exact eI hx hb hr hlk hP hD hS (by rfl) (by rw [e9]; first | done | rfl) (by exact Nat.le_of_ble_eq_true rfl) (by exact Nat.le_of_ble_eq_true rfl) dL_setWeather_24
abbrev rm_kX5_fill : Room := { frames := 1, cells := 0, slots := 0, locals := 22 }
set_option maxHeartbeats 4000000 in
set_option maxRecDepth 100000 in
theorem kX5_fill (l : Launch) (D : va_G) (Y : Nat → ClassId) (sz : Nat) (x : Nat) (w : Nat) (pu : Nat) (h : Nat) (h1 : Nat) (h2 : Nat) (h3 : Nat) (a : Nat) (j : Nat) (u : Nat) (wt : Int32) (tm : Nat) (v0 : Int32) (ht : tFill v0 = 0) : MI l yX5_fill wsX5_fill rm_kX5_fill D Y [.ref x, .int v0] sz [(x, .inr (5, [.ref w, .ref pu, .ref h, .ref a, .ref j, .ref u])), (h, .inr (0, [.ref w, .ref pu, .ref h1, .ref h2, .ref h3, .int wt, .int (nI tm)]))] (mnI (wt + v0) 9999) [(x, .inr (5, [.ref w, .ref pu, .ref h, .ref a, .ref j, .ref u])), (h, .inr (0, [.ref w, .ref pu, .ref h1, .ref h2, .ref h3, .int (mnI (wt + v0) 9999), .int (nI tm)]))] 0 0 := by
  refine pcW_start (cc := cX5_fill) (maxL := 2) (ret := (some .int)) (Qc := fun A => va_Qi (fun (r : Int32) (_ : Unit) => r = (mnI (wt + v0) 9999)) (qW D A [(x, .inr (5, [.ref w, .ref pu, .ref h, .ref a, .ref j, .ref u])), (h, .inr (0, [.ref w, .ref pu, .ref h1, .ref h2, .ref h3, .int (mnI (wt + v0) 9999), .int (nI tm)]))]) A) (by decide) rfl (Nat.le_of_ble_eq_true rfl) ?_
  intro p e s m below meth c A ls hE hKN hA hP hD hl
  obtain ⟨hx, hb, hr, hml, hown, hts, hlk, hin⟩ := hE
  have hown : s.vm.findClass RX5 = some m.cls := hown
  have hS : va_S A s.heap s.heap [] := va_S.rf
  have hi0 : ∀ w ∈ wsX00, w ∈ wsX5_fill := by decide +kernel
  have hi5 : ∀ w ∈ wsX50, w ∈ wsX5_fill := by decide +kernel
  have hl : lv_has ls 2 [(0, .ref x), (1, .int v0)] := hl
  have n1 := tFill_0 ht
  refine lv_iload_n hx hb dX5_fill_0 rfl (lv_at hl 1 rfl) ?_
  refine lv_iconst (v := (1 : Int32)) hx hb dX5_fill_1 (by decide) ?_
  refine lv_sipush (v := (9999 : Int32)) hx hb dX5_fill_2 (by decide) ?_
  refine cSi (As := [.int v0, .int (1 : Int32), .int (9999 : Int32)]) (rest := []) (ws' := [(x, .inr (5, [.ref w, .ref pu, .ref h, .ref a, .ref j, .ref u])), (h, .inr (0, [.ref w, .ref pu, .ref h1, .ref h2, .ref h3, .int wt, .int (nI tm)]))]) ⟨hx, hb, hml, hown, hts⟩ (kX5_isOutside l D Y _ v0 (1 : Int32) (9999 : Int32) ) (va_cwS 3 hts gX5_fill_X5_isOutside rfl rfl rfl (by decide +kernel) ⟨Nat.le_of_ble_eq_true rfl, Nat.le_of_ble_eq_true rfl⟩) hKN hP hD hS hA [] [0, 1] [0, 1] rfl (by decide) rfl rfl rfl rfl hl.1 (Nat.le_of_ble_eq_true rfl) dX5_fill_5 ⟨Nat.le_of_ble_eq_true rfl, Nat.le_of_ble_eq_true rfl⟩ (fun H locs hP hD hS => ?_)
  refine lv_eqi (y := (0 : Int32)) (by exact bi_f n1) ?_
  refine lv_if_eq (tgt := 21) hx hb dX5_fill_8 (by decide) (fun c_8 => ?_) (fun c_8 => by exfalso; revert c_8; decide)
  refine lv_aload_n hx hb dX5_fill_21 rfl (lv_at hl 0 rfl) ?_
  refine va_get (D := D) (ci := 5) (v := .ref h) (C := RX5) (T := TX5) (N := 6) hx hb hts hi5 hown hKN.1 hP 0 rfl rfl 2 (by decide) (hts (.fieldLink RX5 28 "SnowPumps" "hill" "LSnowPumps$Hill;") (by decide +kernel)) (fun _ h9 => h9) rfl dX5_fill_22 ?_
  refine lv_aload_n hx hb dX5_fill_25 rfl (lv_at hl 0 rfl) ?_
  refine va_get (D := D) (ci := 5) (v := .ref h) (C := RX5) (T := TX5) (N := 6) hx hb hts hi5 hown hKN.1 hP 0 rfl rfl 2 (by decide) (hts (.fieldLink RX5 28 "SnowPumps" "hill" "LSnowPumps$Hill;") (by decide +kernel)) (fun _ h9 => h9) rfl dX5_fill_26 ?_
  refine va_get (D := D) (ci := 0) (v := .int wt) (C := RX0) (T := TX0) (N := 7) hx hb hts hi0 hown hKN.1 hP 1 rfl rfl 5 (by decide) (hts (.fieldLink RX5 108 "SnowPumps$Hill" "water" "I") (by decide +kernel)) (fun _ h9 => h9) rfl dX5_fill_29 ?_
  refine lv_iload_n hx hb dX5_fill_32 rfl (lv_at hl 1 rfl) ?_
  refine lv_iadd hx hb dX5_fill_33 ?_
  refine lv_sipush (v := (9999 : Int32)) hx hb dX5_fill_34 (by decide) ?_
  refine va_mmin hx hb (hml.trans hl.1.symm) hown (hts (.methodLink RX5 111 Lib.Math.min.name) (by decide +kernel)) (hts (.static Lib.Math.min.name) (by decide +kernel)) (hts (.initialized "java/lang/Math") (by decide +kernel)) (hts (.code Lib.Math.min.name Lib.Math.min.code 2 (some .int)) (by decide +kernel)) (Nat.le_of_ble_eq_true rfl) (Nat.le_of_ble_eq_true rfl) (by exact Nat.le_of_ble_eq_true rfl) (by exact Nat.le_of_ble_eq_true rfl) dX5_fill_37 ?_
  refine lv_eqi (y := mnI (wt + v0) (9999 : Int32)) rfl ?_
  refine va_put (D := D) (ci := 0) (v := .int (mnI (wt + v0) (9999 : Int32))) (ty := .int) (C := RX0) (T := TX0) (N := 7) hx hb hts hi0 tyX0 tyX0_ok nmX0 hown hKN.1 hP hD hS 1 rfl rfl 5 (by decide) (hts (.fieldLink RX5 108 "SnowPumps$Hill" "water" "I") (by decide +kernel)) (fun _ h9 => h9) rfl (by decide +kernel) rfl rfl (Nat.le_of_ble_eq_true rfl) dX5_fill_40 (fun H locs hP hD hS => ?_)
  have hP : va_P D vwCl [(x, .inr (5, [.ref w, .ref pu, .ref h, .ref a, .ref j, .ref u])), (h, .inr (0, [.ref w, .ref pu, .ref h1, .ref h2, .ref h3, .int (mnI (wt + v0) (9999 : Int32)), .int (nI tm)]))] _ := hP
  have hD : va_D A [(x, .inr (5, [.ref w, .ref pu, .ref h, .ref a, .ref j, .ref u])), (h, .inr (0, [.ref w, .ref pu, .ref h1, .ref h2, .ref h3, .int (mnI (wt + v0) (9999 : Int32)), .int (nI tm)]))] := hD
  refine lv_aload_n hx hb dX5_fill_43 rfl (lv_at hl 0 rfl) ?_
  refine va_get (D := D) (ci := 5) (v := .ref h) (C := RX5) (T := TX5) (N := 6) hx hb hts hi5 hown hKN.1 hP 0 rfl rfl 2 (by decide) (hts (.fieldLink RX5 28 "SnowPumps" "hill" "LSnowPumps$Hill;") (by decide +kernel)) (fun _ h9 => h9) rfl dX5_fill_44 ?_
  refine va_get (D := D) (ci := 0) (v := .int (mnI (wt + v0) (9999 : Int32))) (C := RX0) (T := TX0) (N := 7) hx hb hts hi0 hown hKN.1 hP 1 rfl rfl 5 (by decide) (hts (.fieldLink RX5 108 "SnowPumps$Hill" "water" "I") (by decide +kernel)) (fun _ h9 => h9) rfl dX5_fill_47 ?_
  exact eI hx hb hr hlk hP hD hS (by rfl) (by rfl) (by exact Nat.le_of_ble_eq_true rfl) (by exact Nat.le_of_ble_eq_true rfl) dX5_fill_50
abbrev rm_kX5_fill_bad : Room := { frames := 6, cells := 1, slots := 6, locals := 82 }
set_option maxHeartbeats 4000000 in
set_option maxRecDepth 100000 in
theorem kX5_fill_bad (l : Launch) (hl0 : l.stackTraces = false) (D : va_G) (Y : Nat → ClassId) (sz : Nat) (x : Nat) (w : Nat) (pu : Nat) (h : Nat) (h1 : Nat) (h2 : Nat) (h3 : Nat) (a : Nat) (j : Nat) (u : Nat) (wt : Int32) (tm : Nat) (v0 : Int32) (ht : ¬ tFill v0 = 0) : MX l yX5_fill wsX5_fill rm_kX5_fill_bad D Y [.ref x, .int v0] sz [(x, .inr (5, [.ref w, .ref pu, .ref h, .ref a, .ref j, .ref u])), (h, .inr (0, [.ref w, .ref pu, .ref h1, .ref h2, .ref h3, .int wt, .int (nI tm)]))] (exn (tFill v0) ["java/lang/IllegalArgumentException"]) 1 6 := by
  refine pcX_start (cc := cX5_fill) (maxL := 2) (ret := (some .int)) (Qc := fun A => va_Qi (fun (_ : Int32) (_ : Unit) => False) (fun _ _ => True) A) (XC := fun A => vx_X (fun (_ : Unit) => True) (fun E' _ t => E' = (exn (tFill v0) ["java/lang/IllegalArgumentException"]) ∧ va_P D vwCl [(x, .inr (5, [.ref w, .ref pu, .ref h, .ref a, .ref j, .ref u])), (h, .inr (0, [.ref w, .ref pu, .ref h1, .ref h2, .ref h3, .int wt, .int (nI tm)]))] t.heap ∧ va_D A [(x, .inr (5, [.ref w, .ref pu, .ref h, .ref a, .ref j, .ref u])), (h, .inr (0, [.ref w, .ref pu, .ref h1, .ref h2, .ref h3, .int wt, .int (nI tm)]))]) A) (by decide) rfl (Nat.le_of_ble_eq_true rfl) ?_
  intro p e s m below meth c A ls hE hKN hA hP hD hl hEX hZX htab
  obtain ⟨hx, hb, hr, hml, hown, hts, hlk, hin⟩ := hE
  have hown : s.vm.findClass RX5 = some m.cls := hown
  have hS : va_S A s.heap s.heap [] := va_S.rf
  have hl : lv_has ls 2 [(0, .ref x), (1, .int v0)] := hl
  refine lv_iload_n hx hb dX5_fill_0 rfl (lv_at hl 1 rfl) ?_
  refine lv_iconst (v := (1 : Int32)) hx hb dX5_fill_1 (by decide) ?_
  refine lv_sipush (v := (9999 : Int32)) hx hb dX5_fill_2 (by decide) ?_
  refine cSi (As := [.int v0, .int (1 : Int32), .int (9999 : Int32)]) (rest := []) (ws' := [(x, .inr (5, [.ref w, .ref pu, .ref h, .ref a, .ref j, .ref u])), (h, .inr (0, [.ref w, .ref pu, .ref h1, .ref h2, .ref h3, .int wt, .int (nI tm)]))]) ⟨hx, hb, hml, hown, hts⟩ (kX5_isOutside l D Y _ v0 (1 : Int32) (9999 : Int32) ) (va_cwS 3 hts gX5_fill_X5_isOutside rfl rfl rfl (by decide +kernel) ⟨Nat.le_of_ble_eq_true rfl, Nat.le_of_ble_eq_true rfl⟩) hKN hP hD hS hA [] [0, 1] [0, 1] rfl (by decide) rfl rfl rfl rfl hl.1 (Nat.le_of_ble_eq_true rfl) dX5_fill_5 ⟨Nat.le_of_ble_eq_true rfl, Nat.le_of_ble_eq_true rfl⟩ (fun H locs hP hD hS => ?_)
  refine lv_if_eq (tgt := 21) hx hb dX5_fill_8 (by decide) (fun c_8 => ?_) (fun c_8 => ?_)
  · exfalso
    exact ht (by unfold tFill; rw [if_neg (bi_0 c_8)])
  · exact thS (cls := "java/lang/IllegalArgumentException") (text := "water is not 1 to 9999") (is := 106) (ic := 64) (ik := 60) hx hb hl0 hown (by decide +kernel) hts (by decide +kernel) (by decide +kernel) (by decide +kernel) (by decide +kernel) hEX hZX hP hD hS hl.1 hml htab dX5_fill_11 dX5_fill_14 dX5_fill_15 dX5_fill_17 dX5_fill_20 (Nat.le_of_ble_eq_true rfl) (Nat.le_of_ble_eq_true rfl) (Nat.le_of_ble_eq_true rfl) (Nat.le_of_ble_eq_true rfl) hlk (by have e9 : tFill v0 = 1 := (by unfold tFill; rw [if_pos (bi_n c_8)]); rw [e9]; first | done | rfl) (Nat.le_of_ble_eq_true rfl) (Nat.le_of_ble_eq_true rfl)
abbrev rm_kL_fill : Room := { frames := 2, cells := 0, slots := 0, locals := 43 }
set_option maxHeartbeats 4000000 in
set_option maxRecDepth 100000 in
theorem kL_fill (l : Launch) (D : va_G) (Y : Nat → ClassId) (sz : Nat) (x : Nat) (w : Nat) (pu : Nat) (h : Nat) (h1 : Nat) (h2 : Nat) (h3 : Nat) (a : Nat) (j : Nat) (u : Nat) (og9 : Nat) (wt : Int32) (tm : Nat) (og : Nat → Int64) (v0 : Int32) (ht : tFill v0 = 0) : MI l yL_fill wsL_fill rm_kL_fill D Y [.ref x, .int v0, .ref og9] sz [(x, .inr (5, [.ref w, .ref pu, .ref h, .ref a, .ref j, .ref u])), (h, .inr (0, [.ref w, .ref pu, .ref h1, .ref h2, .ref h3, .int wt, .int (nI tm)])), (og9, .inl (Y 2, 1, .inr (.inl og)))] (0 : Int32) [(x, .inr (5, [.ref w, .ref pu, .ref h, .ref a, .ref j, .ref u])), (h, .inr (0, [.ref w, .ref pu, .ref h1, .ref h2, .ref h3, .int (mnI (wt + v0) 9999), .int (nI tm)])), (og9, .inl (Y 2, 1, .inr (.inl (fun _ => (mnI (wt + v0) 9999).toInt64))))] 0 0 := by
  refine pcW_startW (cc := cL_fill) (maxL := 4) (ret := (some .int)) (Qc := fun A => va_Qi (fun (r : Int32) (_ : Unit) => r = (0 : Int32)) (qW D A [(x, .inr (5, [.ref w, .ref pu, .ref h, .ref a, .ref j, .ref u])), (h, .inr (0, [.ref w, .ref pu, .ref h1, .ref h2, .ref h3, .int (mnI (wt + v0) 9999), .int (nI tm)])), (og9, .inl (Y 2, 1, .inr (.inl (fun _ => (mnI (wt + v0) 9999).toInt64))))]) A) (by decide) rfl (Nat.le_of_ble_eq_true rfl) ?_
  intro p e s m below meth c A ls hE hKN hA hP hD hl
  obtain ⟨hx, hb, hr, hml, hown, hts, hlk, hin⟩ := hE
  have hown : s.vm.findClass RL = some m.cls := hown
  have hS : va_S A s.heap s.heap [] := va_S.rf
  have hl : lv_has ls 4 [(0, .ref x), (1, .int v0), (2, .ref og9)] := hl
  refine lv_aload_n hx hb dL_fill_0 rfl (lv_at hl 2 rfl) ?_
  refine lv_iconst (v := (0 : Int32)) hx hb dL_fill_1 (by decide) ?_
  refine lv_aload_n hx hb dL_fill_2 rfl (lv_at hl 0 rfl) ?_
  refine lv_iload_n hx hb dL_fill_3 rfl (lv_at hl 1 rfl) ?_
  refine cVi (As := [.int v0]) (rest := [.int (0 : Int32), .ref og9]) (ws' := [(x, .inr (5, [.ref w, .ref pu, .ref h, .ref a, .ref j, .ref u])), (h, .inr (0, [.ref w, .ref pu, .ref h1, .ref h2, .ref h3, .int (mnI (wt + v0) 9999), .int (nI tm)])), (og9, .inl (Y 2, 1, .inr (.inl og)))]) ⟨hx, hb, hml, hown, hts⟩ (kX5_fill l D Y _ x w pu h h1 h2 h3 a j u wt tm v0 (by first | assumption | omega)) (cwV 1 hts gL_fill_X5_fill rfl rfl rfl (by decide +kernel) ⟨Nat.le_of_ble_eq_true rfl, Nat.le_of_ble_eq_true rfl⟩) hKN hP hD hS hA [0, 1] [2] [1, 2, 0] rfl (by decide) rfl rfl 0 5 rfl rfl rfl rfl hl.1 (Nat.le_of_ble_eq_true rfl) dL_fill_4 ⟨Nat.le_of_ble_eq_true rfl, Nat.le_of_ble_eq_true rfl⟩ (fun H locs hP hD hS => ?_)
  refine lv_i2l hx hb dL_fill_7 rfl ?_
  refine lst hx hb hKN.1 hP hD hS 2 2 rfl rfl 0 (by rfl) (by decide) (by first | decide | assumption | omega) dL_fill_8 (fun H locs hP hD hS => ?_)
  have hP : va_P D vwCl [(x, .inr (5, [.ref w, .ref pu, .ref h, .ref a, .ref j, .ref u])), (h, .inr (0, [.ref w, .ref pu, .ref h1, .ref h2, .ref h3, .int (mnI (wt + v0) 9999), .int (nI tm)])), (og9, .inl (Y 2, 1, .inr (.inl (vp_updL og 0 ((mnI (wt + v0) 9999).toInt64)))))] _ := hP
  have hD : va_D A [(x, .inr (5, [.ref w, .ref pu, .ref h, .ref a, .ref j, .ref u])), (h, .inr (0, [.ref w, .ref pu, .ref h1, .ref h2, .ref h3, .int (mnI (wt + v0) 9999), .int (nI tm)])), (og9, .inl (Y 2, 1, .inr (.inl (vp_updL og 0 ((mnI (wt + v0) 9999).toInt64)))))] := hD
  obtain ⟨hP, hD⟩ := va_nrmL hP hD 2 rfl (g := (fun _ => (mnI (wt + v0) 9999).toInt64)) (by exact outL _ _)
  have hP : va_P D vwCl [(x, .inr (5, [.ref w, .ref pu, .ref h, .ref a, .ref j, .ref u])), (h, .inr (0, [.ref w, .ref pu, .ref h1, .ref h2, .ref h3, .int (mnI (wt + v0) 9999), .int (nI tm)])), (og9, .inl (Y 2, 1, .inr (.inl (fun _ => (mnI (wt + v0) 9999).toInt64))))] _ := hP
  have hD : va_D A [(x, .inr (5, [.ref w, .ref pu, .ref h, .ref a, .ref j, .ref u])), (h, .inr (0, [.ref w, .ref pu, .ref h1, .ref h2, .ref h3, .int (mnI (wt + v0) 9999), .int (nI tm)])), (og9, .inl (Y 2, 1, .inr (.inl (fun _ => (mnI (wt + v0) 9999).toInt64))))] := hD
  refine lv_goto (tgt := 15) hx hb dL_fill_9 (by decide) ?_
  refine lv_iconst (v := (0 : Int32)) hx hb dL_fill_15 (by decide) ?_
  exact eI hx hb hr hlk hP hD hS (by rfl) (by rfl) (by exact Nat.le_of_ble_eq_true rfl) (by exact Nat.le_of_ble_eq_true rfl) dL_fill_16
abbrev rm_kL_fill_bad : Room := { frames := 7, cells := 1, slots := 6, locals := 103 }
set_option maxHeartbeats 4000000 in
set_option maxRecDepth 100000 in
theorem kL_fill_bad (l : Launch) (hl0 : l.stackTraces = false) (D : va_G) (Y : Nat → ClassId) (sz : Nat) (x : Nat) (w : Nat) (pu : Nat) (h : Nat) (h1 : Nat) (h2 : Nat) (h3 : Nat) (a : Nat) (j : Nat) (u : Nat) (og9 : Nat) (wt : Int32) (tm : Nat) (og : Nat → Int64) (v0 : Int32) (ht : ¬ tFill v0 = 0) : MIX l yL_fill wsL_fill rm_kL_fill_bad D Y [.ref x, .int v0, .ref og9] sz [(x, .inr (5, [.ref w, .ref pu, .ref h, .ref a, .ref j, .ref u])), (h, .inr (0, [.ref w, .ref pu, .ref h1, .ref h2, .ref h3, .int wt, .int (nI tm)])), (og9, .inl (Y 2, 1, .inr (.inl og)))] (nI (tFill v0)) [(x, .inr (5, [.ref w, .ref pu, .ref h, .ref a, .ref j, .ref u])), (h, .inr (0, [.ref w, .ref pu, .ref h1, .ref h2, .ref h3, .int wt, .int (nI tm)])), (og9, .inl (Y 2, 1, .inr (.inl og)))] 1 6 := by
  refine pcX_startW (cc := cL_fill) (maxL := 4) (ret := (some .int)) (Qc := fun A => va_Qi (fun (r : Int32) (_ : Unit) => r = (nI (tFill v0))) (qW D A [(x, .inr (5, [.ref w, .ref pu, .ref h, .ref a, .ref j, .ref u])), (h, .inr (0, [.ref w, .ref pu, .ref h1, .ref h2, .ref h3, .int wt, .int (nI tm)])), (og9, .inl (Y 2, 1, .inr (.inl og)))]) A) (by decide) rfl (Nat.le_of_ble_eq_true rfl) ?_
  intro p e s m below meth c A ls hE hKN hA hP hD hl hEX hZX htab
  obtain ⟨hx, hb, hr, hml, hown, hts, hlk, hin⟩ := hE
  have hown : s.vm.findClass RL = some m.cls := hown
  have hS : va_S A s.heap s.heap [] := va_S.rf
  have hl : lv_has ls 4 [(0, .ref x), (1, .int v0), (2, .ref og9)] := hl
  refine lv_aload_n hx hb dL_fill_0 rfl (lv_at hl 2 rfl) ?_
  refine lv_iconst (v := (0 : Int32)) hx hb dL_fill_1 (by decide) ?_
  refine lv_aload_n hx hb dL_fill_2 rfl (lv_at hl 0 rfl) ?_
  refine lv_iload_n hx hb dL_fill_3 rfl (lv_at hl 1 rfl) ?_
  refine cXV (As := [.int v0]) (rest := [.int (0 : Int32), .ref og9]) ⟨hx, hb, hml, hown, hts⟩ (kX5_fill_bad l hl0 D Y _ x w pu h h1 h2 h3 a j u wt tm v0 (by first | assumption | omega)) (cwV 1 hts gL_fill_X5_fill rfl rfl rfl (by decide +kernel) ⟨Nat.le_of_ble_eq_true rfl, Nat.le_of_ble_eq_true rfl⟩) hKN hEX hZX hP hD hS hA [0, 1] [2] [1, 2, 0] rfl (by decide) rfl rfl 0 5 rfl rfl rfl rfl hl.1 (Nat.le_of_ble_eq_true rfl) dL_fill_4 ⟨Nat.le_of_ble_eq_true rfl, Nat.le_of_ble_eq_true rfl⟩ (fun ce q9 H locs hP hD hS hq9 hv9 hcl => ?_)
  rcases tFill_n ht with e9
  · rw [e9] at hcl
    refine vx_catch (E := "java/lang/IllegalArgumentException") (name := "java/lang/IllegalArgumentException") hown [] ⟨0, 9, 12, 15⟩ [] htab (fun z hz => absurd hz List.not_mem_nil) (by decide) (by decide) (hts (.classLink RL 15 "java/lang/IllegalArgumentException") (by decide +kernel)) (va_Nw.use (exW_tab _ (by decide +kernel)) (hEX.1 (.castable "java/lang/IllegalArgumentException" "java/lang/IllegalArgumentException") (by decide +kernel))) hq9 hv9 hcl ?_
    refine lv_astore_n (lv' := [(3, .ref q9), (0, .ref x), (1, .int v0), (2, .ref og9)]) hx hb dL_fill_12 rfl hl (by decide) rfl (fun ls hl => ?_)
    refine lv_iconst (v := (1 : Int32)) hx hb dL_fill_13 (by decide) ?_
    exact eI hx hb hr hlk hP hD hS (by rfl) (by rw [e9]; first | done | rfl) (by exact Nat.le_of_ble_eq_true rfl) (by exact Nat.le_of_ble_eq_true rfl) dL_fill_14
abbrev rm_kX5_judge : Room := { frames := 1, cells := 0, slots := 0, locals := 22 }
set_option maxHeartbeats 4000000 in
set_option maxRecDepth 100000 in
theorem kX5_judge (l : Launch) (D : va_G) (Y : Nat → ClassId) (sz : Nat) (x : Nat) (w : Nat) (pu : Nat) (h : Nat) (a : Nat) (j : Nat) (j1 : Nat) (u : Nat) (st : fN) (v0 : Int32) (v1 : Int32) (ht : tJudge v0 v1 = 0) : MI l yX5_judge wsX5_judge rm_kX5_judge D Y [.ref x, .int v0, .int v1] sz [(x, .inr (5, [.ref w, .ref pu, .ref h, .ref a, .ref j, .ref u])), (j, .inr (2, [.ref j1])), (j1, .inl (Y 0, 5, .inl st))] (st (ix v0)) [(x, .inr (5, [.ref w, .ref pu, .ref h, .ref a, .ref j, .ref u])), (j, .inr (2, [.ref j1])), (j1, .inl (Y 0, 5, .inl (upd st (ix v0) v1)))] 0 0 := by
  refine pcW_start (cc := cX5_judge) (maxL := 4) (ret := (some .int)) (Qc := fun A => va_Qi (fun (r : Int32) (_ : Unit) => r = (st (ix v0))) (qW D A [(x, .inr (5, [.ref w, .ref pu, .ref h, .ref a, .ref j, .ref u])), (j, .inr (2, [.ref j1])), (j1, .inl (Y 0, 5, .inl (upd st (ix v0) v1)))]) A) (by decide) rfl (Nat.le_of_ble_eq_true rfl) ?_
  intro p e s m below meth c A ls hE hKN hA hP hD hl
  obtain ⟨hx, hb, hr, hml, hown, hts, hlk, hin⟩ := hE
  have hown : s.vm.findClass RX5 = some m.cls := hown
  have hS : va_S A s.heap s.heap [] := va_S.rf
  have hi2 : ∀ w ∈ wsX20, w ∈ wsX5_judge := by decide +kernel
  have hi5 : ∀ w ∈ wsX50, w ∈ wsX5_judge := by decide +kernel
  have hl : lv_has ls 4 [(0, .ref x), (1, .int v0), (2, .int v1)] := hl
  have n0 := tJudge_0 ht
  obtain ⟨n1, n2⟩ := n0
  obtain ⟨e1, b1⟩ := rng (x := v0) (n := 4) (by decide) n1
  refine lv_iload_n hx hb dX5_judge_0 rfl (lv_at hl 1 rfl) ?_
  refine lv_iconst (v := (0 : Int32)) hx hb dX5_judge_1 (by decide) ?_
  refine lv_iconst (v := (4 : Int32)) hx hb dX5_judge_2 (by decide) ?_
  refine cSi (As := [.int v0, .int (0 : Int32), .int (4 : Int32)]) (rest := []) (ws' := [(x, .inr (5, [.ref w, .ref pu, .ref h, .ref a, .ref j, .ref u])), (j, .inr (2, [.ref j1])), (j1, .inl (Y 0, 5, .inl st))]) ⟨hx, hb, hml, hown, hts⟩ (kX5_isOutside l D Y _ v0 (0 : Int32) (4 : Int32) ) (va_cwS 3 hts gX5_judge_X5_isOutside rfl rfl rfl (by decide +kernel) ⟨Nat.le_of_ble_eq_true rfl, Nat.le_of_ble_eq_true rfl⟩) hKN hP hD hS hA [] [0, 1, 2] [0, 1, 2] rfl (by decide) rfl rfl rfl rfl hl.1 (Nat.le_of_ble_eq_true rfl) dX5_judge_3 ⟨Nat.le_of_ble_eq_true rfl, Nat.le_of_ble_eq_true rfl⟩ (fun H locs hP hD hS => ?_)
  refine lv_eqi (y := (0 : Int32)) (by exact bi_f n1) ?_
  refine lv_if_eq (tgt := 19) hx hb dX5_judge_6 (by decide) (fun c_6 => ?_) (fun c_6 => by exfalso; revert c_6; decide)
  refine lv_iload_n hx hb dX5_judge_19 rfl (lv_at hl 2 rfl) ?_
  refine lv_iconst (v := (0 : Int32)) hx hb dX5_judge_20 (by decide) ?_
  refine lv_iconst (v := (4 : Int32)) hx hb dX5_judge_21 (by decide) ?_
  refine cSi (As := [.int v1, .int (0 : Int32), .int (4 : Int32)]) (rest := []) (ws' := [(x, .inr (5, [.ref w, .ref pu, .ref h, .ref a, .ref j, .ref u])), (j, .inr (2, [.ref j1])), (j1, .inl (Y 0, 5, .inl st))]) ⟨hx, hb, hml, hown, hts⟩ (kX5_isOutside l D Y _ v1 (0 : Int32) (4 : Int32) ) (va_cwS 3 hts gX5_judge_X5_isOutside rfl rfl rfl (by decide +kernel) ⟨Nat.le_of_ble_eq_true rfl, Nat.le_of_ble_eq_true rfl⟩) hKN hP hD hS hA [] [0, 1, 2] [0, 1, 2] rfl (by decide) rfl rfl rfl rfl hl.1 (Nat.le_of_ble_eq_true rfl) dX5_judge_22 ⟨Nat.le_of_ble_eq_true rfl, Nat.le_of_ble_eq_true rfl⟩ (fun H locs hP hD hS => ?_)
  refine lv_eqi (y := (0 : Int32)) (by exact bi_f n2) ?_
  refine lv_if_eq (tgt := 38) hx hb dX5_judge_25 (by decide) (fun c_25 => ?_) (fun c_25 => by exfalso; revert c_25; decide)
  have ec_1 : v0 = (nI (ix v0)) := by exact e1
  have hl : lv_has ls 4 [(0, .ref x), (1, .int (nI (ix v0))), (2, .int v1)] := (congrArg (fun zz9 => lv_has ls 4 [(0, .ref x), (1, .int zz9), (2, .int v1)]) ec_1).mp hl
  refine lv_aload_n hx hb dX5_judge_38 rfl (lv_at hl 0 rfl) ?_
  refine va_get (D := D) (ci := 5) (v := .ref j) (C := RX5) (T := TX5) (N := 6) hx hb hts hi5 hown hKN.1 hP 0 rfl rfl 4 (by decide) (hts (.fieldLink RX5 38 "SnowPumps" "jury" "LSnowPumps$Jury;") (by decide +kernel)) (fun _ h9 => h9) rfl dX5_judge_39 ?_
  refine va_get (D := D) (ci := 2) (v := .ref j1) (C := RX2) (T := TX2) (N := 1) hx hb hts hi2 hown hKN.1 hP 1 rfl rfl 0 (by decide) (hts (.fieldLink RX5 129 "SnowPumps$Jury" "strict" "[I") (by decide +kernel)) (fun _ h9 => h9) rfl dX5_judge_42 ?_
  refine lv_iload_n hx hb dX5_judge_45 rfl (lv_at hl 1 rfl) ?_
  refine ia hx hb hKN.1 hP 2 0 rfl rfl (ix v0) (by rfl) (by omega) (by first | decide | assumption | omega) dX5_judge_46 ?_
  refine lv_istore_n (lv' := [(3, .int (st (ix v0))), (0, .ref x), (1, .int (nI (ix v0))), (2, .int v1)]) hx hb dX5_judge_47 rfl hl (by decide) rfl (fun ls hl => ?_)
  refine lv_aload_n hx hb dX5_judge_48 rfl (lv_at hl 1 rfl) ?_
  refine va_get (D := D) (ci := 5) (v := .ref j) (C := RX5) (T := TX5) (N := 6) hx hb hts hi5 hown hKN.1 hP 0 rfl rfl 4 (by decide) (hts (.fieldLink RX5 38 "SnowPumps" "jury" "LSnowPumps$Jury;") (by decide +kernel)) (fun _ h9 => h9) rfl dX5_judge_49 ?_
  refine va_get (D := D) (ci := 2) (v := .ref j1) (C := RX2) (T := TX2) (N := 1) hx hb hts hi2 hown hKN.1 hP 1 rfl rfl 0 (by decide) (hts (.fieldLink RX5 129 "SnowPumps$Jury" "strict" "[I") (by decide +kernel)) (fun _ h9 => h9) rfl dX5_judge_52 ?_
  refine lv_iload_n hx hb dX5_judge_55 rfl (lv_at hl 2 rfl) ?_
  refine lv_iload_n hx hb dX5_judge_56 rfl (lv_at hl 3 rfl) ?_
  refine is hx hb hKN.1 hP hD hS 2 0 rfl rfl (ix v0) (by rfl) (by omega) (by first | decide | assumption | omega) dX5_judge_57 (fun H locs hP hD hS => ?_)
  have hP : va_P D vwCl [(x, .inr (5, [.ref w, .ref pu, .ref h, .ref a, .ref j, .ref u])), (j, .inr (2, [.ref j1])), (j1, .inl (Y 0, 5, .inl (upd st (ix v0) v1)))] _ := hP
  have hD : va_D A [(x, .inr (5, [.ref w, .ref pu, .ref h, .ref a, .ref j, .ref u])), (j, .inr (2, [.ref j1])), (j1, .inl (Y 0, 5, .inl (upd st (ix v0) v1)))] := hD
  refine lv_iload_n hx hb dX5_judge_58 rfl (lv_at hl 0 rfl) ?_
  exact eI hx hb hr hlk hP hD hS (by rfl) (by rfl) (by exact Nat.le_of_ble_eq_true rfl) (by exact Nat.le_of_ble_eq_true rfl) dX5_judge_59
abbrev rm_kX5_judge_bad : Room := { frames := 6, cells := 1, slots := 6, locals := 82 }
set_option maxHeartbeats 4000000 in
set_option maxRecDepth 100000 in
theorem kX5_judge_bad (l : Launch) (hl0 : l.stackTraces = false) (D : va_G) (Y : Nat → ClassId) (sz : Nat) (x : Nat) (w : Nat) (pu : Nat) (h : Nat) (a : Nat) (j : Nat) (j1 : Nat) (u : Nat) (st : fN) (v0 : Int32) (v1 : Int32) (ht : ¬ tJudge v0 v1 = 0) : MX l yX5_judge wsX5_judge rm_kX5_judge_bad D Y [.ref x, .int v0, .int v1] sz [(x, .inr (5, [.ref w, .ref pu, .ref h, .ref a, .ref j, .ref u])), (j, .inr (2, [.ref j1])), (j1, .inl (Y 0, 5, .inl st))] (exn (tJudge v0 v1) ["java/lang/IndexOutOfBoundsException", "java/lang/IllegalArgumentException", "java/lang/IllegalStateException"]) 1 6 := by
  refine pcX_start (cc := cX5_judge) (maxL := 4) (ret := (some .int)) (Qc := fun A => va_Qi (fun (_ : Int32) (_ : Unit) => False) (fun _ _ => True) A) (XC := fun A => vx_X (fun (_ : Unit) => True) (fun E' _ t => E' = (exn (tJudge v0 v1) ["java/lang/IndexOutOfBoundsException", "java/lang/IllegalArgumentException", "java/lang/IllegalStateException"]) ∧ va_P D vwCl [(x, .inr (5, [.ref w, .ref pu, .ref h, .ref a, .ref j, .ref u])), (j, .inr (2, [.ref j1])), (j1, .inl (Y 0, 5, .inl st))] t.heap ∧ va_D A [(x, .inr (5, [.ref w, .ref pu, .ref h, .ref a, .ref j, .ref u])), (j, .inr (2, [.ref j1])), (j1, .inl (Y 0, 5, .inl st))]) A) (by decide) rfl (Nat.le_of_ble_eq_true rfl) ?_
  intro p e s m below meth c A ls hE hKN hA hP hD hl hEX hZX htab
  obtain ⟨hx, hb, hr, hml, hown, hts, hlk, hin⟩ := hE
  have hown : s.vm.findClass RX5 = some m.cls := hown
  have hS : va_S A s.heap s.heap [] := va_S.rf
  have hl : lv_has ls 4 [(0, .ref x), (1, .int v0), (2, .int v1)] := hl
  refine lv_iload_n hx hb dX5_judge_0 rfl (lv_at hl 1 rfl) ?_
  refine lv_iconst (v := (0 : Int32)) hx hb dX5_judge_1 (by decide) ?_
  refine lv_iconst (v := (4 : Int32)) hx hb dX5_judge_2 (by decide) ?_
  refine cSi (As := [.int v0, .int (0 : Int32), .int (4 : Int32)]) (rest := []) (ws' := [(x, .inr (5, [.ref w, .ref pu, .ref h, .ref a, .ref j, .ref u])), (j, .inr (2, [.ref j1])), (j1, .inl (Y 0, 5, .inl st))]) ⟨hx, hb, hml, hown, hts⟩ (kX5_isOutside l D Y _ v0 (0 : Int32) (4 : Int32) ) (va_cwS 3 hts gX5_judge_X5_isOutside rfl rfl rfl (by decide +kernel) ⟨Nat.le_of_ble_eq_true rfl, Nat.le_of_ble_eq_true rfl⟩) hKN hP hD hS hA [] [0, 1, 2] [0, 1, 2] rfl (by decide) rfl rfl rfl rfl hl.1 (Nat.le_of_ble_eq_true rfl) dX5_judge_3 ⟨Nat.le_of_ble_eq_true rfl, Nat.le_of_ble_eq_true rfl⟩ (fun H locs hP hD hS => ?_)
  refine lv_if_eq (tgt := 19) hx hb dX5_judge_6 (by decide) (fun c_6 => ?_) (fun c_6 => ?_)
  · have n1 : ¬ (v0 < 0 ∨ 4 < v0) := bi_0 c_6
    refine lv_iload_n hx hb dX5_judge_19 rfl (lv_at hl 2 rfl) ?_
    refine lv_iconst (v := (0 : Int32)) hx hb dX5_judge_20 (by decide) ?_
    refine lv_iconst (v := (4 : Int32)) hx hb dX5_judge_21 (by decide) ?_
    refine cSi (As := [.int v1, .int (0 : Int32), .int (4 : Int32)]) (rest := []) (ws' := [(x, .inr (5, [.ref w, .ref pu, .ref h, .ref a, .ref j, .ref u])), (j, .inr (2, [.ref j1])), (j1, .inl (Y 0, 5, .inl st))]) ⟨hx, hb, hml, hown, hts⟩ (kX5_isOutside l D Y _ v1 (0 : Int32) (4 : Int32) ) (va_cwS 3 hts gX5_judge_X5_isOutside rfl rfl rfl (by decide +kernel) ⟨Nat.le_of_ble_eq_true rfl, Nat.le_of_ble_eq_true rfl⟩) hKN hP hD hS hA [] [0, 1, 2] [0, 1, 2] rfl (by decide) rfl rfl rfl rfl hl.1 (Nat.le_of_ble_eq_true rfl) dX5_judge_22 ⟨Nat.le_of_ble_eq_true rfl, Nat.le_of_ble_eq_true rfl⟩ (fun H locs hP hD hS => ?_)
    refine lv_if_eq (tgt := 38) hx hb dX5_judge_25 (by decide) (fun c_25 => ?_) (fun c_25 => ?_)
    · exfalso
      exact ht (by unfold tJudge; rw [if_neg n1, if_neg (bi_0 c_25)])
    · exact thS (cls := "java/lang/IllegalArgumentException") (text := "strict is not 0 to 4") (is := 127) (ic := 64) (ik := 60) hx hb hl0 hown (by decide +kernel) hts (by decide +kernel) (by decide +kernel) (by decide +kernel) (by decide +kernel) hEX hZX hP hD hS hl.1 hml htab dX5_judge_28 dX5_judge_31 dX5_judge_32 dX5_judge_34 dX5_judge_37 (Nat.le_of_ble_eq_true rfl) (Nat.le_of_ble_eq_true rfl) (Nat.le_of_ble_eq_true rfl) (Nat.le_of_ble_eq_true rfl) hlk (by have e9 : tJudge v0 v1 = 2 := (by unfold tJudge; rw [if_neg n1, if_pos (bi_n c_25)]); rw [e9]; first | done | rfl) (Nat.le_of_ble_eq_true rfl) (Nat.le_of_ble_eq_true rfl)
  · exact thS (cls := "java/lang/IndexOutOfBoundsException") (text := "judge is not 0 to 4") (is := 125) (ic := 57) (ik := 53) hx hb hl0 hown (by decide +kernel) hts (by decide +kernel) (by decide +kernel) (by decide +kernel) (by decide +kernel) hEX hZX hP hD hS hl.1 hml htab dX5_judge_9 dX5_judge_12 dX5_judge_13 dX5_judge_15 dX5_judge_18 (Nat.le_of_ble_eq_true rfl) (Nat.le_of_ble_eq_true rfl) (Nat.le_of_ble_eq_true rfl) (Nat.le_of_ble_eq_true rfl) hlk (by have e9 : tJudge v0 v1 = 1 := (by unfold tJudge; rw [if_pos (bi_n c_6)]); rw [e9]; first | done | rfl) (Nat.le_of_ble_eq_true rfl) (Nat.le_of_ble_eq_true rfl)
abbrev rm_kL_judge : Room := { frames := 2, cells := 0, slots := 0, locals := 45 }
set_option maxHeartbeats 4000000 in
set_option maxRecDepth 100000 in
theorem kL_judge (l : Launch) (D : va_G) (Y : Nat → ClassId) (sz : Nat) (x : Nat) (w : Nat) (pu : Nat) (h : Nat) (a : Nat) (j : Nat) (j1 : Nat) (u : Nat) (og9 : Nat) (st : fN) (og : Nat → Int64) (v0 : Int32) (v1 : Int32) (ht : tJudge v0 v1 = 0) : MI l yL_judge wsL_judge rm_kL_judge D Y [.ref x, .int v0, .int v1, .ref og9] sz [(x, .inr (5, [.ref w, .ref pu, .ref h, .ref a, .ref j, .ref u])), (j, .inr (2, [.ref j1])), (j1, .inl (Y 0, 5, .inl st)), (og9, .inl (Y 2, 1, .inr (.inl og)))] (0 : Int32) [(x, .inr (5, [.ref w, .ref pu, .ref h, .ref a, .ref j, .ref u])), (j, .inr (2, [.ref j1])), (j1, .inl (Y 0, 5, .inl (upd st (ix v0) v1))), (og9, .inl (Y 2, 1, .inr (.inl (fun _ => (st (ix v0)).toInt64))))] 0 0 := by
  refine pcW_startW (cc := cL_judge) (maxL := 5) (ret := (some .int)) (Qc := fun A => va_Qi (fun (r : Int32) (_ : Unit) => r = (0 : Int32)) (qW D A [(x, .inr (5, [.ref w, .ref pu, .ref h, .ref a, .ref j, .ref u])), (j, .inr (2, [.ref j1])), (j1, .inl (Y 0, 5, .inl (upd st (ix v0) v1))), (og9, .inl (Y 2, 1, .inr (.inl (fun _ => (st (ix v0)).toInt64))))]) A) (by decide) rfl (Nat.le_of_ble_eq_true rfl) ?_
  intro p e s m below meth c A ls hE hKN hA hP hD hl
  obtain ⟨hx, hb, hr, hml, hown, hts, hlk, hin⟩ := hE
  have hown : s.vm.findClass RL = some m.cls := hown
  have hS : va_S A s.heap s.heap [] := va_S.rf
  have hl : lv_has ls 5 [(0, .ref x), (1, .int v0), (2, .int v1), (3, .ref og9)] := hl
  refine lv_aload_n hx hb dL_judge_0 rfl (lv_at hl 3 rfl) ?_
  refine lv_iconst (v := (0 : Int32)) hx hb dL_judge_1 (by decide) ?_
  refine lv_aload_n hx hb dL_judge_2 rfl (lv_at hl 0 rfl) ?_
  refine lv_iload_n hx hb dL_judge_3 rfl (lv_at hl 1 rfl) ?_
  refine lv_iload_n hx hb dL_judge_4 rfl (lv_at hl 2 rfl) ?_
  refine cVi (As := [.int v0, .int v1]) (rest := [.int (0 : Int32), .ref og9]) (ws' := [(x, .inr (5, [.ref w, .ref pu, .ref h, .ref a, .ref j, .ref u])), (j, .inr (2, [.ref j1])), (j1, .inl (Y 0, 5, .inl (upd st (ix v0) v1))), (og9, .inl (Y 2, 1, .inr (.inl og)))]) ⟨hx, hb, hml, hown, hts⟩ (kX5_judge l D Y _ x w pu h a j j1 u st v0 v1 (by first | assumption | omega)) (cwV 2 hts gL_judge_X5_judge rfl rfl rfl (by decide +kernel) ⟨Nat.le_of_ble_eq_true rfl, Nat.le_of_ble_eq_true rfl⟩) hKN hP hD hS hA [0, 1, 2] [3] [1, 2, 3, 0] rfl (by decide) rfl rfl 0 5 rfl rfl rfl rfl hl.1 (Nat.le_of_ble_eq_true rfl) dL_judge_5 ⟨Nat.le_of_ble_eq_true rfl, Nat.le_of_ble_eq_true rfl⟩ (fun H locs hP hD hS => ?_)
  refine lv_i2l hx hb dL_judge_8 rfl ?_
  refine lst hx hb hKN.1 hP hD hS 3 2 rfl rfl 0 (by rfl) (by decide) (by first | decide | assumption | omega) dL_judge_9 (fun H locs hP hD hS => ?_)
  have hP : va_P D vwCl [(x, .inr (5, [.ref w, .ref pu, .ref h, .ref a, .ref j, .ref u])), (j, .inr (2, [.ref j1])), (j1, .inl (Y 0, 5, .inl (upd st (ix v0) v1))), (og9, .inl (Y 2, 1, .inr (.inl (vp_updL og 0 ((st (ix v0)).toInt64)))))] _ := hP
  have hD : va_D A [(x, .inr (5, [.ref w, .ref pu, .ref h, .ref a, .ref j, .ref u])), (j, .inr (2, [.ref j1])), (j1, .inl (Y 0, 5, .inl (upd st (ix v0) v1))), (og9, .inl (Y 2, 1, .inr (.inl (vp_updL og 0 ((st (ix v0)).toInt64)))))] := hD
  obtain ⟨hP, hD⟩ := va_nrmL hP hD 3 rfl (g := (fun _ => (st (ix v0)).toInt64)) (by exact outL _ _)
  have hP : va_P D vwCl [(x, .inr (5, [.ref w, .ref pu, .ref h, .ref a, .ref j, .ref u])), (j, .inr (2, [.ref j1])), (j1, .inl (Y 0, 5, .inl (upd st (ix v0) v1))), (og9, .inl (Y 2, 1, .inr (.inl (fun _ => (st (ix v0)).toInt64))))] _ := hP
  have hD : va_D A [(x, .inr (5, [.ref w, .ref pu, .ref h, .ref a, .ref j, .ref u])), (j, .inr (2, [.ref j1])), (j1, .inl (Y 0, 5, .inl (upd st (ix v0) v1))), (og9, .inl (Y 2, 1, .inr (.inl (fun _ => (st (ix v0)).toInt64))))] := hD
  refine lv_goto (tgt := 21) hx hb dL_judge_10 (by decide) ?_
  refine lv_iconst (v := (0 : Int32)) hx hb dL_judge_21 (by decide) ?_
  exact eI hx hb hr hlk hP hD hS (by rfl) (by rfl) (by exact Nat.le_of_ble_eq_true rfl) (by exact Nat.le_of_ble_eq_true rfl) dL_judge_22
abbrev rm_kL_judge_bad : Room := { frames := 7, cells := 1, slots := 6, locals := 105 }
set_option maxHeartbeats 4000000 in
set_option maxRecDepth 100000 in
theorem kL_judge_bad (l : Launch) (hl0 : l.stackTraces = false) (D : va_G) (Y : Nat → ClassId) (sz : Nat) (x : Nat) (w : Nat) (pu : Nat) (h : Nat) (a : Nat) (j : Nat) (j1 : Nat) (u : Nat) (og9 : Nat) (st : fN) (og : Nat → Int64) (v0 : Int32) (v1 : Int32) (ht : ¬ tJudge v0 v1 = 0) : MIX l yL_judge wsL_judge rm_kL_judge_bad D Y [.ref x, .int v0, .int v1, .ref og9] sz [(x, .inr (5, [.ref w, .ref pu, .ref h, .ref a, .ref j, .ref u])), (j, .inr (2, [.ref j1])), (j1, .inl (Y 0, 5, .inl st)), (og9, .inl (Y 2, 1, .inr (.inl og)))] (nI (tJudge v0 v1)) [(x, .inr (5, [.ref w, .ref pu, .ref h, .ref a, .ref j, .ref u])), (j, .inr (2, [.ref j1])), (j1, .inl (Y 0, 5, .inl st)), (og9, .inl (Y 2, 1, .inr (.inl og)))] 1 6 := by
  refine pcX_startW (cc := cL_judge) (maxL := 5) (ret := (some .int)) (Qc := fun A => va_Qi (fun (r : Int32) (_ : Unit) => r = (nI (tJudge v0 v1))) (qW D A [(x, .inr (5, [.ref w, .ref pu, .ref h, .ref a, .ref j, .ref u])), (j, .inr (2, [.ref j1])), (j1, .inl (Y 0, 5, .inl st)), (og9, .inl (Y 2, 1, .inr (.inl og)))]) A) (by decide) rfl (Nat.le_of_ble_eq_true rfl) ?_
  intro p e s m below meth c A ls hE hKN hA hP hD hl hEX hZX htab
  obtain ⟨hx, hb, hr, hml, hown, hts, hlk, hin⟩ := hE
  have hown : s.vm.findClass RL = some m.cls := hown
  have hS : va_S A s.heap s.heap [] := va_S.rf
  have hl : lv_has ls 5 [(0, .ref x), (1, .int v0), (2, .int v1), (3, .ref og9)] := hl
  refine lv_aload_n hx hb dL_judge_0 rfl (lv_at hl 3 rfl) ?_
  refine lv_iconst (v := (0 : Int32)) hx hb dL_judge_1 (by decide) ?_
  refine lv_aload_n hx hb dL_judge_2 rfl (lv_at hl 0 rfl) ?_
  refine lv_iload_n hx hb dL_judge_3 rfl (lv_at hl 1 rfl) ?_
  refine lv_iload_n hx hb dL_judge_4 rfl (lv_at hl 2 rfl) ?_
  refine cXV (As := [.int v0, .int v1]) (rest := [.int (0 : Int32), .ref og9]) ⟨hx, hb, hml, hown, hts⟩ (kX5_judge_bad l hl0 D Y _ x w pu h a j j1 u st v0 v1 (by first | assumption | omega)) (cwV 2 hts gL_judge_X5_judge rfl rfl rfl (by decide +kernel) ⟨Nat.le_of_ble_eq_true rfl, Nat.le_of_ble_eq_true rfl⟩) hKN hEX hZX hP hD hS hA [0, 1, 2] [3] [1, 2, 3, 0] rfl (by decide) rfl rfl 0 5 rfl rfl rfl rfl hl.1 (Nat.le_of_ble_eq_true rfl) dL_judge_5 ⟨Nat.le_of_ble_eq_true rfl, Nat.le_of_ble_eq_true rfl⟩ (fun ce q9 H locs hP hD hS hq9 hv9 hcl => ?_)
  rcases tJudge_n ht with e9 | e9
  · rw [e9] at hcl
    refine vx_catch (E := "java/lang/IndexOutOfBoundsException") (name := "java/lang/IndexOutOfBoundsException") hown [] ⟨0, 10, 13, 13⟩ [⟨0, 10, 17, 15⟩] htab (fun z hz => absurd hz List.not_mem_nil) (by decide) (by decide) (hts (.classLink RL 13 "java/lang/IndexOutOfBoundsException") (by decide +kernel)) (va_Nw.use (exW_tab _ (by decide +kernel)) (hEX.1 (.castable "java/lang/IndexOutOfBoundsException" "java/lang/IndexOutOfBoundsException") (by decide +kernel))) hq9 hv9 hcl ?_
    refine lv_astore (lv' := [(4, .ref q9), (0, .ref x), (1, .int v0), (2, .int v1), (3, .ref og9)]) hx hb dL_judge_13 hl (by decide) rfl (fun ls hl => ?_)
    refine lv_iconst (v := (1 : Int32)) hx hb dL_judge_15 (by decide) ?_
    exact eI hx hb hr hlk hP hD hS (by rfl) (by rw [e9]; first | done | rfl) (by exact Nat.le_of_ble_eq_true rfl) (by exact Nat.le_of_ble_eq_true rfl) dL_judge_16
  · rw [e9] at hcl
    refine vx_catch (E := "java/lang/IllegalArgumentException") (name := "java/lang/IllegalArgumentException") hown [⟨0, 10, 13, 13⟩] ⟨0, 10, 17, 15⟩ [] htab (List.forall_mem_cons.mpr ⟨Or.inr ⟨by decide, "java/lang/IndexOutOfBoundsException", hts (.classLink RL 13 "java/lang/IndexOutOfBoundsException") (by decide +kernel), hEX.2.2 ("java/lang/IllegalArgumentException", "java/lang/IndexOutOfBoundsException") (by decide)⟩, fun z hz => absurd hz List.not_mem_nil⟩) (by decide) (by decide) (hts (.classLink RL 15 "java/lang/IllegalArgumentException") (by decide +kernel)) (va_Nw.use (exW_tab _ (by decide +kernel)) (hEX.1 (.castable "java/lang/IllegalArgumentException" "java/lang/IllegalArgumentException") (by decide +kernel))) hq9 hv9 hcl ?_
    refine lv_astore (lv' := [(4, .ref q9), (0, .ref x), (1, .int v0), (2, .int v1), (3, .ref og9)]) hx hb dL_judge_17 hl (by decide) rfl (fun ls hl => ?_)
    refine lv_iconst (v := (2 : Int32)) hx hb dL_judge_19 (by decide) ?_
    exact eI hx hb hr hlk hP hD hS (by rfl) (by rw [e9]; first | done | rfl) (by exact Nat.le_of_ble_eq_true rfl) (by exact Nat.le_of_ble_eq_true rfl) dL_judge_20
