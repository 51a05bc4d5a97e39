abbrev rm_kX5_setWeather : Room := { frames := 1, cells := 0, slots := 0, locals := 22 }
set_option maxHeartbeats 4000000 in
set_option maxRecDepth 100000 in
theorem kX5_setWeather (l : Launch) (D : va_G) (Y : Nat → ClassId) (sz : Nat) (x : Nat) (w : Nat) (w1 : Nat) (w2 : Nat) (w3 : Nat) (pu : Nat) (h : Nat) (a : Nat) (j : Nat) (u : Nat) (wa : fN) (da : fN) (gu : fN) (v0 : Int32) (v1 : Int32) (v2 : Int32) (v3 : Int32) (ht : tSetW v0 v1 v2 v3 = 0) : MI l yX5_setWeather wsX5_setWeather rm_kX5_setWeather D Y [.ref x, .int v0, .int v1, .int v2, .int v3] sz [(x, .inr (5, [.ref w, .ref pu, .ref h, .ref a, .ref j, .ref u])), (w, .inr (4, [.ref w1, .ref w2, .ref w3])), (w1, .inl (Y 0, 24, .inl wa)), (w2, .inl (Y 0, 24, .inl da)), (w3, .inl (Y 0, 24, .inl gu))] (wetU (upd wa (ix v0) v1) (upd da (ix v0) v2) (ix v0)) [(x, .inr (5, [.ref w, .ref pu, .ref h, .ref a, .ref j, .ref u])), (w, .inr (4, [.ref w1, .ref w2, .ref w3])), (w1, .inl (Y 0, 24, .inl (upd wa (ix v0) v1))), (w2, .inl (Y 0, 24, .inl (upd da (ix v0) v2))), (w3, .inl (Y 0, 24, .inl (upd gu (ix v0) v3)))] 0 0 := by
  refine pcW_start (cc := cX5_setWeather) (maxL := 5) (ret := (some .int)) (Qc := fun A => va_Qi (fun (r : Int32) (_ : Unit) => r = (wetU (upd wa (ix v0) v1) (upd da (ix v0) v2) (ix v0))) (qW D A [(x, .inr (5, [.ref w, .ref pu, .ref h, .ref a, .ref j, .ref u])), (w, .inr (4, [.ref w1, .ref w2, .ref w3])), (w1, .inl (Y 0, 24, .inl (upd wa (ix v0) v1))), (w2, .inl (Y 0, 24, .inl (upd da (ix v0) v2))), (w3, .inl (Y 0, 24, .inl (upd gu (ix v0) v3)))]) A) (by decide) rfl (Nat.le_of_ble_eq_true rfl) ?_
  intro p e s m below meth c A ls hE hKN hA hP hD hl
  obtain ⟨hx, hb, hr, hml, hown, hts, hlk, hin⟩ := hE
  have hown : s.vm.findClass RX5 = some m.cls := hown
  have hS : va_S A s.heap s.heap [] := va_S.rf
  have hi4 : ∀ w ∈ wsX40, w ∈ wsX5_setWeather := by decide +kernel
  have hi5 : ∀ w ∈ wsX50, w ∈ wsX5_setWeather := by decide +kernel
  have hl : lv_has ls 5 [(0, .ref x), (1, .int v0), (2, .int v1), (3, .int v2), (4, .int v3)] := hl
  have n0 := tSetW_0 ht
  obtain ⟨n1, n2, n3, n4⟩ := n0
  obtain ⟨e1, b1⟩ := rng (x := v0) (n := 23) (by decide) n1
  refine lv_iload_n hx hb dX5_setWeather_0 rfl (lv_at hl 1 rfl) ?_
  refine lv_iconst (v := (0 : Int32)) hx hb dX5_setWeather_1 (by decide) ?_
  refine lv_bipush (v := (23 : Int32)) hx hb dX5_setWeather_2 (by decide) ?_
  refine cSi (As := [.int v0, .int (0 : Int32), .int (23 : Int32)]) (rest := []) (ws' := [(x, .inr (5, [.ref w, .ref pu, .ref h, .ref a, .ref j, .ref u])), (w, .inr (4, [.ref w1, .ref w2, .ref w3])), (w1, .inl (Y 0, 24, .inl wa)), (w2, .inl (Y 0, 24, .inl da)), (w3, .inl (Y 0, 24, .inl gu))]) ⟨hx, hb, hml, hown, hts⟩ (kX5_isOutside l D Y _ v0 (0 : Int32) (23 : Int32) ) (va_cwS 3 hts gX5_setWeather_X5_isOutside rfl rfl rfl (by decide +kernel) ⟨Nat.le_of_ble_eq_true rfl, Nat.le_of_ble_eq_true rfl⟩) hKN hP hD hS hA [] [0, 1, 2, 3, 4] [0, 1, 2, 3, 4] rfl (by decide) rfl rfl rfl rfl hl.1 (Nat.le_of_ble_eq_true rfl) dX5_setWeather_4 ⟨Nat.le_of_ble_eq_true rfl, Nat.le_of_ble_eq_true rfl⟩ (fun H locs hP hD hS => ?_)
  refine lv_eqi (y := (0 : Int32)) (by exact bi_f n1) ?_
  refine lv_if_eq (tgt := 20) hx hb dX5_setWeather_7 (by decide) (fun c_7 => ?_) (fun c_7 => by exfalso; revert c_7; decide)
  refine lv_iload_n hx hb dX5_setWeather_20 rfl (lv_at hl 2 rfl) ?_
  refine lv_bipush (v := (-30 : Int32)) hx hb dX5_setWeather_21 (by decide) ?_
  refine lv_bipush (v := (20 : Int32)) hx hb dX5_setWeather_23 (by decide) ?_
  refine cSi (As := [.int v1, .int (-30 : Int32), .int (20 : Int32)]) (rest := []) (ws' := [(x, .inr (5, [.ref w, .ref pu, .ref h, .ref a, .ref j, .ref u])), (w, .inr (4, [.ref w1, .ref w2, .ref w3])), (w1, .inl (Y 0, 24, .inl wa)), (w2, .inl (Y 0, 24, .inl da)), (w3, .inl (Y 0, 24, .inl gu))]) ⟨hx, hb, hml, hown, hts⟩ (kX5_isOutside l D Y _ v1 (-30 : Int32) (20 : Int32) ) (va_cwS 3 hts gX5_setWeather_X5_isOutside rfl rfl rfl (by decide +kernel) ⟨Nat.le_of_ble_eq_true rfl, Nat.le_of_ble_eq_true rfl⟩) hKN hP hD hS hA [] [0, 1, 2, 3, 4] [0, 1, 2, 3, 4] rfl (by decide) rfl rfl rfl rfl hl.1 (Nat.le_of_ble_eq_true rfl) dX5_setWeather_25 ⟨Nat.le_of_ble_eq_true rfl, Nat.le_of_ble_eq_true rfl⟩ (fun H locs hP hD hS => ?_)
  refine lv_eqi (y := (0 : Int32)) (by exact bi_f n2) ?_
  refine lv_if_eq (tgt := 41) hx hb dX5_setWeather_28 (by decide) (fun c_28 => ?_) (fun c_28 => by exfalso; revert c_28; decide)
  refine lv_iload_n hx hb dX5_setWeather_41 rfl (lv_at hl 3 rfl) ?_
  refine lv_iconst (v := (0 : Int32)) hx hb dX5_setWeather_42 (by decide) ?_
  refine lv_bipush (v := (100 : Int32)) hx hb dX5_setWeather_43 (by decide) ?_
  refine cSi (As := [.int v2, .int (0 : Int32), .int (100 : Int32)]) (rest := []) (ws' := [(x, .inr (5, [.ref w, .ref pu, .ref h, .ref a, .ref j, .ref u])), (w, .inr (4, [.ref w1, .ref w2, .ref w3])), (w1, .inl (Y 0, 24, .inl wa)), (w2, .inl (Y 0, 24, .inl da)), (w3, .inl (Y 0, 24, .inl gu))]) ⟨hx, hb, hml, hown, hts⟩ (kX5_isOutside l D Y _ v2 (0 : Int32) (100 : Int32) ) (va_cwS 3 hts gX5_setWeather_X5_isOutside rfl rfl rfl (by decide +kernel) ⟨Nat.le_of_ble_eq_true rfl, Nat.le_of_ble_eq_true rfl⟩) hKN hP hD hS hA [] [0, 1, 2, 3, 4] [0, 1, 2, 3, 4] rfl (by decide) rfl rfl rfl rfl hl.1 (Nat.le_of_ble_eq_true rfl) dX5_setWeather_45 ⟨Nat.le_of_ble_eq_true rfl, Nat.le_of_ble_eq_true rfl⟩ (fun H locs hP hD hS => ?_)
  refine lv_eqi (y := (0 : Int32)) (by exact bi_f n3) ?_
  refine lv_if_eq (tgt := 61) hx hb dX5_setWeather_48 (by decide) (fun c_48 => ?_) (fun c_48 => by exfalso; revert c_48; decide)
  refine lv_iload hx hb dX5_setWeather_61 (lv_at hl 4 rfl) ?_
  refine lv_bipush (v := (-9 : Int32)) hx hb dX5_setWeather_63 (by decide) ?_
  refine lv_bipush (v := (9 : Int32)) hx hb dX5_setWeather_65 (by decide) ?_
  refine cSi (As := [.int v3, .int (-9 : Int32), .int (9 : Int32)]) (rest := []) (ws' := [(x, .inr (5, [.ref w, .ref pu, .ref h, .ref a, .ref j, .ref u])), (w, .inr (4, [.ref w1, .ref w2, .ref w3])), (w1, .inl (Y 0, 24, .inl wa)), (w2, .inl (Y 0, 24, .inl da)), (w3, .inl (Y 0, 24, .inl gu))]) ⟨hx, hb, hml, hown, hts⟩ (kX5_isOutside l D Y _ v3 (-9 : Int32) (9 : Int32) ) (va_cwS 3 hts gX5_setWeather_X5_isOutside rfl rfl rfl (by decide +kernel) ⟨Nat.le_of_ble_eq_true rfl, Nat.le_of_ble_eq_true rfl⟩) hKN hP hD hS hA [] [0, 1, 2, 3, 4] [0, 1, 2, 3, 4] rfl (by decide) rfl rfl rfl rfl hl.1 (Nat.le_of_ble_eq_true rfl) dX5_setWeather_67 ⟨Nat.le_of_ble_eq_true rfl, Nat.le_of_ble_eq_true rfl⟩ (fun H locs hP hD hS => ?_)
  refine lv_eqi (y := (0 : Int32)) (by exact bi_f n4) ?_
  refine lv_if_eq (tgt := 83) hx hb dX5_setWeather_70 (by decide) (fun c_70 => ?_) (fun c_70 => by exfalso; revert c_70; decide)
  have ec_1 : v0 = (nI (ix v0)) := by exact e1
  have hl : lv_has ls 5 [(0, .ref x), (1, .int (nI (ix v0))), (2, .int v1), (3, .int v2), (4, .int v3)] := (congrArg (fun zz9 => lv_has ls 5 [(0, .ref x), (1, .int zz9), (2, .int v1), (3, .int v2), (4, .int v3)]) ec_1).mp hl
  refine lv_aload_n hx hb dX5_setWeather_83 rfl (lv_at hl 0 rfl) ?_
  refine va_get (D := D) (ci := 5) (v := .ref w) (C := RX5) (T := TX5) (N := 6) hx hb hts hi5 hown hKN.1 hP 0 rfl rfl 0 (by decide) (hts (.fieldLink RX5 10 "SnowPumps" "weather" "LSnowPumps$Weather;") (by decide +kernel)) (fun _ h9 => h9) rfl dX5_setWeather_84 ?_
  refine va_get (D := D) (ci := 4) (v := .ref w1) (C := RX4) (T := TX4) (N := 3) hx hb hts hi4 hown hKN.1 hP 1 rfl rfl 0 (by decide) (hts (.fieldLink RX5 69 "SnowPumps$Weather" "warmth" "[I") (by decide +kernel)) (fun _ h9 => h9) rfl dX5_setWeather_87 ?_
  refine lv_iload_n hx hb dX5_setWeather_90 rfl (lv_at hl 1 rfl) ?_
  refine lv_iload_n hx hb dX5_setWeather_91 rfl (lv_at hl 2 rfl) ?_
  refine is hx hb hKN.1 hP hD hS 2 0 rfl rfl (ix v0) (by rfl) (by omega) (by first | decide | assumption | omega) dX5_setWeather_92 (fun H locs hP hD hS => ?_)
  have hP : va_P D vwCl [(x, .inr (5, [.ref w, .ref pu, .ref h, .ref a, .ref j, .ref u])), (w, .inr (4, [.ref w1, .ref w2, .ref w3])), (w1, .inl (Y 0, 24, .inl (upd wa (ix v0) v1))), (w2, .inl (Y 0, 24, .inl da)), (w3, .inl (Y 0, 24, .inl gu))] _ := hP
  have hD : va_D A [(x, .inr (5, [.ref w, .ref pu, .ref h, .ref a, .ref j, .ref u])), (w, .inr (4, [.ref w1, .ref w2, .ref w3])), (w1, .inl (Y 0, 24, .inl (upd wa (ix v0) v1))), (w2, .inl (Y 0, 24, .inl da)), (w3, .inl (Y 0, 24, .inl gu))] := hD
  refine lv_aload_n hx hb dX5_setWeather_93 rfl (lv_at hl 0 rfl) ?_
  refine va_get (D := D) (ci := 5) (v := .ref w) (C := RX5) (T := TX5) (N := 6) hx hb hts hi5 hown hKN.1 hP 0 rfl rfl 0 (by decide) (hts (.fieldLink RX5 10 "SnowPumps" "weather" "LSnowPumps$Weather;") (by decide +kernel)) (fun _ h9 => h9) rfl dX5_setWeather_94 ?_
  refine va_get (D := D) (ci := 4) (v := .ref w2) (C := RX4) (T := TX4) (N := 3) hx hb hts hi4 hown hKN.1 hP 1 rfl rfl 1 (by decide) (hts (.fieldLink RX5 73 "SnowPumps$Weather" "damp" "[I") (by decide +kernel)) (fun _ h9 => h9) rfl dX5_setWeather_97 ?_
  refine lv_iload_n hx hb dX5_setWeather_100 rfl (lv_at hl 1 rfl) ?_
  refine lv_iload_n hx hb dX5_setWeather_101 rfl (lv_at hl 3 rfl) ?_
  refine is hx hb hKN.1 hP hD hS 3 0 rfl rfl (ix v0) (by rfl) (by omega) (by first | decide | assumption | omega) dX5_setWeather_102 (fun H locs hP hD hS => ?_)
  have hP : va_P D vwCl [(x, .inr (5, [.ref w, .ref pu, .ref h, .ref a, .ref j, .ref u])), (w, .inr (4, [.ref w1, .ref w2, .ref w3])), (w1, .inl (Y 0, 24, .inl (upd wa (ix v0) v1))), (w2, .inl (Y 0, 24, .inl (upd da (ix v0) v2))), (w3, .inl (Y 0, 24, .inl gu))] _ := hP
  have hD : va_D A [(x, .inr (5, [.ref w, .ref pu, .ref h, .ref a, .ref j, .ref u])), (w, .inr (4, [.ref w1, .ref w2, .ref w3])), (w1, .inl (Y 0, 24, .inl (upd wa (ix v0) v1))), (w2, .inl (Y 0, 24, .inl (upd da (ix v0) v2))), (w3, .inl (Y 0, 24, .inl gu))] := hD
  refine lv_aload_n hx hb dX5_setWeather_103 rfl (lv_at hl 0 rfl) ?_
  refine va_get (D := D) (ci := 5) (v := .ref w) (C := RX5) (T := TX5) (N := 6) hx hb hts hi5 hown hKN.1 hP 0 rfl rfl 0 (by decide) (hts (.fieldLink RX5 10 "SnowPumps" "weather" "LSnowPumps$Weather;") (by decide +kernel)) (fun _ h9 => h9) rfl dX5_setWeather_104 ?_
  refine va_get (D := D) (ci := 4) (v := .ref w3) (C := RX4) (T := TX4) (N := 3) hx hb hts hi4 hown hKN.1 hP 1 rfl rfl 2 (by decide) (hts (.fieldLink RX5 76 "SnowPumps$Weather" "gust" "[I") (by decide +kernel)) (fun _ h9 => h9) rfl dX5_setWeather_107 ?_
  refine lv_iload_n hx hb dX5_setWeather_110 rfl (lv_at hl 1 rfl) ?_
  refine lv_iload hx hb dX5_setWeather_111 (lv_at hl 4 rfl) ?_
  refine is hx hb hKN.1 hP hD hS 4 0 rfl rfl (ix v0) (by rfl) (by omega) (by first | decide | assumption | omega) dX5_setWeather_113 (fun H locs hP hD hS => ?_)
  have hP : va_P D vwCl [(x, .inr (5, [.ref w, .ref pu, .ref h, .ref a, .ref j, .ref u])), (w, .inr (4, [.ref w1, .ref w2, .ref w3])), (w1, .inl (Y 0, 24, .inl (upd wa (ix v0) v1))), (w2, .inl (Y 0, 24, .inl (upd da (ix v0) v2))), (w3, .inl (Y 0, 24, .inl (upd gu (ix v0) v3)))] _ := hP
  have hD : va_D A [(x, .inr (5, [.ref w, .ref pu, .ref h, .ref a, .ref j, .ref u])), (w, .inr (4, [.ref w1, .ref w2, .ref w3])), (w1, .inl (Y 0, 24, .inl (upd wa (ix v0) v1))), (w2, .inl (Y 0, 24, .inl (upd da (ix v0) v2))), (w3, .inl (Y 0, 24, .inl (upd gu (ix v0) v3)))] := hD
  refine lv_aload_n hx hb dX5_setWeather_114 rfl (lv_at hl 0 rfl) ?_
  refine va_get (D := D) (ci := 5) (v := .ref w) (C := RX5) (T := TX5) (N := 6) hx hb hts hi5 hown hKN.1 hP 0 rfl rfl 0 (by decide) (hts (.fieldLink RX5 10 "SnowPumps" "weather" "LSnowPumps$Weather;") (by decide +kernel)) (fun _ h9 => h9) rfl dX5_setWeather_115 ?_
  refine lv_iload_n hx hb dX5_setWeather_118 rfl (lv_at hl 1 rfl) ?_
  refine cVi (As := [.int (nI (ix v0))]) (rest := []) (ws' := [(x, .inr (5, [.ref w, .ref pu, .ref h, .ref a, .ref j, .ref u])), (w, .inr (4, [.ref w1, .ref w2, .ref w3])), (w1, .inl (Y 0, 24, .inl (upd wa (ix v0) v1))), (w2, .inl (Y 0, 24, .inl (upd da (ix v0) v2))), (w3, .inl (Y 0, 24, .inl (upd gu (ix v0) v3)))]) ⟨hx, hb, hml, hown, hts⟩ (kX4_wetCold l D Y _ w w1 w2 w3 (upd wa (ix v0) v1) (upd da (ix v0) v2) (upd gu (ix v0) v3) (ix v0) (by first | assumption | omega)) (cwV 1 hts gX5_setWeather_X4_wetCold rfl rfl rfl (by decide +kernel) ⟨Nat.le_of_ble_eq_true rfl, Nat.le_of_ble_eq_true rfl⟩) hKN hP hD hS hA [1, 2, 3, 4] [0] [0, 1, 2, 3, 4] rfl (by decide) rfl rfl 1 4 rfl rfl rfl rfl hl.1 (Nat.le_of_ble_eq_true rfl) dX5_setWeather_119 ⟨Nat.le_of_ble_eq_true rfl, Nat.le_of_ble_eq_true rfl⟩ (fun H locs hP hD hS => ?_)
  exact eI hx hb hr hlk hP hD hS (by rfl) (by rfl) (by exact Nat.le_of_ble_eq_true rfl) (by exact Nat.le_of_ble_eq_true rfl) dX5_setWeather_122
abbrev rm_kX5_fill : Room := { frames := 1, cells := 0, slots := 0, locals := 22 }
set_option maxHeartbeats 4000000 in
set_option maxRecDepth 100000 in
theorem kX5_fill (l : Launch) (D : va_G) (Y : Nat → ClassId) (sz : Nat) (x : Nat) (w : Nat) (pu : Nat) (h : Nat) (h1 : Nat) (h2 : Nat) (h3 : Nat) (a : Nat) (j : Nat) (u : Nat) (wt : Int32) (tm : Nat) (v0 : Int32) (ht : tFill v0 = 0) : MI l yX5_fill wsX5_fill rm_kX5_fill D Y [.ref x, .int v0] sz [(x, .inr (5, [.ref w, .ref pu, .ref h, .ref a, .ref j, .ref u])), (h, .inr (0, [.ref w, .ref pu, .ref h1, .ref h2, .ref h3, .int wt, .int (nI tm)]))] (mnI (wt + v0) 9999) [(x, .inr (5, [.ref w, .ref pu, .ref h, .ref a, .ref j, .ref u])), (h, .inr (0, [.ref w, .ref pu, .ref h1, .ref h2, .ref h3, .int (mnI (wt + v0) 9999), .int (nI tm)]))] 0 0 := by
  refine pcW_start (cc := cX5_fill) (maxL := 2) (ret := (some .int)) (Qc := fun A => va_Qi (fun (r : Int32) (_ : Unit) => r = (mnI (wt + v0) 9999)) (qW D A [(x, .inr (5, [.ref w, .ref pu, .ref h, .ref a, .ref j, .ref u])), (h, .inr (0, [.ref w, .ref pu, .ref h1, .ref h2, .ref h3, .int (mnI (wt + v0) 9999), .int (nI tm)]))]) A) (by decide) rfl (Nat.le_of_ble_eq_true rfl) ?_
  intro p e s m below meth c A ls hE hKN hA hP hD hl
  obtain ⟨hx, hb, hr, hml, hown, hts, hlk, hin⟩ := hE
  have hown : s.vm.findClass RX5 = some m.cls := hown
  have hS : va_S A s.heap s.heap [] := va_S.rf
  have hi0 : ∀ w ∈ wsX00, w ∈ wsX5_fill := by decide +kernel
  have hi5 : ∀ w ∈ wsX50, w ∈ wsX5_fill := by decide +kernel
  have hl : lv_has ls 2 [(0, .ref x), (1, .int v0)] := hl
  have n1 := tFill_0 ht
  refine lv_iload_n hx hb dX5_fill_0 rfl (lv_at hl 1 rfl) ?_
  refine lv_iconst (v := (1 : Int32)) hx hb dX5_fill_1 (by decide) ?_
  refine lv_sipush (v := (9999 : Int32)) hx hb dX5_fill_2 (by decide) ?_
  refine cSi (As := [.int v0, .int (1 : Int32), .int (9999 : Int32)]) (rest := []) (ws' := [(x, .inr (5, [.ref w, .ref pu, .ref h, .ref a, .ref j, .ref u])), (h, .inr (0, [.ref w, .ref pu, .ref h1, .ref h2, .ref h3, .int wt, .int (nI tm)]))]) ⟨hx, hb, hml, hown, hts⟩ (kX5_isOutside l D Y _ v0 (1 : Int32) (9999 : Int32) ) (va_cwS 3 hts gX5_fill_X5_isOutside rfl rfl rfl (by decide +kernel) ⟨Nat.le_of_ble_eq_true rfl, Nat.le_of_ble_eq_true rfl⟩) hKN hP hD hS hA [] [0, 1] [0, 1] rfl (by decide) rfl rfl rfl rfl hl.1 (Nat.le_of_ble_eq_true rfl) dX5_fill_5 ⟨Nat.le_of_ble_eq_true rfl, Nat.le_of_ble_eq_true rfl⟩ (fun H locs hP hD hS => ?_)
  refine lv_eqi (y := (0 : Int32)) (by exact bi_f n1) ?_
  refine lv_if_eq (tgt := 21) hx hb dX5_fill_8 (by decide) (fun c_8 => ?_) (fun c_8 => by exfalso; revert c_8; decide)
  refine lv_aload_n hx hb dX5_fill_21 rfl (lv_at hl 0 rfl) ?_
  refine va_get (D := D) (ci := 5) (v := .ref h) (C := RX5) (T := TX5) (N := 6) hx hb hts hi5 hown hKN.1 hP 0 rfl rfl 2 (by decide) (hts (.fieldLink RX5 28 "SnowPumps" "hill" "LSnowPumps$Hill;") (by decide +kernel)) (fun _ h9 => h9) rfl dX5_fill_22 ?_
  refine lv_aload_n hx hb dX5_fill_25 rfl (lv_at hl 0 rfl) ?_
  refine va_get (D := D) (ci := 5) (v := .ref h) (C := RX5) (T := TX5) (N := 6) hx hb hts hi5 hown hKN.1 hP 0 rfl rfl 2 (by decide) (hts (.fieldLink RX5 28 "SnowPumps" "hill" "LSnowPumps$Hill;") (by decide +kernel)) (fun _ h9 => h9) rfl dX5_fill_26 ?_
  refine va_get (D := D) (ci := 0) (v := .int wt) (C := RX0) (T := TX0) (N := 7) hx hb hts hi0 hown hKN.1 hP 1 rfl rfl 5 (by decide) (hts (.fieldLink RX5 108 "SnowPumps$Hill" "water" "I") (by decide +kernel)) (fun _ h9 => h9) rfl dX5_fill_29 ?_
  refine lv_iload_n hx hb dX5_fill_32 rfl (lv_at hl 1 rfl) ?_
  refine lv_iadd hx hb dX5_fill_33 ?_
  refine lv_sipush (v := (9999 : Int32)) hx hb dX5_fill_34 (by decide) ?_
  refine va_mmin hx hb (hml.trans hl.1.symm) hown (hts (.methodLink RX5 111 Lib.Math.min.name) (by decide +kernel)) (hts (.static Lib.Math.min.name) (by decide +kernel)) (hts (.initialized "java/lang/Math") (by decide +kernel)) (hts (.code Lib.Math.min.name Lib.Math.min.code 2 (some .int)) (by decide +kernel)) (Nat.le_of_ble_eq_true rfl) (Nat.le_of_ble_eq_true rfl) (by exact Nat.le_of_ble_eq_true rfl) (by exact Nat.le_of_ble_eq_true rfl) dX5_fill_37 ?_
  refine lv_eqi (y := mnI (wt + v0) (9999 : Int32)) rfl ?_
  refine va_put (D := D) (ci := 0) (v := .int (mnI (wt + v0) (9999 : Int32))) (ty := .int) (C := RX0) (T := TX0) (N := 7) hx hb hts hi0 tyX0 tyX0_ok nmX0 hown hKN.1 hP hD hS 1 rfl rfl 5 (by decide) (hts (.fieldLink RX5 108 "SnowPumps$Hill" "water" "I") (by decide +kernel)) (fun _ h9 => h9) rfl (by decide +kernel) rfl rfl (Nat.le_of_ble_eq_true rfl) dX5_fill_40 (fun H locs hP hD hS => ?_)
  have hP : va_P D vwCl [(x, .inr (5, [.ref w, .ref pu, .ref h, .ref a, .ref j, .ref u])), (h, .inr (0, [.ref w, .ref pu, .ref h1, .ref h2, .ref h3, .int (mnI (wt + v0) (9999 : Int32)), .int (nI tm)]))] _ := hP
  have hD : va_D A [(x, .inr (5, [.ref w, .ref pu, .ref h, .ref a, .ref j, .ref u])), (h, .inr (0, [.ref w, .ref pu, .ref h1, .ref h2, .ref h3, .int (mnI (wt + v0) (9999 : Int32)), .int (nI tm)]))] := hD
  refine lv_aload_n hx hb dX5_fill_43 rfl (lv_at hl 0 rfl) ?_
  refine va_get (D := D) (ci := 5) (v := .ref h) (C := RX5) (T := TX5) (N := 6) hx hb hts hi5 hown hKN.1 hP 0 rfl rfl 2 (by decide) (hts (.fieldLink RX5 28 "SnowPumps" "hill" "LSnowPumps$Hill;") (by decide +kernel)) (fun _ h9 => h9) rfl dX5_fill_44 ?_
  refine va_get (D := D) (ci := 0) (v := .int (mnI (wt + v0) (9999 : Int32))) (C := RX0) (T := TX0) (N := 7) hx hb hts hi0 hown hKN.1 hP 1 rfl rfl 5 (by decide) (hts (.fieldLink RX5 108 "SnowPumps$Hill" "water" "I") (by decide +kernel)) (fun _ h9 => h9) rfl dX5_fill_47 ?_
  exact eI hx hb hr hlk hP hD hS (by rfl) (by rfl) (by exact Nat.le_of_ble_eq_true rfl) (by exact Nat.le_of_ble_eq_true rfl) dX5_fill_50
abbrev rm_kX5_judge : Room := { frames := 1, cells := 0, slots := 0, locals := 22 }
set_option maxHeartbeats 4000000 in
set_option maxRecDepth 100000 in
theorem kX5_judge (l : Launch) (D : va_G) (Y : Nat → ClassId) (sz : Nat) (x : Nat) (w : Nat) (pu : Nat) (h : Nat) (a : Nat) (j : Nat) (j1 : Nat) (u : Nat) (st : fN) (v0 : Int32) (v1 : Int32) (ht : tJudge v0 v1 = 0) : MI l yX5_judge wsX5_judge rm_kX5_judge D Y [.ref x, .int v0, .int v1] sz [(x, .inr (5, [.ref w, .ref pu, .ref h, .ref a, .ref j, .ref u])), (j, .inr (2, [.ref j1])), (j1, .inl (Y 0, 5, .inl st))] (st (ix v0)) [(x, .inr (5, [.ref w, .ref pu, .ref h, .ref a, .ref j, .ref u])), (j, .inr (2, [.ref j1])), (j1, .inl (Y 0, 5, .inl (upd st (ix v0) v1)))] 0 0 := by
  refine pcW_start (cc := cX5_judge) (maxL := 4) (ret := (some .int)) (Qc := fun A => va_Qi (fun (r : Int32) (_ : Unit) => r = (st (ix v0))) (qW D A [(x, .inr (5, [.ref w, .ref pu, .ref h, .ref a, .ref j, .ref u])), (j, .inr (2, [.ref j1])), (j1, .inl (Y 0, 5, .inl (upd st (ix v0) v1)))]) A) (by decide) rfl (Nat.le_of_ble_eq_true rfl) ?_
  intro p e s m below meth c A ls hE hKN hA hP hD hl
  obtain ⟨hx, hb, hr, hml, hown, hts, hlk, hin⟩ := hE
  have hown : s.vm.findClass RX5 = some m.cls := hown
  have hS : va_S A s.heap s.heap [] := va_S.rf
  have hi2 : ∀ w ∈ wsX20, w ∈ wsX5_judge := by decide +kernel
  have hi5 : ∀ w ∈ wsX50, w ∈ wsX5_judge := by decide +kernel
  have hl : lv_has ls 4 [(0, .ref x), (1, .int v0), (2, .int v1)] := hl
  have n0 := tJudge_0 ht
  obtain ⟨n1, n2⟩ := n0
  obtain ⟨e1, b1⟩ := rng (x := v0) (n := 4) (by decide) n1
  refine lv_iload_n hx hb dX5_judge_0 rfl (lv_at hl 1 rfl) ?_
  refine lv_iconst (v := (0 : Int32)) hx hb dX5_judge_1 (by decide) ?_
  refine lv_iconst (v := (4 : Int32)) hx hb dX5_judge_2 (by decide) ?_
  refine cSi (As := [.int v0, .int (0 : Int32), .int (4 : Int32)]) (rest := []) (ws' := [(x, .inr (5, [.ref w, .ref pu, .ref h, .ref a, .ref j, .ref u])), (j, .inr (2, [.ref j1])), (j1, .inl (Y 0, 5, .inl st))]) ⟨hx, hb, hml, hown, hts⟩ (kX5_isOutside l D Y _ v0 (0 : Int32) (4 : Int32) ) (va_cwS 3 hts gX5_judge_X5_isOutside rfl rfl rfl (by decide +kernel) ⟨Nat.le_of_ble_eq_true rfl, Nat.le_of_ble_eq_true rfl⟩) hKN hP hD hS hA [] [0, 1, 2] [0, 1, 2] rfl (by decide) rfl rfl rfl rfl hl.1 (Nat.le_of_ble_eq_true rfl) dX5_judge_3 ⟨Nat.le_of_ble_eq_true rfl, Nat.le_of_ble_eq_true rfl⟩ (fun H locs hP hD hS => ?_)
  refine lv_eqi (y := (0 : Int32)) (by exact bi_f n1) ?_
  refine lv_if_eq (tgt := 19) hx hb dX5_judge_6 (by decide) (fun c_6 => ?_) (fun c_6 => by exfalso; revert c_6; decide)
  refine lv_iload_n hx hb dX5_judge_19 rfl (lv_at hl 2 rfl) ?_
  refine lv_iconst (v := (0 : Int32)) hx hb dX5_judge_20 (by decide) ?_
  refine lv_iconst (v := (4 : Int32)) hx hb dX5_judge_21 (by decide) ?_
  refine cSi (As := [.int v1, .int (0 : Int32), .int (4 : Int32)]) (rest := []) (ws' := [(x, .inr (5, [.ref w, .ref pu, .ref h, .ref a, .ref j, .ref u])), (j, .inr (2, [.ref j1])), (j1, .inl (Y 0, 5, .inl st))]) ⟨hx, hb, hml, hown, hts⟩ (kX5_isOutside l D Y _ v1 (0 : Int32) (4 : Int32) ) (va_cwS 3 hts gX5_judge_X5_isOutside rfl rfl rfl (by decide +kernel) ⟨Nat.le_of_ble_eq_true rfl, Nat.le_of_ble_eq_true rfl⟩) hKN hP hD hS hA [] [0, 1, 2] [0, 1, 2] rfl (by decide) rfl rfl rfl rfl hl.1 (Nat.le_of_ble_eq_true rfl) dX5_judge_22 ⟨Nat.le_of_ble_eq_true rfl, Nat.le_of_ble_eq_true rfl⟩ (fun H locs hP hD hS => ?_)
  refine lv_eqi (y := (0 : Int32)) (by exact bi_f n2) ?_
  refine lv_if_eq (tgt := 38) hx hb dX5_judge_25 (by decide) (fun c_25 => ?_) (fun c_25 => by exfalso; revert c_25; decide)
  have ec_1 : v0 = (nI (ix v0)) := by exact e1
  have hl : lv_has ls 4 [(0, .ref x), (1, .int (nI (ix v0))), (2, .int v1)] := (congrArg (fun zz9 => lv_has ls 4 [(0, .ref x), (1, .int zz9), (2, .int v1)]) ec_1).mp hl
  refine lv_aload_n hx hb dX5_judge_38 rfl (lv_at hl 0 rfl) ?_
  refine va_get (D := D) (ci := 5) (v := .ref j) (C := RX5) (T := TX5) (N := 6) hx hb hts hi5 hown hKN.1 hP 0 rfl rfl 4 (by decide) (hts (.fieldLink RX5 38 "SnowPumps" "jury" "LSnowPumps$Jury;") (by decide +kernel)) (fun _ h9 => h9) rfl dX5_judge_39 ?_
  refine va_get (D := D) (ci := 2) (v := .ref j1) (C := RX2) (T := TX2) (N := 1) hx hb hts hi2 hown hKN.1 hP 1 rfl rfl 0 (by decide) (hts (.fieldLink RX5 129 "SnowPumps$Jury" "strict" "[I") (by decide +kernel)) (fun _ h9 => h9) rfl dX5_judge_42 ?_
  refine lv_iload_n hx hb dX5_judge_45 rfl (lv_at hl 1 rfl) ?_
  refine ia hx hb hKN.1 hP 2 0 rfl rfl (ix v0) (by rfl) (by omega) (by first | decide | assumption | omega) dX5_judge_46 ?_
  refine lv_istore_n (lv' := [(3, .int (st (ix v0))), (0, .ref x), (1, .int (nI (ix v0))), (2, .int v1)]) hx hb dX5_judge_47 rfl hl (by decide) rfl (fun ls hl => ?_)
  refine lv_aload_n hx hb dX5_judge_48 rfl (lv_at hl 1 rfl) ?_
  refine va_get (D := D) (ci := 5) (v := .ref j) (C := RX5) (T := TX5) (N := 6) hx hb hts hi5 hown hKN.1 hP 0 rfl rfl 4 (by decide) (hts (.fieldLink RX5 38 "SnowPumps" "jury" "LSnowPumps$Jury;") (by decide +kernel)) (fun _ h9 => h9) rfl dX5_judge_49 ?_
  refine va_get (D := D) (ci := 2) (v := .ref j1) (C := RX2) (T := TX2) (N := 1) hx hb hts hi2 hown hKN.1 hP 1 rfl rfl 0 (by decide) (hts (.fieldLink RX5 129 "SnowPumps$Jury" "strict" "[I") (by decide +kernel)) (fun _ h9 => h9) rfl dX5_judge_52 ?_
  refine lv_iload_n hx hb dX5_judge_55 rfl (lv_at hl 2 rfl) ?_
  refine lv_iload_n hx hb dX5_judge_56 rfl (lv_at hl 3 rfl) ?_
  refine is hx hb hKN.1 hP hD hS 2 0 rfl rfl (ix v0) (by rfl) (by omega) (by first | decide | assumption | omega) dX5_judge_57 (fun H locs hP hD hS => ?_)
  have hP : va_P D vwCl [(x, .inr (5, [.ref w, .ref pu, .ref h, .ref a, .ref j, .ref u])), (j, .inr (2, [.ref j1])), (j1, .inl (Y 0, 5, .inl (upd st (ix v0) v1)))] _ := hP
  have hD : va_D A [(x, .inr (5, [.ref w, .ref pu, .ref h, .ref a, .ref j, .ref u])), (j, .inr (2, [.ref j1])), (j1, .inl (Y 0, 5, .inl (upd st (ix v0) v1)))] := hD
  refine lv_iload_n hx hb dX5_judge_58 rfl (lv_at hl 0 rfl) ?_
  exact eI hx hb hr hlk hP hD hS (by rfl) (by rfl) (by exact Nat.le_of_ble_eq_true rfl) (by exact Nat.le_of_ble_eq_true rfl) dX5_judge_59
