abbrev rm_kX7_setWeather : Room := { frames := 1, cells := 0, slots := 0, locals := 22 }
set_option maxHeartbeats 4000000 in
set_option maxRecDepth 100000 in
theorem kX7_setWeather (l : Launch) (D : va_G) (Y : Nat → ClassId) (sz : Nat) (z : Nat) (z1 : Nat) (z2 : Nat) (z3 : Nat) (z4 : Nat) (z5 : Nat) (z6 : Nat) (z7 : Nat) (q : Nat) (r : Nat) (wa : fN) (da : fN) (gu : fN) (th : Int32) (np : Nat) (nj : Nat) (v0 : Int32) (v1 : Int32) (v2 : Int32) (v3 : Int32) (ht : tSetW v0 v1 v2 v3 = 0) : MI l yX7_setWeather wsX7_setWeather rm_kX7_setWeather D Y [.ref z, .int v0, .int v1, .int v2, .int v3] sz [(z, .inr (7, [.int th, .ref z1, .ref z2, .ref z3, .int (nI np), .ref z4, .ref z5, .ref z6, .int (nI nj), .ref z7, .ref q, .ref r])), (z1, .inl (Y 0, 24, .inl wa)), (z2, .inl (Y 0, 24, .inl da)), (z3, .inl (Y 0, 24, .inl gu))] (wetU (upd wa (ix v0) v1) (upd da (ix v0) v2) (ix v0)) [(z, .inr (7, [.int (0 : Int32), .ref z1, .ref z2, .ref z3, .int (nI np), .ref z4, .ref z5, .ref z6, .int (nI nj), .ref z7, .ref q, .ref r])), (z1, .inl (Y 0, 24, .inl (upd wa (ix v0) v1))), (z2, .inl (Y 0, 24, .inl (upd da (ix v0) v2))), (z3, .inl (Y 0, 24, .inl (upd gu (ix v0) v3)))] 0 0 := by
  refine pcW_start (cc := cX7_setWeather) (maxL := 5) (ret := (some .int)) (Qc := fun A => va_Qi (fun (r : Int32) (_ : Unit) => r = (wetU (upd wa (ix v0) v1) (upd da (ix v0) v2) (ix v0))) (qW D A [(z, .inr (7, [.int (0 : Int32), .ref z1, .ref z2, .ref z3, .int (nI np), .ref z4, .ref z5, .ref z6, .int (nI nj), .ref z7, .ref q, .ref r])), (z1, .inl (Y 0, 24, .inl (upd wa (ix v0) v1))), (z2, .inl (Y 0, 24, .inl (upd da (ix v0) v2))), (z3, .inl (Y 0, 24, .inl (upd gu (ix v0) v3)))]) A) (by decide) rfl (Nat.le_of_ble_eq_true rfl) ?_
  intro p e s m below meth c A ls hE hKN hA hP hD hl
  obtain ⟨hx, hb, hr, hml, hown, hts, hlk, hin⟩ := hE
  have hown : s.vm.findClass RX7 = some m.cls := hown
  have hS : va_S A s.heap s.heap [] := va_S.rf
  have hi7 : ∀ w ∈ wsX70, w ∈ wsX7_setWeather := by decide +kernel
  have hl : lv_has ls 5 [(0, .ref z), (1, .int v0), (2, .int v1), (3, .int v2), (4, .int v3)] := hl
  have n0 := tSetW_0 ht
  obtain ⟨n1, n2, n3, n4⟩ := n0
  obtain ⟨e1, b1⟩ := rng (x := v0) (n := 23) (by decide) n1
  refine lv_aload_n hx hb dX7_setWeather_0 rfl (lv_at hl 0 rfl) ?_
  refine lv_iconst (v := (0 : Int32)) hx hb dX7_setWeather_1 (by decide) ?_
  refine va_put (D := D) (ci := 7) (v := .int (0 : Int32)) (ty := .int) (C := RX7) (T := TX7) (N := 12) hx hb hts hi7 tyX7 tyX7_ok nmX7 hown hKN.1 hP hD hS 0 rfl rfl 0 (by decide) (hts (.fieldLink RX7 41 "SnowPumpsModel" "thrown" "I") (by decide +kernel)) (fun _ h9 => h9) rfl (by decide +kernel) rfl rfl (Nat.le_of_ble_eq_true rfl) dX7_setWeather_2 (fun H locs hP hD hS => ?_)
  have hP : va_P D vwCl [(z, .inr (7, [.int (0 : Int32), .ref z1, .ref z2, .ref z3, .int (nI np), .ref z4, .ref z5, .ref z6, .int (nI nj), .ref z7, .ref q, .ref r])), (z1, .inl (Y 0, 24, .inl wa)), (z2, .inl (Y 0, 24, .inl da)), (z3, .inl (Y 0, 24, .inl gu))] _ := hP
  have hD : va_D A [(z, .inr (7, [.int (0 : Int32), .ref z1, .ref z2, .ref z3, .int (nI np), .ref z4, .ref z5, .ref z6, .int (nI nj), .ref z7, .ref q, .ref r])), (z1, .inl (Y 0, 24, .inl wa)), (z2, .inl (Y 0, 24, .inl da)), (z3, .inl (Y 0, 24, .inl gu))] := hD
  refine lv_iload_n hx hb dX7_setWeather_5 rfl (lv_at hl 1 rfl) ?_
  refine lv_iconst (v := (0 : Int32)) hx hb dX7_setWeather_6 (by decide) ?_
  refine lv_bipush (v := (23 : Int32)) hx hb dX7_setWeather_7 (by decide) ?_
  refine cSi (As := [.int v0, .int (0 : Int32), .int (23 : Int32)]) (rest := []) (ws' := [(z, .inr (7, [.int (0 : Int32), .ref z1, .ref z2, .ref z3, .int (nI np), .ref z4, .ref z5, .ref z6, .int (nI nj), .ref z7, .ref q, .ref r])), (z1, .inl (Y 0, 24, .inl wa)), (z2, .inl (Y 0, 24, .inl da)), (z3, .inl (Y 0, 24, .inl gu))]) ⟨hx, hb, hml, hown, hts⟩ (kX7_isIn l D Y _ v0 (0 : Int32) (23 : Int32) ) (va_cwS 3 hts gX7_setWeather_X7_isIn rfl rfl rfl (by decide +kernel) ⟨Nat.le_of_ble_eq_true rfl, Nat.le_of_ble_eq_true rfl⟩) hKN hP hD hS hA [] [0, 1, 2, 3] [0, 1, 2, 3] rfl (by decide) rfl rfl rfl rfl hl.1 (Nat.le_of_ble_eq_true rfl) dX7_setWeather_9 ⟨Nat.le_of_ble_eq_true rfl, Nat.le_of_ble_eq_true rfl⟩ (fun H locs hP hD hS => ?_)
  refine lv_eqi (y := (1 : Int32)) (by exact bi_t n1) ?_
  refine lv_if_ne (tgt := 21) hx hb dX7_setWeather_12 (by decide) (fun c_12 => ?_) (fun c_12 => by exfalso; revert c_12; decide)
  refine lv_iload_n hx hb dX7_setWeather_21 rfl (lv_at hl 2 rfl) ?_
  refine lv_bipush (v := (-30 : Int32)) hx hb dX7_setWeather_22 (by decide) ?_
  refine lv_bipush (v := (20 : Int32)) hx hb dX7_setWeather_24 (by decide) ?_
  refine cSi (As := [.int v1, .int (-30 : Int32), .int (20 : Int32)]) (rest := []) (ws' := [(z, .inr (7, [.int (0 : Int32), .ref z1, .ref z2, .ref z3, .int (nI np), .ref z4, .ref z5, .ref z6, .int (nI nj), .ref z7, .ref q, .ref r])), (z1, .inl (Y 0, 24, .inl wa)), (z2, .inl (Y 0, 24, .inl da)), (z3, .inl (Y 0, 24, .inl gu))]) ⟨hx, hb, hml, hown, hts⟩ (kX7_isIn l D Y _ v1 (-30 : Int32) (20 : Int32) ) (va_cwS 3 hts gX7_setWeather_X7_isIn rfl rfl rfl (by decide +kernel) ⟨Nat.le_of_ble_eq_true rfl, Nat.le_of_ble_eq_true rfl⟩) hKN hP hD hS hA [] [0, 1, 2, 3] [0, 1, 2, 3] rfl (by decide) rfl rfl rfl rfl hl.1 (Nat.le_of_ble_eq_true rfl) dX7_setWeather_26 ⟨Nat.le_of_ble_eq_true rfl, Nat.le_of_ble_eq_true rfl⟩ (fun H locs hP hD hS => ?_)
  refine lv_eqi (y := (1 : Int32)) (by exact bi_t n2) ?_
  refine lv_if_eq (tgt := 54) hx hb dX7_setWeather_29 (by decide) (fun c_29 => by exfalso; revert c_29; decide) (fun c_29 => ?_)
  refine lv_iload_n hx hb dX7_setWeather_32 rfl (lv_at hl 3 rfl) ?_
  refine lv_iconst (v := (0 : Int32)) hx hb dX7_setWeather_33 (by decide) ?_
  refine lv_bipush (v := (100 : Int32)) hx hb dX7_setWeather_34 (by decide) ?_
  refine cSi (As := [.int v2, .int (0 : Int32), .int (100 : Int32)]) (rest := []) (ws' := [(z, .inr (7, [.int (0 : Int32), .ref z1, .ref z2, .ref z3, .int (nI np), .ref z4, .ref z5, .ref z6, .int (nI nj), .ref z7, .ref q, .ref r])), (z1, .inl (Y 0, 24, .inl wa)), (z2, .inl (Y 0, 24, .inl da)), (z3, .inl (Y 0, 24, .inl gu))]) ⟨hx, hb, hml, hown, hts⟩ (kX7_isIn l D Y _ v2 (0 : Int32) (100 : Int32) ) (va_cwS 3 hts gX7_setWeather_X7_isIn rfl rfl rfl (by decide +kernel) ⟨Nat.le_of_ble_eq_true rfl, Nat.le_of_ble_eq_true rfl⟩) hKN hP hD hS hA [] [0, 1, 2, 3] [0, 1, 2, 3] rfl (by decide) rfl rfl rfl rfl hl.1 (Nat.le_of_ble_eq_true rfl) dX7_setWeather_36 ⟨Nat.le_of_ble_eq_true rfl, Nat.le_of_ble_eq_true rfl⟩ (fun H locs hP hD hS => ?_)
  refine lv_eqi (y := (1 : Int32)) (by exact bi_t n3) ?_
  refine lv_if_eq (tgt := 54) hx hb dX7_setWeather_39 (by decide) (fun c_39 => by exfalso; revert c_39; decide) (fun c_39 => ?_)
  refine lv_iload hx hb dX7_setWeather_42 (lv_at hl 4 rfl) ?_
  refine lv_bipush (v := (-9 : Int32)) hx hb dX7_setWeather_44 (by decide) ?_
  refine lv_bipush (v := (9 : Int32)) hx hb dX7_setWeather_46 (by decide) ?_
  refine cSi (As := [.int v3, .int (-9 : Int32), .int (9 : Int32)]) (rest := []) (ws' := [(z, .inr (7, [.int (0 : Int32), .ref z1, .ref z2, .ref z3, .int (nI np), .ref z4, .ref z5, .ref z6, .int (nI nj), .ref z7, .ref q, .ref r])), (z1, .inl (Y 0, 24, .inl wa)), (z2, .inl (Y 0, 24, .inl da)), (z3, .inl (Y 0, 24, .inl gu))]) ⟨hx, hb, hml, hown, hts⟩ (kX7_isIn l D Y _ v3 (-9 : Int32) (9 : Int32) ) (va_cwS 3 hts gX7_setWeather_X7_isIn rfl rfl rfl (by decide +kernel) ⟨Nat.le_of_ble_eq_true rfl, Nat.le_of_ble_eq_true rfl⟩) hKN hP hD hS hA [] [0, 1, 2, 3] [0, 1, 2, 3] rfl (by decide) rfl rfl rfl rfl hl.1 (Nat.le_of_ble_eq_true rfl) dX7_setWeather_48 ⟨Nat.le_of_ble_eq_true rfl, Nat.le_of_ble_eq_true rfl⟩ (fun H locs hP hD hS => ?_)
  refine lv_eqi (y := (1 : Int32)) (by exact bi_t n4) ?_
  refine lv_if_ne (tgt := 60) hx hb dX7_setWeather_51 (by decide) (fun c_51 => ?_) (fun c_51 => by exfalso; revert c_51; decide)
  have ec_1 : v0 = (nI (ix v0)) := by exact e1
  have hl : lv_has ls 5 [(0, .ref z), (1, .int (nI (ix v0))), (2, .int v1), (3, .int v2), (4, .int v3)] := (congrArg (fun zz9 => lv_has ls 5 [(0, .ref z), (1, .int zz9), (2, .int v1), (3, .int v2), (4, .int v3)]) ec_1).mp hl
  refine lv_aload_n hx hb dX7_setWeather_60 rfl (lv_at hl 0 rfl) ?_
  refine va_get (D := D) (ci := 7) (v := .ref z1) (C := RX7) (T := TX7) (N := 12) hx hb hts hi7 hown hKN.1 hP 0 rfl rfl 1 (by decide) (hts (.fieldLink RX7 9 "SnowPumpsModel" "warmth" "[I") (by decide +kernel)) (fun _ h9 => h9) rfl dX7_setWeather_61 ?_
  refine lv_iload_n hx hb dX7_setWeather_64 rfl (lv_at hl 1 rfl) ?_
  refine lv_iload_n hx hb dX7_setWeather_65 rfl (lv_at hl 2 rfl) ?_
  refine is hx hb hKN.1 hP hD hS 1 0 rfl rfl (ix v0) (by rfl) (by omega) (by first | decide | assumption | omega) dX7_setWeather_66 (fun H locs hP hD hS => ?_)
  have hP : va_P D vwCl [(z, .inr (7, [.int (0 : Int32), .ref z1, .ref z2, .ref z3, .int (nI np), .ref z4, .ref z5, .ref z6, .int (nI nj), .ref z7, .ref q, .ref r])), (z1, .inl (Y 0, 24, .inl (upd wa (ix v0) v1))), (z2, .inl (Y 0, 24, .inl da)), (z3, .inl (Y 0, 24, .inl gu))] _ := hP
  have hD : va_D A [(z, .inr (7, [.int (0 : Int32), .ref z1, .ref z2, .ref z3, .int (nI np), .ref z4, .ref z5, .ref z6, .int (nI nj), .ref z7, .ref q, .ref r])), (z1, .inl (Y 0, 24, .inl (upd wa (ix v0) v1))), (z2, .inl (Y 0, 24, .inl da)), (z3, .inl (Y 0, 24, .inl gu))] := hD
  refine lv_aload_n hx hb dX7_setWeather_67 rfl (lv_at hl 0 rfl) ?_
  refine va_get (D := D) (ci := 7) (v := .ref z2) (C := RX7) (T := TX7) (N := 12) hx hb hts hi7 hown hKN.1 hP 0 rfl rfl 2 (by decide) (hts (.fieldLink RX7 13 "SnowPumpsModel" "damp" "[I") (by decide +kernel)) (fun _ h9 => h9) rfl dX7_setWeather_68 ?_
  refine lv_iload_n hx hb dX7_setWeather_71 rfl (lv_at hl 1 rfl) ?_
  refine lv_iload_n hx hb dX7_setWeather_72 rfl (lv_at hl 3 rfl) ?_
  refine is hx hb hKN.1 hP hD hS 2 0 rfl rfl (ix v0) (by rfl) (by omega) (by first | decide | assumption | omega) dX7_setWeather_73 (fun H locs hP hD hS => ?_)
  have hP : va_P D vwCl [(z, .inr (7, [.int (0 : Int32), .ref z1, .ref z2, .ref z3, .int (nI np), .ref z4, .ref z5, .ref z6, .int (nI nj), .ref z7, .ref q, .ref r])), (z1, .inl (Y 0, 24, .inl (upd wa (ix v0) v1))), (z2, .inl (Y 0, 24, .inl (upd da (ix v0) v2))), (z3, .inl (Y 0, 24, .inl gu))] _ := hP
  have hD : va_D A [(z, .inr (7, [.int (0 : Int32), .ref z1, .ref z2, .ref z3, .int (nI np), .ref z4, .ref z5, .ref z6, .int (nI nj), .ref z7, .ref q, .ref r])), (z1, .inl (Y 0, 24, .inl (upd wa (ix v0) v1))), (z2, .inl (Y 0, 24, .inl (upd da (ix v0) v2))), (z3, .inl (Y 0, 24, .inl gu))] := hD
  refine lv_aload_n hx hb dX7_setWeather_74 rfl (lv_at hl 0 rfl) ?_
  refine va_get (D := D) (ci := 7) (v := .ref z3) (C := RX7) (T := TX7) (N := 12) hx hb hts hi7 hown hKN.1 hP 0 rfl rfl 3 (by decide) (hts (.fieldLink RX7 16 "SnowPumpsModel" "gust" "[I") (by decide +kernel)) (fun _ h9 => h9) rfl dX7_setWeather_75 ?_
  refine lv_iload_n hx hb dX7_setWeather_78 rfl (lv_at hl 1 rfl) ?_
  refine lv_iload hx hb dX7_setWeather_79 (lv_at hl 4 rfl) ?_
  refine is hx hb hKN.1 hP hD hS 3 0 rfl rfl (ix v0) (by rfl) (by omega) (by first | decide | assumption | omega) dX7_setWeather_81 (fun H locs hP hD hS => ?_)
  have hP : va_P D vwCl [(z, .inr (7, [.int (0 : Int32), .ref z1, .ref z2, .ref z3, .int (nI np), .ref z4, .ref z5, .ref z6, .int (nI nj), .ref z7, .ref q, .ref r])), (z1, .inl (Y 0, 24, .inl (upd wa (ix v0) v1))), (z2, .inl (Y 0, 24, .inl (upd da (ix v0) v2))), (z3, .inl (Y 0, 24, .inl (upd gu (ix v0) v3)))] _ := hP
  have hD : va_D A [(z, .inr (7, [.int (0 : Int32), .ref z1, .ref z2, .ref z3, .int (nI np), .ref z4, .ref z5, .ref z6, .int (nI nj), .ref z7, .ref q, .ref r])), (z1, .inl (Y 0, 24, .inl (upd wa (ix v0) v1))), (z2, .inl (Y 0, 24, .inl (upd da (ix v0) v2))), (z3, .inl (Y 0, 24, .inl (upd gu (ix v0) v3)))] := hD
  refine lv_aload_n hx hb dX7_setWeather_82 rfl (lv_at hl 0 rfl) ?_
  refine lv_iload_n hx hb dX7_setWeather_83 rfl (lv_at hl 1 rfl) ?_
  refine cVi (As := [.int (nI (ix v0))]) (rest := []) (ws' := [(z, .inr (7, [.int (0 : Int32), .ref z1, .ref z2, .ref z3, .int (nI np), .ref z4, .ref z5, .ref z6, .int (nI nj), .ref z7, .ref q, .ref r])), (z1, .inl (Y 0, 24, .inl (upd wa (ix v0) v1))), (z2, .inl (Y 0, 24, .inl (upd da (ix v0) v2))), (z3, .inl (Y 0, 24, .inl (upd gu (ix v0) v3)))]) ⟨hx, hb, hml, hown, hts⟩ (kX7_wet l D Y _ z z1 z2 z3 z4 z5 z6 z7 q r (upd wa (ix v0) v1) (upd da (ix v0) v2) (0 : Int32) np nj (ix v0) (by first | assumption | omega)) (cwV 1 hts gX7_setWeather_X7_wet rfl rfl rfl (by decide +kernel) ⟨Nat.le_of_ble_eq_true rfl, Nat.le_of_ble_eq_true rfl⟩) hKN hP hD hS hA [0, 1, 2] [3] [1, 2, 3, 0] rfl (by decide) rfl rfl 0 7 rfl rfl rfl rfl hl.1 (Nat.le_of_ble_eq_true rfl) dX7_setWeather_84 ⟨Nat.le_of_ble_eq_true rfl, Nat.le_of_ble_eq_true rfl⟩ (fun H locs hP hD hS => ?_)
  exact eI hx hb hr hlk hP hD hS (by rfl) (by rfl) (by exact Nat.le_of_ble_eq_true rfl) (by exact Nat.le_of_ble_eq_true rfl) dX7_setWeather_87
abbrev rm_kX7_setWeather_bad : Room := { frames := 1, cells := 0, slots := 0, locals := 22 }
set_option maxHeartbeats 4000000 in
set_option maxRecDepth 100000 in
theorem kX7_setWeather_bad (l : Launch) (D : va_G) (Y : Nat → ClassId) (sz : Nat) (z : Nat) (z1 : Nat) (z2 : Nat) (z3 : Nat) (z4 : Nat) (z5 : Nat) (z6 : Nat) (z7 : Nat) (q : Nat) (r : Nat) (wa : fN) (da : fN) (gu : fN) (th : Int32) (np : Nat) (nj : Nat) (v0 : Int32) (v1 : Int32) (v2 : Int32) (v3 : Int32) (ht : ¬ tSetW v0 v1 v2 v3 = 0) : MI l yX7_setWeather wsX7_setWeather rm_kX7_setWeather_bad D Y [.ref z, .int v0, .int v1, .int v2, .int v3] sz [(z, .inr (7, [.int th, .ref z1, .ref z2, .ref z3, .int (nI np), .ref z4, .ref z5, .ref z6, .int (nI nj), .ref z7, .ref q, .ref r])), (z1, .inl (Y 0, 24, .inl wa)), (z2, .inl (Y 0, 24, .inl da)), (z3, .inl (Y 0, 24, .inl gu))] (0 : Int32) [(z, .inr (7, [.int (nI (tSetW v0 v1 v2 v3)), .ref z1, .ref z2, .ref z3, .int (nI np), .ref z4, .ref z5, .ref z6, .int (nI nj), .ref z7, .ref q, .ref r])), (z1, .inl (Y 0, 24, .inl wa)), (z2, .inl (Y 0, 24, .inl da)), (z3, .inl (Y 0, 24, .inl gu))] 0 0 := by
  refine pcW_start (cc := cX7_setWeather) (maxL := 5) (ret := (some .int)) (Qc := fun A => va_Qi (fun (r : Int32) (_ : Unit) => r = (0 : Int32)) (qW D A [(z, .inr (7, [.int (nI (tSetW v0 v1 v2 v3)), .ref z1, .ref z2, .ref z3, .int (nI np), .ref z4, .ref z5, .ref z6, .int (nI nj), .ref z7, .ref q, .ref r])), (z1, .inl (Y 0, 24, .inl wa)), (z2, .inl (Y 0, 24, .inl da)), (z3, .inl (Y 0, 24, .inl gu))]) A) (by decide) rfl (Nat.le_of_ble_eq_true rfl) ?_
  intro p e s m below meth c A ls hE hKN hA hP hD hl
  obtain ⟨hx, hb, hr, hml, hown, hts, hlk, hin⟩ := hE
  have hown : s.vm.findClass RX7 = some m.cls := hown
  have hS : va_S A s.heap s.heap [] := va_S.rf
  have hi7 : ∀ w ∈ wsX70, w ∈ wsX7_setWeather := by decide +kernel
  have hl : lv_has ls 5 [(0, .ref z), (1, .int v0), (2, .int v1), (3, .int v2), (4, .int v3)] := hl
  refine lv_aload_n hx hb dX7_setWeather_0 rfl (lv_at hl 0 rfl) ?_
  refine lv_iconst (v := (0 : Int32)) hx hb dX7_setWeather_1 (by decide) ?_
  refine va_put (D := D) (ci := 7) (v := .int (0 : Int32)) (ty := .int) (C := RX7) (T := TX7) (N := 12) hx hb hts hi7 tyX7 tyX7_ok nmX7 hown hKN.1 hP hD hS 0 rfl rfl 0 (by decide) (hts (.fieldLink RX7 41 "SnowPumpsModel" "thrown" "I") (by decide +kernel)) (fun _ h9 => h9) rfl (by decide +kernel) rfl rfl (Nat.le_of_ble_eq_true rfl) dX7_setWeather_2 (fun H locs hP hD hS => ?_)
  have hP : va_P D vwCl [(z, .inr (7, [.int (0 : Int32), .ref z1, .ref z2, .ref z3, .int (nI np), .ref z4, .ref z5, .ref z6, .int (nI nj), .ref z7, .ref q, .ref r])), (z1, .inl (Y 0, 24, .inl wa)), (z2, .inl (Y 0, 24, .inl da)), (z3, .inl (Y 0, 24, .inl gu))] _ := hP
  have hD : va_D A [(z, .inr (7, [.int (0 : Int32), .ref z1, .ref z2, .ref z3, .int (nI np), .ref z4, .ref z5, .ref z6, .int (nI nj), .ref z7, .ref q, .ref r])), (z1, .inl (Y 0, 24, .inl wa)), (z2, .inl (Y 0, 24, .inl da)), (z3, .inl (Y 0, 24, .inl gu))] := hD
  refine lv_iload_n hx hb dX7_setWeather_5 rfl (lv_at hl 1 rfl) ?_
  refine lv_iconst (v := (0 : Int32)) hx hb dX7_setWeather_6 (by decide) ?_
  refine lv_bipush (v := (23 : Int32)) hx hb dX7_setWeather_7 (by decide) ?_
  refine cSi (As := [.int v0, .int (0 : Int32), .int (23 : Int32)]) (rest := []) (ws' := [(z, .inr (7, [.int (0 : Int32), .ref z1, .ref z2, .ref z3, .int (nI np), .ref z4, .ref z5, .ref z6, .int (nI nj), .ref z7, .ref q, .ref r])), (z1, .inl (Y 0, 24, .inl wa)), (z2, .inl (Y 0, 24, .inl da)), (z3, .inl (Y 0, 24, .inl gu))]) ⟨hx, hb, hml, hown, hts⟩ (kX7_isIn l D Y _ v0 (0 : Int32) (23 : Int32) ) (va_cwS 3 hts gX7_setWeather_X7_isIn rfl rfl rfl (by decide +kernel) ⟨Nat.le_of_ble_eq_true rfl, Nat.le_of_ble_eq_true rfl⟩) hKN hP hD hS hA [] [0, 1, 2, 3] [0, 1, 2, 3] rfl (by decide) rfl rfl rfl rfl hl.1 (Nat.le_of_ble_eq_true rfl) dX7_setWeather_9 ⟨Nat.le_of_ble_eq_true rfl, Nat.le_of_ble_eq_true rfl⟩ (fun H locs hP hD hS => ?_)
  refine lv_if_ne (tgt := 21) hx hb dX7_setWeather_12 (by decide) (fun c_12 => ?_) (fun c_12 => ?_)
  · have n1 : ¬ (v0 < 0 ∨ 23 < v0) := bi_n c_12
    refine lv_iload_n hx hb dX7_setWeather_21 rfl (lv_at hl 2 rfl) ?_
    refine lv_bipush (v := (-30 : Int32)) hx hb dX7_setWeather_22 (by decide) ?_
    refine lv_bipush (v := (20 : Int32)) hx hb dX7_setWeather_24 (by decide) ?_
    refine cSi (As := [.int v1, .int (-30 : Int32), .int (20 : Int32)]) (rest := []) (ws' := [(z, .inr (7, [.int (0 : Int32), .ref z1, .ref z2, .ref z3, .int (nI np), .ref z4, .ref z5, .ref z6, .int (nI nj), .ref z7, .ref q, .ref r])), (z1, .inl (Y 0, 24, .inl wa)), (z2, .inl (Y 0, 24, .inl da)), (z3, .inl (Y 0, 24, .inl gu))]) ⟨hx, hb, hml, hown, hts⟩ (kX7_isIn l D Y _ v1 (-30 : Int32) (20 : Int32) ) (va_cwS 3 hts gX7_setWeather_X7_isIn rfl rfl rfl (by decide +kernel) ⟨Nat.le_of_ble_eq_true rfl, Nat.le_of_ble_eq_true rfl⟩) hKN hP hD hS hA [] [0, 1, 2, 3] [0, 1, 2, 3] rfl (by decide) rfl rfl rfl rfl hl.1 (Nat.le_of_ble_eq_true rfl) dX7_setWeather_26 ⟨Nat.le_of_ble_eq_true rfl, Nat.le_of_ble_eq_true rfl⟩ (fun H locs hP hD hS => ?_)
    refine lv_if_eq (tgt := 54) hx hb dX7_setWeather_29 (by decide) (fun c_29 => ?_) (fun c_29 => ?_)
    · have e9 : tSetW v0 v1 v2 v3 = 2 := by unfold tSetW; rw [if_neg n1, if_pos (bi_0n c_29)]
      refine lv_aload_n hx hb dX7_setWeather_54 rfl (lv_at hl 0 rfl) ?_
      refine lv_iconst (v := (2 : Int32)) hx hb dX7_setWeather_55 (by decide) ?_
      refine cVi (As := [.int (2 : Int32)]) (rest := []) (ws' := [(z, .inr (7, [.int (2 : Int32), .ref z1, .ref z2, .ref z3, .int (nI np), .ref z4, .ref z5, .ref z6, .int (nI nj), .ref z7, .ref q, .ref r])), (z1, .inl (Y 0, 24, .inl wa)), (z2, .inl (Y 0, 24, .inl da)), (z3, .inl (Y 0, 24, .inl gu))]) ⟨hx, hb, hml, hown, hts⟩ (kX7_no l D Y _ z z1 z2 z3 z4 z5 z6 z7 q r (0 : Int32) np nj (2 : Int32) ) (cwV 1 hts gX7_setWeather_X7_no rfl rfl rfl (by decide +kernel) ⟨Nat.le_of_ble_eq_true rfl, Nat.le_of_ble_eq_true rfl⟩) hKN hP hD hS hA [0] [1, 2, 3] [3, 0, 1, 2] rfl (by decide) rfl rfl 0 7 rfl rfl rfl rfl hl.1 (Nat.le_of_ble_eq_true rfl) dX7_setWeather_56 ⟨Nat.le_of_ble_eq_true rfl, Nat.le_of_ble_eq_true rfl⟩ (fun H locs hP hD hS => ?_)
      have ec_1 : (2 : Int32) = (nI (tSetW v0 v1 v2 v3)) := by rw [e9]; first | done | rfl
      have hP : va_P D vwCl [(z, .inr (7, [.int (nI (tSetW v0 v1 v2 v3)), .ref z1, .ref z2, .ref z3, .int (nI np), .ref z4, .ref z5, .ref z6, .int (nI nj), .ref z7, .ref q, .ref r])), (z1, .inl (Y 0, 24, .inl wa)), (z2, .inl (Y 0, 24, .inl da)), (z3, .inl (Y 0, 24, .inl gu))] _ := (congrArg (fun zz9 => va_P D vwCl [(z, .inr (7, [.int zz9, .ref z1, .ref z2, .ref z3, .int (nI np), .ref z4, .ref z5, .ref z6, .int (nI nj), .ref z7, .ref q, .ref r])), (z1, .inl (Y 0, 24, .inl wa)), (z2, .inl (Y 0, 24, .inl da)), (z3, .inl (Y 0, 24, .inl gu))] _) ec_1).mp hP
      have hD : va_D A [(z, .inr (7, [.int (nI (tSetW v0 v1 v2 v3)), .ref z1, .ref z2, .ref z3, .int (nI np), .ref z4, .ref z5, .ref z6, .int (nI nj), .ref z7, .ref q, .ref r])), (z1, .inl (Y 0, 24, .inl wa)), (z2, .inl (Y 0, 24, .inl da)), (z3, .inl (Y 0, 24, .inl gu))] := (congrArg (fun zz9 => va_D A [(z, .inr (7, [.int zz9, .ref z1, .ref z2, .ref z3, .int (nI np), .ref z4, .ref z5, .ref z6, .int (nI nj), .ref z7, .ref q, .ref r])), (z1, .inl (Y 0, 24, .inl wa)), (z2, .inl (Y 0, 24, .inl da)), (z3, .inl (Y 0, 24, .inl gu))]) ec_1).mp hD
      exact eI hx hb hr hlk hP hD hS (by rfl) (by rfl) (by exact Nat.le_of_ble_eq_true rfl) (by exact Nat.le_of_ble_eq_true rfl) dX7_setWeather_59
    · have n2 : ¬ (v1 < -30 ∨ 20 < v1) := bi_n c_29
      refine lv_iload_n hx hb dX7_setWeather_32 rfl (lv_at hl 3 rfl) ?_
      refine lv_iconst (v := (0 : Int32)) hx hb dX7_setWeather_33 (by decide) ?_
      refine lv_bipush (v := (100 : Int32)) hx hb dX7_setWeather_34 (by decide) ?_
      refine cSi (As := [.int v2, .int (0 : Int32), .int (100 : Int32)]) (rest := []) (ws' := [(z, .inr (7, [.int (0 : Int32), .ref z1, .ref z2, .ref z3, .int (nI np), .ref z4, .ref z5, .ref z6, .int (nI nj), .ref z7, .ref q, .ref r])), (z1, .inl (Y 0, 24, .inl wa)), (z2, .inl (Y 0, 24, .inl da)), (z3, .inl (Y 0, 24, .inl gu))]) ⟨hx, hb, hml, hown, hts⟩ (kX7_isIn l D Y _ v2 (0 : Int32) (100 : Int32) ) (va_cwS 3 hts gX7_setWeather_X7_isIn rfl rfl rfl (by decide +kernel) ⟨Nat.le_of_ble_eq_true rfl, Nat.le_of_ble_eq_true rfl⟩) hKN hP hD hS hA [] [0, 1, 2, 3] [0, 1, 2, 3] rfl (by decide) rfl rfl rfl rfl hl.1 (Nat.le_of_ble_eq_true rfl) dX7_setWeather_36 ⟨Nat.le_of_ble_eq_true rfl, Nat.le_of_ble_eq_true rfl⟩ (fun H locs hP hD hS => ?_)
      refine lv_if_eq (tgt := 54) hx hb dX7_setWeather_39 (by decide) (fun c_39 => ?_) (fun c_39 => ?_)
      · have e9 : tSetW v0 v1 v2 v3 = 2 := by unfold tSetW; rw [if_neg n1, if_neg n2, if_pos (bi_0n c_39)]
        refine lv_aload_n hx hb dX7_setWeather_54 rfl (lv_at hl 0 rfl) ?_
        refine lv_iconst (v := (2 : Int32)) hx hb dX7_setWeather_55 (by decide) ?_
        refine cVi (As := [.int (2 : Int32)]) (rest := []) (ws' := [(z, .inr (7, [.int (2 : Int32), .ref z1, .ref z2, .ref z3, .int (nI np), .ref z4, .ref z5, .ref z6, .int (nI nj), .ref z7, .ref q, .ref r])), (z1, .inl (Y 0, 24, .inl wa)), (z2, .inl (Y 0, 24, .inl da)), (z3, .inl (Y 0, 24, .inl gu))]) ⟨hx, hb, hml, hown, hts⟩ (kX7_no l D Y _ z z1 z2 z3 z4 z5 z6 z7 q r (0 : Int32) np nj (2 : Int32) ) (cwV 1 hts gX7_setWeather_X7_no rfl rfl rfl (by decide +kernel) ⟨Nat.le_of_ble_eq_true rfl, Nat.le_of_ble_eq_true rfl⟩) hKN hP hD hS hA [0] [1, 2, 3] [3, 0, 1, 2] rfl (by decide) rfl rfl 0 7 rfl rfl rfl rfl hl.1 (Nat.le_of_ble_eq_true rfl) dX7_setWeather_56 ⟨Nat.le_of_ble_eq_true rfl, Nat.le_of_ble_eq_true rfl⟩ (fun H locs hP hD hS => ?_)
        have ec_2 : (2 : Int32) = (nI (tSetW v0 v1 v2 v3)) := by rw [e9]; first | done | rfl
        have hP : va_P D vwCl [(z, .inr (7, [.int (nI (tSetW v0 v1 v2 v3)), .ref z1, .ref z2, .ref z3, .int (nI np), .ref z4, .ref z5, .ref z6, .int (nI nj), .ref z7, .ref q, .ref r])), (z1, .inl (Y 0, 24, .inl wa)), (z2, .inl (Y 0, 24, .inl da)), (z3, .inl (Y 0, 24, .inl gu))] _ := (congrArg (fun zz9 => va_P D vwCl [(z, .inr (7, [.int zz9, .ref z1, .ref z2, .ref z3, .int (nI np), .ref z4, .ref z5, .ref z6, .int (nI nj), .ref z7, .ref q, .ref r])), (z1, .inl (Y 0, 24, .inl wa)), (z2, .inl (Y 0, 24, .inl da)), (z3, .inl (Y 0, 24, .inl gu))] _) ec_2).mp hP
        have hD : va_D A [(z, .inr (7, [.int (nI (tSetW v0 v1 v2 v3)), .ref z1, .ref z2, .ref z3, .int (nI np), .ref z4, .ref z5, .ref z6, .int (nI nj), .ref z7, .ref q, .ref r])), (z1, .inl (Y 0, 24, .inl wa)), (z2, .inl (Y 0, 24, .inl da)), (z3, .inl (Y 0, 24, .inl gu))] := (congrArg (fun zz9 => va_D A [(z, .inr (7, [.int zz9, .ref z1, .ref z2, .ref z3, .int (nI np), .ref z4, .ref z5, .ref z6, .int (nI nj), .ref z7, .ref q, .ref r])), (z1, .inl (Y 0, 24, .inl wa)), (z2, .inl (Y 0, 24, .inl da)), (z3, .inl (Y 0, 24, .inl gu))]) ec_2).mp hD
        exact eI hx hb hr hlk hP hD hS (by rfl) (by rfl) (by exact Nat.le_of_ble_eq_true rfl) (by exact Nat.le_of_ble_eq_true rfl) dX7_setWeather_59
      · have n3 : ¬ (v2 < 0 ∨ 100 < v2) := bi_n c_39
        refine lv_iload hx hb dX7_setWeather_42 (lv_at hl 4 rfl) ?_
        refine lv_bipush (v := (-9 : Int32)) hx hb dX7_setWeather_44 (by decide) ?_
        refine lv_bipush (v := (9 : Int32)) hx hb dX7_setWeather_46 (by decide) ?_
        refine cSi (As := [.int v3, .int (-9 : Int32), .int (9 : Int32)]) (rest := []) (ws' := [(z, .inr (7, [.int (0 : Int32), .ref z1, .ref z2, .ref z3, .int (nI np), .ref z4, .ref z5, .ref z6, .int (nI nj), .ref z7, .ref q, .ref r])), (z1, .inl (Y 0, 24, .inl wa)), (z2, .inl (Y 0, 24, .inl da)), (z3, .inl (Y 0, 24, .inl gu))]) ⟨hx, hb, hml, hown, hts⟩ (kX7_isIn l D Y _ v3 (-9 : Int32) (9 : Int32) ) (va_cwS 3 hts gX7_setWeather_X7_isIn rfl rfl rfl (by decide +kernel) ⟨Nat.le_of_ble_eq_true rfl, Nat.le_of_ble_eq_true rfl⟩) hKN hP hD hS hA [] [0, 1, 2, 3] [0, 1, 2, 3] rfl (by decide) rfl rfl rfl rfl hl.1 (Nat.le_of_ble_eq_true rfl) dX7_setWeather_48 ⟨Nat.le_of_ble_eq_true rfl, Nat.le_of_ble_eq_true rfl⟩ (fun H locs hP hD hS => ?_)
        refine lv_if_ne (tgt := 60) hx hb dX7_setWeather_51 (by decide) (fun c_51 => ?_) (fun c_51 => ?_)
        · exfalso
          exact ht (by unfold tSetW; rw [if_neg n1, if_neg n2, if_neg n3, if_neg (bi_n c_51)])
        · have e9 : tSetW v0 v1 v2 v3 = 2 := by unfold tSetW; rw [if_neg n1, if_neg n2, if_neg n3, if_pos (bi_0n c_51)]
          refine lv_aload_n hx hb dX7_setWeather_54 rfl (lv_at hl 0 rfl) ?_
          refine lv_iconst (v := (2 : Int32)) hx hb dX7_setWeather_55 (by decide) ?_
          refine cVi (As := [.int (2 : Int32)]) (rest := []) (ws' := [(z, .inr (7, [.int (2 : Int32), .ref z1, .ref z2, .ref z3, .int (nI np), .ref z4, .ref z5, .ref z6, .int (nI nj), .ref z7, .ref q, .ref r])), (z1, .inl (Y 0, 24, .inl wa)), (z2, .inl (Y 0, 24, .inl da)), (z3, .inl (Y 0, 24, .inl gu))]) ⟨hx, hb, hml, hown, hts⟩ (kX7_no l D Y _ z z1 z2 z3 z4 z5 z6 z7 q r (0 : Int32) np nj (2 : Int32) ) (cwV 1 hts gX7_setWeather_X7_no rfl rfl rfl (by decide +kernel) ⟨Nat.le_of_ble_eq_true rfl, Nat.le_of_ble_eq_true rfl⟩) hKN hP hD hS hA [0] [1, 2, 3] [3, 0, 1, 2] rfl (by decide) rfl rfl 0 7 rfl rfl rfl rfl hl.1 (Nat.le_of_ble_eq_true rfl) dX7_setWeather_56 ⟨Nat.le_of_ble_eq_true rfl, Nat.le_of_ble_eq_true rfl⟩ (fun H locs hP hD hS => ?_)
          have ec_3 : (2 : Int32) = (nI (tSetW v0 v1 v2 v3)) := by rw [e9]; first | done | rfl
          have hP : va_P D vwCl [(z, .inr (7, [.int (nI (tSetW v0 v1 v2 v3)), .ref z1, .ref z2, .ref z3, .int (nI np), .ref z4, .ref z5, .ref z6, .int (nI nj), .ref z7, .ref q, .ref r])), (z1, .inl (Y 0, 24, .inl wa)), (z2, .inl (Y 0, 24, .inl da)), (z3, .inl (Y 0, 24, .inl gu))] _ := (congrArg (fun zz9 => va_P D vwCl [(z, .inr (7, [.int zz9, .ref z1, .ref z2, .ref z3, .int (nI np), .ref z4, .ref z5, .ref z6, .int (nI nj), .ref z7, .ref q, .ref r])), (z1, .inl (Y 0, 24, .inl wa)), (z2, .inl (Y 0, 24, .inl da)), (z3, .inl (Y 0, 24, .inl gu))] _) ec_3).mp hP
          have hD : va_D A [(z, .inr (7, [.int (nI (tSetW v0 v1 v2 v3)), .ref z1, .ref z2, .ref z3, .int (nI np), .ref z4, .ref z5, .ref z6, .int (nI nj), .ref z7, .ref q, .ref r])), (z1, .inl (Y 0, 24, .inl wa)), (z2, .inl (Y 0, 24, .inl da)), (z3, .inl (Y 0, 24, .inl gu))] := (congrArg (fun zz9 => va_D A [(z, .inr (7, [.int zz9, .ref z1, .ref z2, .ref z3, .int (nI np), .ref z4, .ref z5, .ref z6, .int (nI nj), .ref z7, .ref q, .ref r])), (z1, .inl (Y 0, 24, .inl wa)), (z2, .inl (Y 0, 24, .inl da)), (z3, .inl (Y 0, 24, .inl gu))]) ec_3).mp hD
          exact eI hx hb hr hlk hP hD hS (by rfl) (by rfl) (by exact Nat.le_of_ble_eq_true rfl) (by exact Nat.le_of_ble_eq_true rfl) dX7_setWeather_59
  · have e9 : tSetW v0 v1 v2 v3 = 1 := by unfold tSetW; rw [if_pos (bi_0n c_12)]
    refine lv_aload_n hx hb dX7_setWeather_15 rfl (lv_at hl 0 rfl) ?_
    refine lv_iconst (v := (1 : Int32)) hx hb dX7_setWeather_16 (by decide) ?_
    refine cVi (As := [.int (1 : Int32)]) (rest := []) (ws' := [(z, .inr (7, [.int (1 : Int32), .ref z1, .ref z2, .ref z3, .int (nI np), .ref z4, .ref z5, .ref z6, .int (nI nj), .ref z7, .ref q, .ref r])), (z1, .inl (Y 0, 24, .inl wa)), (z2, .inl (Y 0, 24, .inl da)), (z3, .inl (Y 0, 24, .inl gu))]) ⟨hx, hb, hml, hown, hts⟩ (kX7_no l D Y _ z z1 z2 z3 z4 z5 z6 z7 q r (0 : Int32) np nj (1 : Int32) ) (cwV 1 hts gX7_setWeather_X7_no rfl rfl rfl (by decide +kernel) ⟨Nat.le_of_ble_eq_true rfl, Nat.le_of_ble_eq_true rfl⟩) hKN hP hD hS hA [0] [1, 2, 3] [3, 0, 1, 2] rfl (by decide) rfl rfl 0 7 rfl rfl rfl rfl hl.1 (Nat.le_of_ble_eq_true rfl) dX7_setWeather_17 ⟨Nat.le_of_ble_eq_true rfl, Nat.le_of_ble_eq_true rfl⟩ (fun H locs hP hD hS => ?_)
    have ec_4 : (1 : Int32) = (nI (tSetW v0 v1 v2 v3)) := by rw [e9]; first | done | rfl
    have hP : va_P D vwCl [(z, .inr (7, [.int (nI (tSetW v0 v1 v2 v3)), .ref z1, .ref z2, .ref z3, .int (nI np), .ref z4, .ref z5, .ref z6, .int (nI nj), .ref z7, .ref q, .ref r])), (z1, .inl (Y 0, 24, .inl wa)), (z2, .inl (Y 0, 24, .inl da)), (z3, .inl (Y 0, 24, .inl gu))] _ := (congrArg (fun zz9 => va_P D vwCl [(z, .inr (7, [.int zz9, .ref z1, .ref z2, .ref z3, .int (nI np), .ref z4, .ref z5, .ref z6, .int (nI nj), .ref z7, .ref q, .ref r])), (z1, .inl (Y 0, 24, .inl wa)), (z2, .inl (Y 0, 24, .inl da)), (z3, .inl (Y 0, 24, .inl gu))] _) ec_4).mp hP
    have hD : va_D A [(z, .inr (7, [.int (nI (tSetW v0 v1 v2 v3)), .ref z1, .ref z2, .ref z3, .int (nI np), .ref z4, .ref z5, .ref z6, .int (nI nj), .ref z7, .ref q, .ref r])), (z1, .inl (Y 0, 24, .inl wa)), (z2, .inl (Y 0, 24, .inl da)), (z3, .inl (Y 0, 24, .inl gu))] := (congrArg (fun zz9 => va_D A [(z, .inr (7, [.int zz9, .ref z1, .ref z2, .ref z3, .int (nI np), .ref z4, .ref z5, .ref z6, .int (nI nj), .ref z7, .ref q, .ref r])), (z1, .inl (Y 0, 24, .inl wa)), (z2, .inl (Y 0, 24, .inl da)), (z3, .inl (Y 0, 24, .inl gu))]) ec_4).mp hD
    exact eI hx hb hr hlk hP hD hS (by rfl) (by rfl) (by exact Nat.le_of_ble_eq_true rfl) (by exact Nat.le_of_ble_eq_true rfl) dX7_setWeather_20
abbrev rm_kX7_pump : Room := { frames := 2, cells := 0, slots := 0, locals := 42 }
set_option maxHeartbeats 4000000 in
set_option maxRecDepth 100000 in
theorem kX7_pump (l : Launch) (D : va_G) (Y : Nat → ClassId) (sz : Nat) (z : Nat) (z1 : Nat) (z2 : Nat) (z3 : Nat) (z4 : Nat) (z5 : Nat) (z6 : Nat) (z7 : Nat) (q : Nat) (r : Nat) (pa : fN) (fl : fN) (th : Int32) (np : Nat) (nj : Nat) (v0 : Int32) (v1 : Int32) (ht : tPump v0 v1 np = 0) (hnp : np ≤ 5) : MI l yX7_pump wsX7_pump rm_kX7_pump D Y [.ref z, .int v0, .int v1] sz [(z, .inr (7, [.int th, .ref z1, .ref z2, .ref z3, .int (nI np), .ref z4, .ref z5, .ref z6, .int (nI nj), .ref z7, .ref q, .ref r])), (z4, .inl (Y 0, 5, .inl pa)), (z5, .inl (Y 0, 5, .inl fl))] (nI np) [(z, .inr (7, [.int (0 : Int32), .ref z1, .ref z2, .ref z3, .int (nI (np + 1)), .ref z4, .ref z5, .ref z6, .int (nI nj), .ref z7, .ref q, .ref r])), (z4, .inl (Y 0, 5, .inl (upd pa np v0))), (z5, .inl (Y 0, 5, .inl (upd fl np v1)))] 0 0 := by
  refine pcW_start (cc := cX7_pump) (maxL := 3) (ret := (some .int)) (Qc := fun A => va_Qi (fun (r : Int32) (_ : Unit) => r = (nI np)) (qW D A [(z, .inr (7, [.int (0 : Int32), .ref z1, .ref z2, .ref z3, .int (nI (np + 1)), .ref z4, .ref z5, .ref z6, .int (nI nj), .ref z7, .ref q, .ref r])), (z4, .inl (Y 0, 5, .inl (upd pa np v0))), (z5, .inl (Y 0, 5, .inl (upd fl np v1)))]) A) (by decide) rfl (Nat.le_of_ble_eq_true rfl) ?_
  intro p e s m below meth c A ls hE hKN hA hP hD hl
  obtain ⟨hx, hb, hr, hml, hown, hts, hlk, hin⟩ := hE
  have hown : s.vm.findClass RX7 = some m.cls := hown
  have hS : va_S A s.heap s.heap [] := va_S.rf
  have hi7 : ∀ w ∈ wsX70, w ∈ wsX7_pump := by decide +kernel
  have hl : lv_has ls 3 [(0, .ref z), (1, .int v0), (2, .int v1)] := hl
  have n0 := tPump_0 ht
  obtain ⟨n1, n2, n3⟩ := n0
  refine lv_aload_n hx hb dX7_pump_0 rfl (lv_at hl 0 rfl) ?_
  refine lv_iconst (v := (0 : Int32)) hx hb dX7_pump_1 (by decide) ?_
  refine va_put (D := D) (ci := 7) (v := .int (0 : Int32)) (ty := .int) (C := RX7) (T := TX7) (N := 12) hx hb hts hi7 tyX7 tyX7_ok nmX7 hown hKN.1 hP hD hS 0 rfl rfl 0 (by decide) (hts (.fieldLink RX7 41 "SnowPumpsModel" "thrown" "I") (by decide +kernel)) (fun _ h9 => h9) rfl (by decide +kernel) rfl rfl (Nat.le_of_ble_eq_true rfl) dX7_pump_2 (fun H locs hP hD hS => ?_)
  have hP : va_P D vwCl [(z, .inr (7, [.int (0 : Int32), .ref z1, .ref z2, .ref z3, .int (nI np), .ref z4, .ref z5, .ref z6, .int (nI nj), .ref z7, .ref q, .ref r])), (z4, .inl (Y 0, 5, .inl pa)), (z5, .inl (Y 0, 5, .inl fl))] _ := hP
  have hD : va_D A [(z, .inr (7, [.int (0 : Int32), .ref z1, .ref z2, .ref z3, .int (nI np), .ref z4, .ref z5, .ref z6, .int (nI nj), .ref z7, .ref q, .ref r])), (z4, .inl (Y 0, 5, .inl pa)), (z5, .inl (Y 0, 5, .inl fl))] := hD
  refine lv_iload_n hx hb dX7_pump_5 rfl (lv_at hl 1 rfl) ?_
  refine cSi (As := [.int v0]) (rest := []) (ws' := [(z, .inr (7, [.int (0 : Int32), .ref z1, .ref z2, .ref z3, .int (nI np), .ref z4, .ref z5, .ref z6, .int (nI nj), .ref z7, .ref q, .ref r])), (z4, .inl (Y 0, 5, .inl pa)), (z5, .inl (Y 0, 5, .inl fl))]) ⟨hx, hb, hml, hown, hts⟩ (kX7_isPart l D Y _ v0 ) (va_cwS 1 hts gX7_pump_X7_isPart rfl rfl rfl (by decide +kernel) ⟨Nat.le_of_ble_eq_true rfl, Nat.le_of_ble_eq_true rfl⟩) hKN hP hD hS hA [] [0, 1, 2] [0, 1, 2] rfl (by decide) rfl rfl rfl rfl hl.1 (Nat.le_of_ble_eq_true rfl) dX7_pump_6 ⟨Nat.le_of_ble_eq_true rfl, Nat.le_of_ble_eq_true rfl⟩ (fun H locs hP hD hS => ?_)
  refine lv_eqi (y := (1 : Int32)) (by exact bi_t n1) ?_
  refine lv_if_ne (tgt := 18) hx hb dX7_pump_9 (by decide) (fun c_9 => ?_) (fun c_9 => by exfalso; revert c_9; decide)
  refine lv_iload_n hx hb dX7_pump_18 rfl (lv_at hl 2 rfl) ?_
  refine lv_iconst (v := (1 : Int32)) hx hb dX7_pump_19 (by decide) ?_
  refine lv_bipush (v := (9 : Int32)) hx hb dX7_pump_20 (by decide) ?_
  refine cSi (As := [.int v1, .int (1 : Int32), .int (9 : Int32)]) (rest := []) (ws' := [(z, .inr (7, [.int (0 : Int32), .ref z1, .ref z2, .ref z3, .int (nI np), .ref z4, .ref z5, .ref z6, .int (nI nj), .ref z7, .ref q, .ref r])), (z4, .inl (Y 0, 5, .inl pa)), (z5, .inl (Y 0, 5, .inl fl))]) ⟨hx, hb, hml, hown, hts⟩ (kX7_isIn l D Y _ v1 (1 : Int32) (9 : Int32) ) (va_cwS 3 hts gX7_pump_X7_isIn rfl rfl rfl (by decide +kernel) ⟨Nat.le_of_ble_eq_true rfl, Nat.le_of_ble_eq_true rfl⟩) hKN hP hD hS hA [] [0, 1, 2] [0, 1, 2] rfl (by decide) rfl rfl rfl rfl hl.1 (Nat.le_of_ble_eq_true rfl) dX7_pump_22 ⟨Nat.le_of_ble_eq_true rfl, Nat.le_of_ble_eq_true rfl⟩ (fun H locs hP hD hS => ?_)
  refine lv_eqi (y := (1 : Int32)) (by exact bi_t n2) ?_
  refine lv_if_ne (tgt := 34) hx hb dX7_pump_25 (by decide) (fun c_25 => ?_) (fun c_25 => by exfalso; revert c_25; decide)
  refine lv_aload_n hx hb dX7_pump_34 rfl (lv_at hl 0 rfl) ?_
  refine va_get (D := D) (ci := 7) (v := .int (nI np)) (C := RX7) (T := TX7) (N := 12) hx hb hts hi7 hown hKN.1 hP 0 rfl rfl 4 (by decide) (hts (.fieldLink RX7 49 "SnowPumpsModel" "pumps" "I") (by decide +kernel)) (fun _ h9 => h9) rfl dX7_pump_35 ?_
  refine lv_iconst (v := (5 : Int32)) hx hb dX7_pump_38 (by decide) ?_
  refine lv_icmp_ne (tgt := 48) hx hb dX7_pump_39 (by decide) (fun c_39 => ?_) (fun c_39 => by exfalso; exact n3 (by have h8 := (nI_eq (a := np) (b := 5) (by omega) (by omega)).mp c_39; omega))
  refine lv_aload_n hx hb dX7_pump_48 rfl (lv_at hl 0 rfl) ?_
  refine va_get (D := D) (ci := 7) (v := .ref z4) (C := RX7) (T := TX7) (N := 12) hx hb hts hi7 hown hKN.1 hP 0 rfl rfl 5 (by decide) (hts (.fieldLink RX7 19 "SnowPumpsModel" "part" "[I") (by decide +kernel)) (fun _ h9 => h9) rfl dX7_pump_49 ?_
  refine lv_aload_n hx hb dX7_pump_52 rfl (lv_at hl 0 rfl) ?_
  refine va_get (D := D) (ci := 7) (v := .int (nI np)) (C := RX7) (T := TX7) (N := 12) hx hb hts hi7 hown hKN.1 hP 0 rfl rfl 4 (by decide) (hts (.fieldLink RX7 49 "SnowPumpsModel" "pumps" "I") (by decide +kernel)) (fun _ h9 => h9) rfl dX7_pump_53 ?_
  refine lv_iload_n hx hb dX7_pump_56 rfl (lv_at hl 1 rfl) ?_
  refine is hx hb hKN.1 hP hD hS 1 0 rfl rfl np (by rfl) (by omega) (by first | decide | assumption | omega) dX7_pump_57 (fun H locs hP hD hS => ?_)
  have hP : va_P D vwCl [(z, .inr (7, [.int (0 : Int32), .ref z1, .ref z2, .ref z3, .int (nI np), .ref z4, .ref z5, .ref z6, .int (nI nj), .ref z7, .ref q, .ref r])), (z4, .inl (Y 0, 5, .inl (upd pa np v0))), (z5, .inl (Y 0, 5, .inl fl))] _ := hP
  have hD : va_D A [(z, .inr (7, [.int (0 : Int32), .ref z1, .ref z2, .ref z3, .int (nI np), .ref z4, .ref z5, .ref z6, .int (nI nj), .ref z7, .ref q, .ref r])), (z4, .inl (Y 0, 5, .inl (upd pa np v0))), (z5, .inl (Y 0, 5, .inl fl))] := hD
  refine lv_aload_n hx hb dX7_pump_58 rfl (lv_at hl 0 rfl) ?_
  refine va_get (D := D) (ci := 7) (v := .ref z5) (C := RX7) (T := TX7) (N := 12) hx hb hts hi7 hown hKN.1 hP 0 rfl rfl 6 (by decide) (hts (.fieldLink RX7 22 "SnowPumpsModel" "flow" "[I") (by decide +kernel)) (fun _ h9 => h9) rfl dX7_pump_59 ?_
  refine lv_aload_n hx hb dX7_pump_62 rfl (lv_at hl 0 rfl) ?_
  refine va_get (D := D) (ci := 7) (v := .int (nI np)) (C := RX7) (T := TX7) (N := 12) hx hb hts hi7 hown hKN.1 hP 0 rfl rfl 4 (by decide) (hts (.fieldLink RX7 49 "SnowPumpsModel" "pumps" "I") (by decide +kernel)) (fun _ h9 => h9) rfl dX7_pump_63 ?_
  refine lv_iload_n hx hb dX7_pump_66 rfl (lv_at hl 2 rfl) ?_
  refine is hx hb hKN.1 hP hD hS 2 0 rfl rfl np (by rfl) (by omega) (by first | decide | assumption | omega) dX7_pump_67 (fun H locs hP hD hS => ?_)
  have hP : va_P D vwCl [(z, .inr (7, [.int (0 : Int32), .ref z1, .ref z2, .ref z3, .int (nI np), .ref z4, .ref z5, .ref z6, .int (nI nj), .ref z7, .ref q, .ref r])), (z4, .inl (Y 0, 5, .inl (upd pa np v0))), (z5, .inl (Y 0, 5, .inl (upd fl np v1)))] _ := hP
  have hD : va_D A [(z, .inr (7, [.int (0 : Int32), .ref z1, .ref z2, .ref z3, .int (nI np), .ref z4, .ref z5, .ref z6, .int (nI nj), .ref z7, .ref q, .ref r])), (z4, .inl (Y 0, 5, .inl (upd pa np v0))), (z5, .inl (Y 0, 5, .inl (upd fl np v1)))] := hD
  refine lv_aload_n hx hb dX7_pump_68 rfl (lv_at hl 0 rfl) ?_
  refine lv_dup hx hb dX7_pump_69 rfl ?_
  refine va_get (D := D) (ci := 7) (v := .int (nI np)) (C := RX7) (T := TX7) (N := 12) hx hb hts hi7 hown hKN.1 hP 0 rfl rfl 4 (by decide) (hts (.fieldLink RX7 49 "SnowPumpsModel" "pumps" "I") (by decide +kernel)) (fun _ h9 => h9) rfl dX7_pump_70 ?_
  refine lv_iconst (v := (1 : Int32)) hx hb dX7_pump_73 (by decide) ?_
  refine lv_iadd hx hb dX7_pump_74 ?_
  refine lv_eqi (y := nI (np + 1)) (by exact nI_1 _) ?_
  refine va_put (D := D) (ci := 7) (v := .int (nI (np + 1))) (ty := .int) (C := RX7) (T := TX7) (N := 12) hx hb hts hi7 tyX7 tyX7_ok nmX7 hown hKN.1 hP hD hS 0 rfl rfl 4 (by decide) (hts (.fieldLink RX7 49 "SnowPumpsModel" "pumps" "I") (by decide +kernel)) (fun _ h9 => h9) rfl (by decide +kernel) rfl rfl (Nat.le_of_ble_eq_true rfl) dX7_pump_75 (fun H locs hP hD hS => ?_)
  have hP : va_P D vwCl [(z, .inr (7, [.int (0 : Int32), .ref z1, .ref z2, .ref z3, .int (nI (np + 1)), .ref z4, .ref z5, .ref z6, .int (nI nj), .ref z7, .ref q, .ref r])), (z4, .inl (Y 0, 5, .inl (upd pa np v0))), (z5, .inl (Y 0, 5, .inl (upd fl np v1)))] _ := hP
  have hD : va_D A [(z, .inr (7, [.int (0 : Int32), .ref z1, .ref z2, .ref z3, .int (nI (np + 1)), .ref z4, .ref z5, .ref z6, .int (nI nj), .ref z7, .ref q, .ref r])), (z4, .inl (Y 0, 5, .inl (upd pa np v0))), (z5, .inl (Y 0, 5, .inl (upd fl np v1)))] := hD
  refine lv_aload_n hx hb dX7_pump_78 rfl (lv_at hl 0 rfl) ?_
  refine va_get (D := D) (ci := 7) (v := .int (nI (np + 1))) (C := RX7) (T := TX7) (N := 12) hx hb hts hi7 hown hKN.1 hP 0 rfl rfl 4 (by decide) (hts (.fieldLink RX7 49 "SnowPumpsModel" "pumps" "I") (by decide +kernel)) (fun _ h9 => h9) rfl dX7_pump_79 ?_
  refine lv_iconst (v := (1 : Int32)) hx hb dX7_pump_82 (by decide) ?_
  refine lv_isub hx hb dX7_pump_83 ?_
  refine lv_eqi (y := nI np) (by exact nI_pred _) ?_
  exact eI hx hb hr hlk hP hD hS (by rfl) (by rfl) (by exact Nat.le_of_ble_eq_true rfl) (by exact Nat.le_of_ble_eq_true rfl) dX7_pump_84
abbrev rm_kX7_pump_bad : Room := { frames := 2, cells := 0, slots := 0, locals := 42 }
set_option maxHeartbeats 4000000 in
set_option maxRecDepth 100000 in
theorem kX7_pump_bad (l : Launch) (D : va_G) (Y : Nat → ClassId) (sz : Nat) (z : Nat) (z1 : Nat) (z2 : Nat) (z3 : Nat) (z4 : Nat) (z5 : Nat) (z6 : Nat) (z7 : Nat) (q : Nat) (r : Nat) (pa : fN) (fl : fN) (th : Int32) (np : Nat) (nj : Nat) (v0 : Int32) (v1 : Int32) (ht : ¬ tPump v0 v1 np = 0) (hnp : np ≤ 5) : MI l yX7_pump wsX7_pump rm_kX7_pump_bad D Y [.ref z, .int v0, .int v1] sz [(z, .inr (7, [.int th, .ref z1, .ref z2, .ref z3, .int (nI np), .ref z4, .ref z5, .ref z6, .int (nI nj), .ref z7, .ref q, .ref r])), (z4, .inl (Y 0, 5, .inl pa)), (z5, .inl (Y 0, 5, .inl fl))] (0 : Int32) [(z, .inr (7, [.int (nI (tPump v0 v1 np)), .ref z1, .ref z2, .ref z3, .int (nI np), .ref z4, .ref z5, .ref z6, .int (nI nj), .ref z7, .ref q, .ref r])), (z4, .inl (Y 0, 5, .inl pa)), (z5, .inl (Y 0, 5, .inl fl))] 0 0 := by
  refine pcW_start (cc := cX7_pump) (maxL := 3) (ret := (some .int)) (Qc := fun A => va_Qi (fun (r : Int32) (_ : Unit) => r = (0 : Int32)) (qW D A [(z, .inr (7, [.int (nI (tPump v0 v1 np)), .ref z1, .ref z2, .ref z3, .int (nI np), .ref z4, .ref z5, .ref z6, .int (nI nj), .ref z7, .ref q, .ref r])), (z4, .inl (Y 0, 5, .inl pa)), (z5, .inl (Y 0, 5, .inl fl))]) A) (by decide) rfl (Nat.le_of_ble_eq_true rfl) ?_
  intro p e s m below meth c A ls hE hKN hA hP hD hl
  obtain ⟨hx, hb, hr, hml, hown, hts, hlk, hin⟩ := hE
  have hown : s.vm.findClass RX7 = some m.cls := hown
  have hS : va_S A s.heap s.heap [] := va_S.rf
  have hi7 : ∀ w ∈ wsX70, w ∈ wsX7_pump := by decide +kernel
  have hl : lv_has ls 3 [(0, .ref z), (1, .int v0), (2, .int v1)] := hl
  refine lv_aload_n hx hb dX7_pump_0 rfl (lv_at hl 0 rfl) ?_
  refine lv_iconst (v := (0 : Int32)) hx hb dX7_pump_1 (by decide) ?_
  refine va_put (D := D) (ci := 7) (v := .int (0 : Int32)) (ty := .int) (C := RX7) (T := TX7) (N := 12) hx hb hts hi7 tyX7 tyX7_ok nmX7 hown hKN.1 hP hD hS 0 rfl rfl 0 (by decide) (hts (.fieldLink RX7 41 "SnowPumpsModel" "thrown" "I") (by decide +kernel)) (fun _ h9 => h9) rfl (by decide +kernel) rfl rfl (Nat.le_of_ble_eq_true rfl) dX7_pump_2 (fun H locs hP hD hS => ?_)
  have hP : va_P D vwCl [(z, .inr (7, [.int (0 : Int32), .ref z1, .ref z2, .ref z3, .int (nI np), .ref z4, .ref z5, .ref z6, .int (nI nj), .ref z7, .ref q, .ref r])), (z4, .inl (Y 0, 5, .inl pa)), (z5, .inl (Y 0, 5, .inl fl))] _ := hP
  have hD : va_D A [(z, .inr (7, [.int (0 : Int32), .ref z1, .ref z2, .ref z3, .int (nI np), .ref z4, .ref z5, .ref z6, .int (nI nj), .ref z7, .ref q, .ref r])), (z4, .inl (Y 0, 5, .inl pa)), (z5, .inl (Y 0, 5, .inl fl))] := hD
  refine lv_iload_n hx hb dX7_pump_5 rfl (lv_at hl 1 rfl) ?_
  refine cSi (As := [.int v0]) (rest := []) (ws' := [(z, .inr (7, [.int (0 : Int32), .ref z1, .ref z2, .ref z3, .int (nI np), .ref z4, .ref z5, .ref z6, .int (nI nj), .ref z7, .ref q, .ref r])), (z4, .inl (Y 0, 5, .inl pa)), (z5, .inl (Y 0, 5, .inl fl))]) ⟨hx, hb, hml, hown, hts⟩ (kX7_isPart l D Y _ v0 ) (va_cwS 1 hts gX7_pump_X7_isPart rfl rfl rfl (by decide +kernel) ⟨Nat.le_of_ble_eq_true rfl, Nat.le_of_ble_eq_true rfl⟩) hKN hP hD hS hA [] [0, 1, 2] [0, 1, 2] rfl (by decide) rfl rfl rfl rfl hl.1 (Nat.le_of_ble_eq_true rfl) dX7_pump_6 ⟨Nat.le_of_ble_eq_true rfl, Nat.le_of_ble_eq_true rfl⟩ (fun H locs hP hD hS => ?_)
  refine lv_if_ne (tgt := 18) hx hb dX7_pump_9 (by decide) (fun c_9 => ?_) (fun c_9 => ?_)
  · have n1 : ¬ (v0 < 0 ∨ 19 < v0) := bi_n c_9
    refine lv_iload_n hx hb dX7_pump_18 rfl (lv_at hl 2 rfl) ?_
    refine lv_iconst (v := (1 : Int32)) hx hb dX7_pump_19 (by decide) ?_
    refine lv_bipush (v := (9 : Int32)) hx hb dX7_pump_20 (by decide) ?_
    refine cSi (As := [.int v1, .int (1 : Int32), .int (9 : Int32)]) (rest := []) (ws' := [(z, .inr (7, [.int (0 : Int32), .ref z1, .ref z2, .ref z3, .int (nI np), .ref z4, .ref z5, .ref z6, .int (nI nj), .ref z7, .ref q, .ref r])), (z4, .inl (Y 0, 5, .inl pa)), (z5, .inl (Y 0, 5, .inl fl))]) ⟨hx, hb, hml, hown, hts⟩ (kX7_isIn l D Y _ v1 (1 : Int32) (9 : Int32) ) (va_cwS 3 hts gX7_pump_X7_isIn rfl rfl rfl (by decide +kernel) ⟨Nat.le_of_ble_eq_true rfl, Nat.le_of_ble_eq_true rfl⟩) hKN hP hD hS hA [] [0, 1, 2] [0, 1, 2] rfl (by decide) rfl rfl rfl rfl hl.1 (Nat.le_of_ble_eq_true rfl) dX7_pump_22 ⟨Nat.le_of_ble_eq_true rfl, Nat.le_of_ble_eq_true rfl⟩ (fun H locs hP hD hS => ?_)
    refine lv_if_ne (tgt := 34) hx hb dX7_pump_25 (by decide) (fun c_25 => ?_) (fun c_25 => ?_)
    · have n2 : ¬ (v1 < 1 ∨ 9 < v1) := bi_n c_25
      refine lv_aload_n hx hb dX7_pump_34 rfl (lv_at hl 0 rfl) ?_
      refine va_get (D := D) (ci := 7) (v := .int (nI np)) (C := RX7) (T := TX7) (N := 12) hx hb hts hi7 hown hKN.1 hP 0 rfl rfl 4 (by decide) (hts (.fieldLink RX7 49 "SnowPumpsModel" "pumps" "I") (by decide +kernel)) (fun _ h9 => h9) rfl dX7_pump_35 ?_
      refine lv_iconst (v := (5 : Int32)) hx hb dX7_pump_38 (by decide) ?_
      refine lv_icmp_ne (tgt := 48) hx hb dX7_pump_39 (by decide) (fun c_39 => ?_) (fun c_39 => ?_)
      · exfalso
        exact ht (by unfold tPump; rw [if_neg n1, if_neg n2, if_neg (fun h9 => c_39 (by rw [show np = 5 by omega]; rfl))])
      · have e9 : tPump v0 v1 np = 3 := by unfold tPump; rw [if_neg n1, if_neg n2, if_pos (by have h8 := (nI_eq (a := np) (b := 5) (by omega) (by omega)).mp c_39; omega)]
        refine lv_aload_n hx hb dX7_pump_42 rfl (lv_at hl 0 rfl) ?_
        refine lv_iconst (v := (3 : Int32)) hx hb dX7_pump_43 (by decide) ?_
        refine cVi (As := [.int (3 : Int32)]) (rest := []) (ws' := [(z, .inr (7, [.int (3 : Int32), .ref z1, .ref z2, .ref z3, .int (nI np), .ref z4, .ref z5, .ref z6, .int (nI nj), .ref z7, .ref q, .ref r])), (z4, .inl (Y 0, 5, .inl pa)), (z5, .inl (Y 0, 5, .inl fl))]) ⟨hx, hb, hml, hown, hts⟩ (kX7_no l D Y _ z z1 z2 z3 z4 z5 z6 z7 q r (0 : Int32) np nj (3 : Int32) ) (cwV 1 hts gX7_pump_X7_no rfl rfl rfl (by decide +kernel) ⟨Nat.le_of_ble_eq_true rfl, Nat.le_of_ble_eq_true rfl⟩) hKN hP hD hS hA [0] [1, 2] [2, 0, 1] rfl (by decide) rfl rfl 0 7 rfl rfl rfl rfl hl.1 (Nat.le_of_ble_eq_true rfl) dX7_pump_44 ⟨Nat.le_of_ble_eq_true rfl, Nat.le_of_ble_eq_true rfl⟩ (fun H locs hP hD hS => ?_)
        have ec_1 : (3 : Int32) = (nI (tPump v0 v1 np)) := by rw [e9]; first | done | rfl
        have hP : va_P D vwCl [(z, .inr (7, [.int (nI (tPump v0 v1 np)), .ref z1, .ref z2, .ref z3, .int (nI np), .ref z4, .ref z5, .ref z6, .int (nI nj), .ref z7, .ref q, .ref r])), (z4, .inl (Y 0, 5, .inl pa)), (z5, .inl (Y 0, 5, .inl fl))] _ := (congrArg (fun zz9 => va_P D vwCl [(z, .inr (7, [.int zz9, .ref z1, .ref z2, .ref z3, .int (nI np), .ref z4, .ref z5, .ref z6, .int (nI nj), .ref z7, .ref q, .ref r])), (z4, .inl (Y 0, 5, .inl pa)), (z5, .inl (Y 0, 5, .inl fl))] _) ec_1).mp hP
        have hD : va_D A [(z, .inr (7, [.int (nI (tPump v0 v1 np)), .ref z1, .ref z2, .ref z3, .int (nI np), .ref z4, .ref z5, .ref z6, .int (nI nj), .ref z7, .ref q, .ref r])), (z4, .inl (Y 0, 5, .inl pa)), (z5, .inl (Y 0, 5, .inl fl))] := (congrArg (fun zz9 => va_D A [(z, .inr (7, [.int zz9, .ref z1, .ref z2, .ref z3, .int (nI np), .ref z4, .ref z5, .ref z6, .int (nI nj), .ref z7, .ref q, .ref r])), (z4, .inl (Y 0, 5, .inl pa)), (z5, .inl (Y 0, 5, .inl fl))]) ec_1).mp hD
        exact eI hx hb hr hlk hP hD hS (by rfl) (by rfl) (by exact Nat.le_of_ble_eq_true rfl) (by exact Nat.le_of_ble_eq_true rfl) dX7_pump_47
    · have e9 : tPump v0 v1 np = 2 := by unfold tPump; rw [if_neg n1, if_pos (bi_0n c_25)]
      refine lv_aload_n hx hb dX7_pump_28 rfl (lv_at hl 0 rfl) ?_
      refine lv_iconst (v := (2 : Int32)) hx hb dX7_pump_29 (by decide) ?_
      refine cVi (As := [.int (2 : Int32)]) (rest := []) (ws' := [(z, .inr (7, [.int (2 : Int32), .ref z1, .ref z2, .ref z3, .int (nI np), .ref z4, .ref z5, .ref z6, .int (nI nj), .ref z7, .ref q, .ref r])), (z4, .inl (Y 0, 5, .inl pa)), (z5, .inl (Y 0, 5, .inl fl))]) ⟨hx, hb, hml, hown, hts⟩ (kX7_no l D Y _ z z1 z2 z3 z4 z5 z6 z7 q r (0 : Int32) np nj (2 : Int32) ) (cwV 1 hts gX7_pump_X7_no rfl rfl rfl (by decide +kernel) ⟨Nat.le_of_ble_eq_true rfl, Nat.le_of_ble_eq_true rfl⟩) hKN hP hD hS hA [0] [1, 2] [2, 0, 1] rfl (by decide) rfl rfl 0 7 rfl rfl rfl rfl hl.1 (Nat.le_of_ble_eq_true rfl) dX7_pump_30 ⟨Nat.le_of_ble_eq_true rfl, Nat.le_of_ble_eq_true rfl⟩ (fun H locs hP hD hS => ?_)
      have ec_2 : (2 : Int32) = (nI (tPump v0 v1 np)) := by rw [e9]; first | done | rfl
      have hP : va_P D vwCl [(z, .inr (7, [.int (nI (tPump v0 v1 np)), .ref z1, .ref z2, .ref z3, .int (nI np), .ref z4, .ref z5, .ref z6, .int (nI nj), .ref z7, .ref q, .ref r])), (z4, .inl (Y 0, 5, .inl pa)), (z5, .inl (Y 0, 5, .inl fl))] _ := (congrArg (fun zz9 => va_P D vwCl [(z, .inr (7, [.int zz9, .ref z1, .ref z2, .ref z3, .int (nI np), .ref z4, .ref z5, .ref z6, .int (nI nj), .ref z7, .ref q, .ref r])), (z4, .inl (Y 0, 5, .inl pa)), (z5, .inl (Y 0, 5, .inl fl))] _) ec_2).mp hP
      have hD : va_D A [(z, .inr (7, [.int (nI (tPump v0 v1 np)), .ref z1, .ref z2, .ref z3, .int (nI np), .ref z4, .ref z5, .ref z6, .int (nI nj), .ref z7, .ref q, .ref r])), (z4, .inl (Y 0, 5, .inl pa)), (z5, .inl (Y 0, 5, .inl fl))] := (congrArg (fun zz9 => va_D A [(z, .inr (7, [.int zz9, .ref z1, .ref z2, .ref z3, .int (nI np), .ref z4, .ref z5, .ref z6, .int (nI nj), .ref z7, .ref q, .ref r])), (z4, .inl (Y 0, 5, .inl pa)), (z5, .inl (Y 0, 5, .inl fl))]) ec_2).mp hD
      exact eI hx hb hr hlk hP hD hS (by rfl) (by rfl) (by exact Nat.le_of_ble_eq_true rfl) (by exact Nat.le_of_ble_eq_true rfl) dX7_pump_33
  · have e9 : tPump v0 v1 np = 1 := by unfold tPump; rw [if_pos (bi_0n c_9)]
    refine lv_aload_n hx hb dX7_pump_12 rfl (lv_at hl 0 rfl) ?_
    refine lv_iconst (v := (1 : Int32)) hx hb dX7_pump_13 (by decide) ?_
    refine cVi (As := [.int (1 : Int32)]) (rest := []) (ws' := [(z, .inr (7, [.int (1 : Int32), .ref z1, .ref z2, .ref z3, .int (nI np), .ref z4, .ref z5, .ref z6, .int (nI nj), .ref z7, .ref q, .ref r])), (z4, .inl (Y 0, 5, .inl pa)), (z5, .inl (Y 0, 5, .inl fl))]) ⟨hx, hb, hml, hown, hts⟩ (kX7_no l D Y _ z z1 z2 z3 z4 z5 z6 z7 q r (0 : Int32) np nj (1 : Int32) ) (cwV 1 hts gX7_pump_X7_no rfl rfl rfl (by decide +kernel) ⟨Nat.le_of_ble_eq_true rfl, Nat.le_of_ble_eq_true rfl⟩) hKN hP hD hS hA [0] [1, 2] [2, 0, 1] rfl (by decide) rfl rfl 0 7 rfl rfl rfl rfl hl.1 (Nat.le_of_ble_eq_true rfl) dX7_pump_14 ⟨Nat.le_of_ble_eq_true rfl, Nat.le_of_ble_eq_true rfl⟩ (fun H locs hP hD hS => ?_)
    have ec_3 : (1 : Int32) = (nI (tPump v0 v1 np)) := by rw [e9]; first | done | rfl
    have hP : va_P D vwCl [(z, .inr (7, [.int (nI (tPump v0 v1 np)), .ref z1, .ref z2, .ref z3, .int (nI np), .ref z4, .ref z5, .ref z6, .int (nI nj), .ref z7, .ref q, .ref r])), (z4, .inl (Y 0, 5, .inl pa)), (z5, .inl (Y 0, 5, .inl fl))] _ := (congrArg (fun zz9 => va_P D vwCl [(z, .inr (7, [.int zz9, .ref z1, .ref z2, .ref z3, .int (nI np), .ref z4, .ref z5, .ref z6, .int (nI nj), .ref z7, .ref q, .ref r])), (z4, .inl (Y 0, 5, .inl pa)), (z5, .inl (Y 0, 5, .inl fl))] _) ec_3).mp hP
    have hD : va_D A [(z, .inr (7, [.int (nI (tPump v0 v1 np)), .ref z1, .ref z2, .ref z3, .int (nI np), .ref z4, .ref z5, .ref z6, .int (nI nj), .ref z7, .ref q, .ref r])), (z4, .inl (Y 0, 5, .inl pa)), (z5, .inl (Y 0, 5, .inl fl))] := (congrArg (fun zz9 => va_D A [(z, .inr (7, [.int zz9, .ref z1, .ref z2, .ref z3, .int (nI np), .ref z4, .ref z5, .ref z6, .int (nI nj), .ref z7, .ref q, .ref r])), (z4, .inl (Y 0, 5, .inl pa)), (z5, .inl (Y 0, 5, .inl fl))]) ec_3).mp hD
    exact eI hx hb hr hlk hP hD hS (by rfl) (by rfl) (by exact Nat.le_of_ble_eq_true rfl) (by exact Nat.le_of_ble_eq_true rfl) dX7_pump_17
abbrev rm_kX7_fill : Room := { frames := 1, cells := 0, slots := 0, locals := 22 }
set_option maxHeartbeats 4000000 in
set_option maxRecDepth 100000 in
theorem kX7_fill (l : Launch) (D : va_G) (Y : Nat → ClassId) (sz : Nat) (z : Nat) (z1 : Nat) (z2 : Nat) (z3 : Nat) (z4 : Nat) (z5 : Nat) (z6 : Nat) (z7 : Nat) (q : Nat) (q1 : Nat) (q2 : Nat) (q3 : Nat) (r : Nat) (wt : Int32) (th : Int32) (tm : Nat) (np : Nat) (nj : Nat) (v0 : Int32) (ht : tFill v0 = 0) : MI l yX7_fill wsX7_fill rm_kX7_fill D Y [.ref z, .int v0] sz [(z, .inr (7, [.int th, .ref z1, .ref z2, .ref z3, .int (nI np), .ref z4, .ref z5, .ref z6, .int (nI nj), .ref z7, .ref q, .ref r])), (q, .inr (6, [.int (nI tm), .int wt, .ref q1, .ref q2, .ref q3]))] (mnI (wt + v0) 9999) [(z, .inr (7, [.int (0 : Int32), .ref z1, .ref z2, .ref z3, .int (nI np), .ref z4, .ref z5, .ref z6, .int (nI nj), .ref z7, .ref q, .ref r])), (q, .inr (6, [.int (nI tm), .int (mnI (wt + v0) 9999), .ref q1, .ref q2, .ref q3]))] 0 0 := by
  refine pcW_start (cc := cX7_fill) (maxL := 2) (ret := (some .int)) (Qc := fun A => va_Qi (fun (r : Int32) (_ : Unit) => r = (mnI (wt + v0) 9999)) (qW D A [(z, .inr (7, [.int (0 : Int32), .ref z1, .ref z2, .ref z3, .int (nI np), .ref z4, .ref z5, .ref z6, .int (nI nj), .ref z7, .ref q, .ref r])), (q, .inr (6, [.int (nI tm), .int (mnI (wt + v0) 9999), .ref q1, .ref q2, .ref q3]))]) A) (by decide) rfl (Nat.le_of_ble_eq_true rfl) ?_
  intro p e s m below meth c A ls hE hKN hA hP hD hl
  obtain ⟨hx, hb, hr, hml, hown, hts, hlk, hin⟩ := hE
  have hown : s.vm.findClass RX7 = some m.cls := hown
  have hS : va_S A s.heap s.heap [] := va_S.rf
  have hi6 : ∀ w ∈ wsX60, w ∈ wsX7_fill := by decide +kernel
  have hi7 : ∀ w ∈ wsX70, w ∈ wsX7_fill := by decide +kernel
  have hl : lv_has ls 2 [(0, .ref z), (1, .int v0)] := hl
  have n1 := tFill_0 ht
  refine lv_aload_n hx hb dX7_fill_0 rfl (lv_at hl 0 rfl) ?_
  refine lv_iconst (v := (0 : Int32)) hx hb dX7_fill_1 (by decide) ?_
  refine va_put (D := D) (ci := 7) (v := .int (0 : Int32)) (ty := .int) (C := RX7) (T := TX7) (N := 12) hx hb hts hi7 tyX7 tyX7_ok nmX7 hown hKN.1 hP hD hS 0 rfl rfl 0 (by decide) (hts (.fieldLink RX7 41 "SnowPumpsModel" "thrown" "I") (by decide +kernel)) (fun _ h9 => h9) rfl (by decide +kernel) rfl rfl (Nat.le_of_ble_eq_true rfl) dX7_fill_2 (fun H locs hP hD hS => ?_)
  have hP : va_P D vwCl [(z, .inr (7, [.int (0 : Int32), .ref z1, .ref z2, .ref z3, .int (nI np), .ref z4, .ref z5, .ref z6, .int (nI nj), .ref z7, .ref q, .ref r])), (q, .inr (6, [.int (nI tm), .int wt, .ref q1, .ref q2, .ref q3]))] _ := hP
  have hD : va_D A [(z, .inr (7, [.int (0 : Int32), .ref z1, .ref z2, .ref z3, .int (nI np), .ref z4, .ref z5, .ref z6, .int (nI nj), .ref z7, .ref q, .ref r])), (q, .inr (6, [.int (nI tm), .int wt, .ref q1, .ref q2, .ref q3]))] := hD
  refine lv_iload_n hx hb dX7_fill_5 rfl (lv_at hl 1 rfl) ?_
  refine lv_iconst (v := (1 : Int32)) hx hb dX7_fill_6 (by decide) ?_
  refine lv_sipush (v := (9999 : Int32)) hx hb dX7_fill_7 (by decide) ?_
  refine cSi (As := [.int v0, .int (1 : Int32), .int (9999 : Int32)]) (rest := []) (ws' := [(z, .inr (7, [.int (0 : Int32), .ref z1, .ref z2, .ref z3, .int (nI np), .ref z4, .ref z5, .ref z6, .int (nI nj), .ref z7, .ref q, .ref r])), (q, .inr (6, [.int (nI tm), .int wt, .ref q1, .ref q2, .ref q3]))]) ⟨hx, hb, hml, hown, hts⟩ (kX7_isIn l D Y _ v0 (1 : Int32) (9999 : Int32) ) (va_cwS 3 hts gX7_fill_X7_isIn rfl rfl rfl (by decide +kernel) ⟨Nat.le_of_ble_eq_true rfl, Nat.le_of_ble_eq_true rfl⟩) hKN hP hD hS hA [] [0, 1] [0, 1] rfl (by decide) rfl rfl rfl rfl hl.1 (Nat.le_of_ble_eq_true rfl) dX7_fill_10 ⟨Nat.le_of_ble_eq_true rfl, Nat.le_of_ble_eq_true rfl⟩ (fun H locs hP hD hS => ?_)
  refine lv_eqi (y := (1 : Int32)) (by exact bi_t n1) ?_
  refine lv_if_ne (tgt := 22) hx hb dX7_fill_13 (by decide) (fun c_13 => ?_) (fun c_13 => by exfalso; revert c_13; decide)
  refine lv_aload_n hx hb dX7_fill_22 rfl (lv_at hl 0 rfl) ?_
  refine va_get (D := D) (ci := 7) (v := .ref q) (C := RX7) (T := TX7) (N := 12) hx hb hts hi7 hown hKN.1 hP 0 rfl rfl 10 (by decide) (hts (.fieldLink RX7 34 "SnowPumpsModel" "s" "LSnowPumpsModel$State;") (by decide +kernel)) (fun _ h9 => h9) rfl dX7_fill_23 ?_
  refine lv_sipush (v := (9999 : Int32)) hx hb dX7_fill_26 (by decide) ?_
  refine lv_aload_n hx hb dX7_fill_29 rfl (lv_at hl 0 rfl) ?_
  refine va_get (D := D) (ci := 7) (v := .ref q) (C := RX7) (T := TX7) (N := 12) hx hb hts hi7 hown hKN.1 hP 0 rfl rfl 10 (by decide) (hts (.fieldLink RX7 34 "SnowPumpsModel" "s" "LSnowPumpsModel$State;") (by decide +kernel)) (fun _ h9 => h9) rfl dX7_fill_30 ?_
  refine va_getN (D := D) (ci := 6) (v := .int wt) (C := RX6) (T := TX6) (N := 5) hx hb hts hi6 hown hKN.1 hP 1 rfl rfl 1 (by decide) (hKN.2.before 9 rfl) (fun _ h9 => h9) rfl dX7_fill_33 ?_
  refine lv_iload_n hx hb dX7_fill_36 rfl (lv_at hl 1 rfl) ?_
  refine lv_iadd hx hb dX7_fill_37 ?_
  refine va_mmin hx hb (hml.trans hl.1.symm) hown (hts (.methodLink RX7 61 Lib.Math.min.name) (by decide +kernel)) (hts (.static Lib.Math.min.name) (by decide +kernel)) (hts (.initialized "java/lang/Math") (by decide +kernel)) (hts (.code Lib.Math.min.name Lib.Math.min.code 2 (some .int)) (by decide +kernel)) (Nat.le_of_ble_eq_true rfl) (Nat.le_of_ble_eq_true rfl) (by exact Nat.le_of_ble_eq_true rfl) (by exact Nat.le_of_ble_eq_true rfl) dX7_fill_38 ?_
  refine lv_eqi (y := mnI (9999 : Int32) (wt + v0)) rfl ?_
  refine lv_eqi (y := mnI (wt + v0) 9999) (by exact mnI_comm _ _) ?_
  refine va_putN (D := D) (ci := 6) (v := .int (mnI (wt + v0) 9999)) (ty := .int) (C := RX6) (T := TX6) (N := 5) hx hb hts hi6 tyX6 tyX6_ok nmX6 hown hKN.1 hP hD hS 1 rfl rfl 1 (by decide) (hKN.2.before 9 rfl) (fun _ h9 => h9) rfl (by decide +kernel) rfl rfl (Nat.le_of_ble_eq_true rfl) dX7_fill_41 (fun H locs hP hD hS => ?_)
  have hP : va_P D vwCl [(z, .inr (7, [.int (0 : Int32), .ref z1, .ref z2, .ref z3, .int (nI np), .ref z4, .ref z5, .ref z6, .int (nI nj), .ref z7, .ref q, .ref r])), (q, .inr (6, [.int (nI tm), .int (mnI (wt + v0) 9999), .ref q1, .ref q2, .ref q3]))] _ := hP
  have hD : va_D A [(z, .inr (7, [.int (0 : Int32), .ref z1, .ref z2, .ref z3, .int (nI np), .ref z4, .ref z5, .ref z6, .int (nI nj), .ref z7, .ref q, .ref r])), (q, .inr (6, [.int (nI tm), .int (mnI (wt + v0) 9999), .ref q1, .ref q2, .ref q3]))] := hD
  refine lv_aload_n hx hb dX7_fill_44 rfl (lv_at hl 0 rfl) ?_
  refine va_get (D := D) (ci := 7) (v := .ref q) (C := RX7) (T := TX7) (N := 12) hx hb hts hi7 hown hKN.1 hP 0 rfl rfl 10 (by decide) (hts (.fieldLink RX7 34 "SnowPumpsModel" "s" "LSnowPumpsModel$State;") (by decide +kernel)) (fun _ h9 => h9) rfl dX7_fill_45 ?_
  refine va_getN (D := D) (ci := 6) (v := .int (mnI (wt + v0) 9999)) (C := RX6) (T := TX6) (N := 5) hx hb hts hi6 hown hKN.1 hP 1 rfl rfl 1 (by decide) (hKN.2.before 9 rfl) (fun _ h9 => h9) rfl dX7_fill_48 ?_
  exact eI hx hb hr hlk hP hD hS (by rfl) (by rfl) (by exact Nat.le_of_ble_eq_true rfl) (by exact Nat.le_of_ble_eq_true rfl) dX7_fill_51
abbrev rm_kX7_fill_bad : Room := { frames := 1, cells := 0, slots := 0, locals := 22 }
set_option maxHeartbeats 4000000 in
set_option maxRecDepth 100000 in
theorem kX7_fill_bad (l : Launch) (D : va_G) (Y : Nat → ClassId) (sz : Nat) (z : Nat) (z1 : Nat) (z2 : Nat) (z3 : Nat) (z4 : Nat) (z5 : Nat) (z6 : Nat) (z7 : Nat) (q : Nat) (q1 : Nat) (q2 : Nat) (q3 : Nat) (r : Nat) (wt : Int32) (th : Int32) (tm : Nat) (np : Nat) (nj : Nat) (v0 : Int32) (ht : ¬ tFill v0 = 0) : MI l yX7_fill wsX7_fill rm_kX7_fill_bad D Y [.ref z, .int v0] sz [(z, .inr (7, [.int th, .ref z1, .ref z2, .ref z3, .int (nI np), .ref z4, .ref z5, .ref z6, .int (nI nj), .ref z7, .ref q, .ref r])), (q, .inr (6, [.int (nI tm), .int wt, .ref q1, .ref q2, .ref q3]))] (0 : Int32) [(z, .inr (7, [.int (nI (tFill v0)), .ref z1, .ref z2, .ref z3, .int (nI np), .ref z4, .ref z5, .ref z6, .int (nI nj), .ref z7, .ref q, .ref r])), (q, .inr (6, [.int (nI tm), .int wt, .ref q1, .ref q2, .ref q3]))] 0 0 := by
  refine pcW_start (cc := cX7_fill) (maxL := 2) (ret := (some .int)) (Qc := fun A => va_Qi (fun (r : Int32) (_ : Unit) => r = (0 : Int32)) (qW D A [(z, .inr (7, [.int (nI (tFill v0)), .ref z1, .ref z2, .ref z3, .int (nI np), .ref z4, .ref z5, .ref z6, .int (nI nj), .ref z7, .ref q, .ref r])), (q, .inr (6, [.int (nI tm), .int wt, .ref q1, .ref q2, .ref q3]))]) A) (by decide) rfl (Nat.le_of_ble_eq_true rfl) ?_
  intro p e s m below meth c A ls hE hKN hA hP hD hl
  obtain ⟨hx, hb, hr, hml, hown, hts, hlk, hin⟩ := hE
  have hown : s.vm.findClass RX7 = some m.cls := hown
  have hS : va_S A s.heap s.heap [] := va_S.rf
  have hi7 : ∀ w ∈ wsX70, w ∈ wsX7_fill := by decide +kernel
  have hl : lv_has ls 2 [(0, .ref z), (1, .int v0)] := hl
  refine lv_aload_n hx hb dX7_fill_0 rfl (lv_at hl 0 rfl) ?_
  refine lv_iconst (v := (0 : Int32)) hx hb dX7_fill_1 (by decide) ?_
  refine va_put (D := D) (ci := 7) (v := .int (0 : Int32)) (ty := .int) (C := RX7) (T := TX7) (N := 12) hx hb hts hi7 tyX7 tyX7_ok nmX7 hown hKN.1 hP hD hS 0 rfl rfl 0 (by decide) (hts (.fieldLink RX7 41 "SnowPumpsModel" "thrown" "I") (by decide +kernel)) (fun _ h9 => h9) rfl (by decide +kernel) rfl rfl (Nat.le_of_ble_eq_true rfl) dX7_fill_2 (fun H locs hP hD hS => ?_)
  have hP : va_P D vwCl [(z, .inr (7, [.int (0 : Int32), .ref z1, .ref z2, .ref z3, .int (nI np), .ref z4, .ref z5, .ref z6, .int (nI nj), .ref z7, .ref q, .ref r])), (q, .inr (6, [.int (nI tm), .int wt, .ref q1, .ref q2, .ref q3]))] _ := hP
  have hD : va_D A [(z, .inr (7, [.int (0 : Int32), .ref z1, .ref z2, .ref z3, .int (nI np), .ref z4, .ref z5, .ref z6, .int (nI nj), .ref z7, .ref q, .ref r])), (q, .inr (6, [.int (nI tm), .int wt, .ref q1, .ref q2, .ref q3]))] := hD
  refine lv_iload_n hx hb dX7_fill_5 rfl (lv_at hl 1 rfl) ?_
  refine lv_iconst (v := (1 : Int32)) hx hb dX7_fill_6 (by decide) ?_
  refine lv_sipush (v := (9999 : Int32)) hx hb dX7_fill_7 (by decide) ?_
  refine cSi (As := [.int v0, .int (1 : Int32), .int (9999 : Int32)]) (rest := []) (ws' := [(z, .inr (7, [.int (0 : Int32), .ref z1, .ref z2, .ref z3, .int (nI np), .ref z4, .ref z5, .ref z6, .int (nI nj), .ref z7, .ref q, .ref r])), (q, .inr (6, [.int (nI tm), .int wt, .ref q1, .ref q2, .ref q3]))]) ⟨hx, hb, hml, hown, hts⟩ (kX7_isIn l D Y _ v0 (1 : Int32) (9999 : Int32) ) (va_cwS 3 hts gX7_fill_X7_isIn rfl rfl rfl (by decide +kernel) ⟨Nat.le_of_ble_eq_true rfl, Nat.le_of_ble_eq_true rfl⟩) hKN hP hD hS hA [] [0, 1] [0, 1] rfl (by decide) rfl rfl rfl rfl hl.1 (Nat.le_of_ble_eq_true rfl) dX7_fill_10 ⟨Nat.le_of_ble_eq_true rfl, Nat.le_of_ble_eq_true rfl⟩ (fun H locs hP hD hS => ?_)
  refine lv_if_ne (tgt := 22) hx hb dX7_fill_13 (by decide) (fun c_13 => ?_) (fun c_13 => ?_)
  · exfalso
    exact ht (by unfold tFill; rw [if_neg (bi_n c_13)])
  · have e9 : tFill v0 = 1 := by unfold tFill; rw [if_pos (bi_0n c_13)]
    refine lv_aload_n hx hb dX7_fill_16 rfl (lv_at hl 0 rfl) ?_
    refine lv_iconst (v := (1 : Int32)) hx hb dX7_fill_17 (by decide) ?_
    refine cVi (As := [.int (1 : Int32)]) (rest := []) (ws' := [(z, .inr (7, [.int (1 : Int32), .ref z1, .ref z2, .ref z3, .int (nI np), .ref z4, .ref z5, .ref z6, .int (nI nj), .ref z7, .ref q, .ref r])), (q, .inr (6, [.int (nI tm), .int wt, .ref q1, .ref q2, .ref q3]))]) ⟨hx, hb, hml, hown, hts⟩ (kX7_no l D Y _ z z1 z2 z3 z4 z5 z6 z7 q r (0 : Int32) np nj (1 : Int32) ) (cwV 1 hts gX7_fill_X7_no rfl rfl rfl (by decide +kernel) ⟨Nat.le_of_ble_eq_true rfl, Nat.le_of_ble_eq_true rfl⟩) hKN hP hD hS hA [0] [1] [1, 0] rfl (by decide) rfl rfl 0 7 rfl rfl rfl rfl hl.1 (Nat.le_of_ble_eq_true rfl) dX7_fill_18 ⟨Nat.le_of_ble_eq_true rfl, Nat.le_of_ble_eq_true rfl⟩ (fun H locs hP hD hS => ?_)
    have ec_1 : (1 : Int32) = (nI (tFill v0)) := by rw [e9]; first | done | rfl
    have hP : va_P D vwCl [(z, .inr (7, [.int (nI (tFill v0)), .ref z1, .ref z2, .ref z3, .int (nI np), .ref z4, .ref z5, .ref z6, .int (nI nj), .ref z7, .ref q, .ref r])), (q, .inr (6, [.int (nI tm), .int wt, .ref q1, .ref q2, .ref q3]))] _ := (congrArg (fun zz9 => va_P D vwCl [(z, .inr (7, [.int zz9, .ref z1, .ref z2, .ref z3, .int (nI np), .ref z4, .ref z5, .ref z6, .int (nI nj), .ref z7, .ref q, .ref r])), (q, .inr (6, [.int (nI tm), .int wt, .ref q1, .ref q2, .ref q3]))] _) ec_1).mp hP
    have hD : va_D A [(z, .inr (7, [.int (nI (tFill v0)), .ref z1, .ref z2, .ref z3, .int (nI np), .ref z4, .ref z5, .ref z6, .int (nI nj), .ref z7, .ref q, .ref r])), (q, .inr (6, [.int (nI tm), .int wt, .ref q1, .ref q2, .ref q3]))] := (congrArg (fun zz9 => va_D A [(z, .inr (7, [.int zz9, .ref z1, .ref z2, .ref z3, .int (nI np), .ref z4, .ref z5, .ref z6, .int (nI nj), .ref z7, .ref q, .ref r])), (q, .inr (6, [.int (nI tm), .int wt, .ref q1, .ref q2, .ref q3]))]) ec_1).mp hD
    exact eI hx hb hr hlk hP hD hS (by rfl) (by rfl) (by exact Nat.le_of_ble_eq_true rfl) (by exact Nat.le_of_ble_eq_true rfl) dX7_fill_21
abbrev rm_kX7_judge : Room := { frames := 1, cells := 0, slots := 0, locals := 22 }
set_option maxHeartbeats 4000000 in
set_option maxRecDepth 100000 in
theorem kX7_judge (l : Launch) (D : va_G) (Y : Nat → ClassId) (sz : Nat) (z : Nat) (z1 : Nat) (z2 : Nat) (z3 : Nat) (z4 : Nat) (z5 : Nat) (z6 : Nat) (z7 : Nat) (q : Nat) (r : Nat) (st : fN) (th : Int32) (np : Nat) (nj : Nat) (v0 : Int32) (v1 : Int32) (ht : tJudge v0 v1 = 0) : MI l yX7_judge wsX7_judge rm_kX7_judge D Y [.ref z, .int v0, .int v1] sz [(z, .inr (7, [.int th, .ref z1, .ref z2, .ref z3, .int (nI np), .ref z4, .ref z5, .ref z6, .int (nI nj), .ref z7, .ref q, .ref r])), (z6, .inl (Y 0, 5, .inl st))] (st (ix v0)) [(z, .inr (7, [.int (0 : Int32), .ref z1, .ref z2, .ref z3, .int (nI np), .ref z4, .ref z5, .ref z6, .int (nI nj), .ref z7, .ref q, .ref r])), (z6, .inl (Y 0, 5, .inl (upd st (ix v0) v1)))] 0 0 := by
  refine pcW_start (cc := cX7_judge) (maxL := 4) (ret := (some .int)) (Qc := fun A => va_Qi (fun (r : Int32) (_ : Unit) => r = (st (ix v0))) (qW D A [(z, .inr (7, [.int (0 : Int32), .ref z1, .ref z2, .ref z3, .int (nI np), .ref z4, .ref z5, .ref z6, .int (nI nj), .ref z7, .ref q, .ref r])), (z6, .inl (Y 0, 5, .inl (upd st (ix v0) v1)))]) A) (by decide) rfl (Nat.le_of_ble_eq_true rfl) ?_
  intro p e s m below meth c A ls hE hKN hA hP hD hl
  obtain ⟨hx, hb, hr, hml, hown, hts, hlk, hin⟩ := hE
  have hown : s.vm.findClass RX7 = some m.cls := hown
  have hS : va_S A s.heap s.heap [] := va_S.rf
  have hi7 : ∀ w ∈ wsX70, w ∈ wsX7_judge := by decide +kernel
  have hl : lv_has ls 4 [(0, .ref z), (1, .int v0), (2, .int v1)] := hl
  have n0 := tJudge_0 ht
  obtain ⟨n1, n2⟩ := n0
  obtain ⟨e1, b1⟩ := rng (x := v0) (n := 4) (by decide) n1
  refine lv_aload_n hx hb dX7_judge_0 rfl (lv_at hl 0 rfl) ?_
  refine lv_iconst (v := (0 : Int32)) hx hb dX7_judge_1 (by decide) ?_
  refine va_put (D := D) (ci := 7) (v := .int (0 : Int32)) (ty := .int) (C := RX7) (T := TX7) (N := 12) hx hb hts hi7 tyX7 tyX7_ok nmX7 hown hKN.1 hP hD hS 0 rfl rfl 0 (by decide) (hts (.fieldLink RX7 41 "SnowPumpsModel" "thrown" "I") (by decide +kernel)) (fun _ h9 => h9) rfl (by decide +kernel) rfl rfl (Nat.le_of_ble_eq_true rfl) dX7_judge_2 (fun H locs hP hD hS => ?_)
  have hP : va_P D vwCl [(z, .inr (7, [.int (0 : Int32), .ref z1, .ref z2, .ref z3, .int (nI np), .ref z4, .ref z5, .ref z6, .int (nI nj), .ref z7, .ref q, .ref r])), (z6, .inl (Y 0, 5, .inl st))] _ := hP
  have hD : va_D A [(z, .inr (7, [.int (0 : Int32), .ref z1, .ref z2, .ref z3, .int (nI np), .ref z4, .ref z5, .ref z6, .int (nI nj), .ref z7, .ref q, .ref r])), (z6, .inl (Y 0, 5, .inl st))] := hD
  refine lv_iload_n hx hb dX7_judge_5 rfl (lv_at hl 1 rfl) ?_
  refine lv_iconst (v := (0 : Int32)) hx hb dX7_judge_6 (by decide) ?_
  refine lv_iconst (v := (4 : Int32)) hx hb dX7_judge_7 (by decide) ?_
  refine cSi (As := [.int v0, .int (0 : Int32), .int (4 : Int32)]) (rest := []) (ws' := [(z, .inr (7, [.int (0 : Int32), .ref z1, .ref z2, .ref z3, .int (nI np), .ref z4, .ref z5, .ref z6, .int (nI nj), .ref z7, .ref q, .ref r])), (z6, .inl (Y 0, 5, .inl st))]) ⟨hx, hb, hml, hown, hts⟩ (kX7_isIn l D Y _ v0 (0 : Int32) (4 : Int32) ) (va_cwS 3 hts gX7_judge_X7_isIn rfl rfl rfl (by decide +kernel) ⟨Nat.le_of_ble_eq_true rfl, Nat.le_of_ble_eq_true rfl⟩) hKN hP hD hS hA [] [0, 1] [0, 1] rfl (by decide) rfl rfl rfl rfl hl.1 (Nat.le_of_ble_eq_true rfl) dX7_judge_8 ⟨Nat.le_of_ble_eq_true rfl, Nat.le_of_ble_eq_true rfl⟩ (fun H locs hP hD hS => ?_)
  refine lv_eqi (y := (1 : Int32)) (by exact bi_t n1) ?_
  refine lv_if_ne (tgt := 20) hx hb dX7_judge_11 (by decide) (fun c_11 => ?_) (fun c_11 => by exfalso; revert c_11; decide)
  refine lv_iload_n hx hb dX7_judge_20 rfl (lv_at hl 2 rfl) ?_
  refine lv_iconst (v := (0 : Int32)) hx hb dX7_judge_21 (by decide) ?_
  refine lv_iconst (v := (4 : Int32)) hx hb dX7_judge_22 (by decide) ?_
  refine cSi (As := [.int v1, .int (0 : Int32), .int (4 : Int32)]) (rest := []) (ws' := [(z, .inr (7, [.int (0 : Int32), .ref z1, .ref z2, .ref z3, .int (nI np), .ref z4, .ref z5, .ref z6, .int (nI nj), .ref z7, .ref q, .ref r])), (z6, .inl (Y 0, 5, .inl st))]) ⟨hx, hb, hml, hown, hts⟩ (kX7_isIn l D Y _ v1 (0 : Int32) (4 : Int32) ) (va_cwS 3 hts gX7_judge_X7_isIn rfl rfl rfl (by decide +kernel) ⟨Nat.le_of_ble_eq_true rfl, Nat.le_of_ble_eq_true rfl⟩) hKN hP hD hS hA [] [0, 1] [0, 1] rfl (by decide) rfl rfl rfl rfl hl.1 (Nat.le_of_ble_eq_true rfl) dX7_judge_23 ⟨Nat.le_of_ble_eq_true rfl, Nat.le_of_ble_eq_true rfl⟩ (fun H locs hP hD hS => ?_)
  refine lv_eqi (y := (1 : Int32)) (by exact bi_t n2) ?_
  refine lv_if_ne (tgt := 35) hx hb dX7_judge_26 (by decide) (fun c_26 => ?_) (fun c_26 => by exfalso; revert c_26; decide)
  have ec_1 : v0 = (nI (ix v0)) := by exact e1
  have hl : lv_has ls 4 [(0, .ref z), (1, .int (nI (ix v0))), (2, .int v1)] := (congrArg (fun zz9 => lv_has ls 4 [(0, .ref z), (1, .int zz9), (2, .int v1)]) ec_1).mp hl
  refine lv_aload_n hx hb dX7_judge_35 rfl (lv_at hl 0 rfl) ?_
  refine va_get (D := D) (ci := 7) (v := .ref z6) (C := RX7) (T := TX7) (N := 12) hx hb hts hi7 hown hKN.1 hP 0 rfl rfl 7 (by decide) (hts (.fieldLink RX7 25 "SnowPumpsModel" "strict" "[I") (by decide +kernel)) (fun _ h9 => h9) rfl dX7_judge_36 ?_
  refine lv_iload_n hx hb dX7_judge_39 rfl (lv_at hl 1 rfl) ?_
  refine ia hx hb hKN.1 hP 1 0 rfl rfl (ix v0) (by rfl) (by omega) (by first | decide | assumption | omega) dX7_judge_40 ?_
  refine lv_istore_n (lv' := [(3, .int (st (ix v0))), (0, .ref z), (1, .int (nI (ix v0))), (2, .int v1)]) hx hb dX7_judge_41 rfl hl (by decide) rfl (fun ls hl => ?_)
  refine lv_aload_n hx hb dX7_judge_42 rfl (lv_at hl 1 rfl) ?_
  refine va_get (D := D) (ci := 7) (v := .ref z6) (C := RX7) (T := TX7) (N := 12) hx hb hts hi7 hown hKN.1 hP 0 rfl rfl 7 (by decide) (hts (.fieldLink RX7 25 "SnowPumpsModel" "strict" "[I") (by decide +kernel)) (fun _ h9 => h9) rfl dX7_judge_43 ?_
  refine lv_iload_n hx hb dX7_judge_46 rfl (lv_at hl 2 rfl) ?_
  refine lv_iload_n hx hb dX7_judge_47 rfl (lv_at hl 3 rfl) ?_
  refine is hx hb hKN.1 hP hD hS 1 0 rfl rfl (ix v0) (by rfl) (by omega) (by first | decide | assumption | omega) dX7_judge_48 (fun H locs hP hD hS => ?_)
  have hP : va_P D vwCl [(z, .inr (7, [.int (0 : Int32), .ref z1, .ref z2, .ref z3, .int (nI np), .ref z4, .ref z5, .ref z6, .int (nI nj), .ref z7, .ref q, .ref r])), (z6, .inl (Y 0, 5, .inl (upd st (ix v0) v1)))] _ := hP
  have hD : va_D A [(z, .inr (7, [.int (0 : Int32), .ref z1, .ref z2, .ref z3, .int (nI np), .ref z4, .ref z5, .ref z6, .int (nI nj), .ref z7, .ref q, .ref r])), (z6, .inl (Y 0, 5, .inl (upd st (ix v0) v1)))] := hD
  refine lv_iload_n hx hb dX7_judge_49 rfl (lv_at hl 0 rfl) ?_
  exact eI hx hb hr hlk hP hD hS (by rfl) (by rfl) (by exact Nat.le_of_ble_eq_true rfl) (by exact Nat.le_of_ble_eq_true rfl) dX7_judge_50
abbrev rm_kX7_judge_bad : Room := { frames := 1, cells := 0, slots := 0, locals := 22 }
set_option maxHeartbeats 4000000 in
set_option maxRecDepth 100000 in
theorem kX7_judge_bad (l : Launch) (D : va_G) (Y : Nat → ClassId) (sz : Nat) (z : Nat) (z1 : Nat) (z2 : Nat) (z3 : Nat) (z4 : Nat) (z5 : Nat) (z6 : Nat) (z7 : Nat) (q : Nat) (r : Nat) (st : fN) (th : Int32) (np : Nat) (nj : Nat) (v0 : Int32) (v1 : Int32) (ht : ¬ tJudge v0 v1 = 0) : MI l yX7_judge wsX7_judge rm_kX7_judge_bad D Y [.ref z, .int v0, .int v1] sz [(z, .inr (7, [.int th, .ref z1, .ref z2, .ref z3, .int (nI np), .ref z4, .ref z5, .ref z6, .int (nI nj), .ref z7, .ref q, .ref r])), (z6, .inl (Y 0, 5, .inl st))] (0 : Int32) [(z, .inr (7, [.int (nI (tJudge v0 v1)), .ref z1, .ref z2, .ref z3, .int (nI np), .ref z4, .ref z5, .ref z6, .int (nI nj), .ref z7, .ref q, .ref r])), (z6, .inl (Y 0, 5, .inl st))] 0 0 := by
  refine pcW_start (cc := cX7_judge) (maxL := 4) (ret := (some .int)) (Qc := fun A => va_Qi (fun (r : Int32) (_ : Unit) => r = (0 : Int32)) (qW D A [(z, .inr (7, [.int (nI (tJudge v0 v1)), .ref z1, .ref z2, .ref z3, .int (nI np), .ref z4, .ref z5, .ref z6, .int (nI nj), .ref z7, .ref q, .ref r])), (z6, .inl (Y 0, 5, .inl st))]) A) (by decide) rfl (Nat.le_of_ble_eq_true rfl) ?_
  intro p e s m below meth c A ls hE hKN hA hP hD hl
  obtain ⟨hx, hb, hr, hml, hown, hts, hlk, hin⟩ := hE
  have hown : s.vm.findClass RX7 = some m.cls := hown
  have hS : va_S A s.heap s.heap [] := va_S.rf
  have hi7 : ∀ w ∈ wsX70, w ∈ wsX7_judge := by decide +kernel
  have hl : lv_has ls 4 [(0, .ref z), (1, .int v0), (2, .int v1)] := hl
  refine lv_aload_n hx hb dX7_judge_0 rfl (lv_at hl 0 rfl) ?_
  refine lv_iconst (v := (0 : Int32)) hx hb dX7_judge_1 (by decide) ?_
  refine va_put (D := D) (ci := 7) (v := .int (0 : Int32)) (ty := .int) (C := RX7) (T := TX7) (N := 12) hx hb hts hi7 tyX7 tyX7_ok nmX7 hown hKN.1 hP hD hS 0 rfl rfl 0 (by decide) (hts (.fieldLink RX7 41 "SnowPumpsModel" "thrown" "I") (by decide +kernel)) (fun _ h9 => h9) rfl (by decide +kernel) rfl rfl (Nat.le_of_ble_eq_true rfl) dX7_judge_2 (fun H locs hP hD hS => ?_)
  have hP : va_P D vwCl [(z, .inr (7, [.int (0 : Int32), .ref z1, .ref z2, .ref z3, .int (nI np), .ref z4, .ref z5, .ref z6, .int (nI nj), .ref z7, .ref q, .ref r])), (z6, .inl (Y 0, 5, .inl st))] _ := hP
  have hD : va_D A [(z, .inr (7, [.int (0 : Int32), .ref z1, .ref z2, .ref z3, .int (nI np), .ref z4, .ref z5, .ref z6, .int (nI nj), .ref z7, .ref q, .ref r])), (z6, .inl (Y 0, 5, .inl st))] := hD
  refine lv_iload_n hx hb dX7_judge_5 rfl (lv_at hl 1 rfl) ?_
  refine lv_iconst (v := (0 : Int32)) hx hb dX7_judge_6 (by decide) ?_
  refine lv_iconst (v := (4 : Int32)) hx hb dX7_judge_7 (by decide) ?_
  refine cSi (As := [.int v0, .int (0 : Int32), .int (4 : Int32)]) (rest := []) (ws' := [(z, .inr (7, [.int (0 : Int32), .ref z1, .ref z2, .ref z3, .int (nI np), .ref z4, .ref z5, .ref z6, .int (nI nj), .ref z7, .ref q, .ref r])), (z6, .inl (Y 0, 5, .inl st))]) ⟨hx, hb, hml, hown, hts⟩ (kX7_isIn l D Y _ v0 (0 : Int32) (4 : Int32) ) (va_cwS 3 hts gX7_judge_X7_isIn rfl rfl rfl (by decide +kernel) ⟨Nat.le_of_ble_eq_true rfl, Nat.le_of_ble_eq_true rfl⟩) hKN hP hD hS hA [] [0, 1] [0, 1] rfl (by decide) rfl rfl rfl rfl hl.1 (Nat.le_of_ble_eq_true rfl) dX7_judge_8 ⟨Nat.le_of_ble_eq_true rfl, Nat.le_of_ble_eq_true rfl⟩ (fun H locs hP hD hS => ?_)
  refine lv_if_ne (tgt := 20) hx hb dX7_judge_11 (by decide) (fun c_11 => ?_) (fun c_11 => ?_)
  · have n1 : ¬ (v0 < 0 ∨ 4 < v0) := bi_n c_11
    refine lv_iload_n hx hb dX7_judge_20 rfl (lv_at hl 2 rfl) ?_
    refine lv_iconst (v := (0 : Int32)) hx hb dX7_judge_21 (by decide) ?_
    refine lv_iconst (v := (4 : Int32)) hx hb dX7_judge_22 (by decide) ?_
    refine cSi (As := [.int v1, .int (0 : Int32), .int (4 : Int32)]) (rest := []) (ws' := [(z, .inr (7, [.int (0 : Int32), .ref z1, .ref z2, .ref z3, .int (nI np), .ref z4, .ref z5, .ref z6, .int (nI nj), .ref z7, .ref q, .ref r])), (z6, .inl (Y 0, 5, .inl st))]) ⟨hx, hb, hml, hown, hts⟩ (kX7_isIn l D Y _ v1 (0 : Int32) (4 : Int32) ) (va_cwS 3 hts gX7_judge_X7_isIn rfl rfl rfl (by decide +kernel) ⟨Nat.le_of_ble_eq_true rfl, Nat.le_of_ble_eq_true rfl⟩) hKN hP hD hS hA [] [0, 1] [0, 1] rfl (by decide) rfl rfl rfl rfl hl.1 (Nat.le_of_ble_eq_true rfl) dX7_judge_23 ⟨Nat.le_of_ble_eq_true rfl, Nat.le_of_ble_eq_true rfl⟩ (fun H locs hP hD hS => ?_)
    refine lv_if_ne (tgt := 35) hx hb dX7_judge_26 (by decide) (fun c_26 => ?_) (fun c_26 => ?_)
    · exfalso
      exact ht (by unfold tJudge; rw [if_neg n1, if_neg (bi_n c_26)])
    · have e9 : tJudge v0 v1 = 2 := by unfold tJudge; rw [if_neg n1, if_pos (bi_0n c_26)]
      refine lv_aload_n hx hb dX7_judge_29 rfl (lv_at hl 0 rfl) ?_
      refine lv_iconst (v := (2 : Int32)) hx hb dX7_judge_30 (by decide) ?_
      refine cVi (As := [.int (2 : Int32)]) (rest := []) (ws' := [(z, .inr (7, [.int (2 : Int32), .ref z1, .ref z2, .ref z3, .int (nI np), .ref z4, .ref z5, .ref z6, .int (nI nj), .ref z7, .ref q, .ref r])), (z6, .inl (Y 0, 5, .inl st))]) ⟨hx, hb, hml, hown, hts⟩ (kX7_no l D Y _ z z1 z2 z3 z4 z5 z6 z7 q r (0 : Int32) np nj (2 : Int32) ) (cwV 1 hts gX7_judge_X7_no rfl rfl rfl (by decide +kernel) ⟨Nat.le_of_ble_eq_true rfl, Nat.le_of_ble_eq_true rfl⟩) hKN hP hD hS hA [0] [1] [1, 0] rfl (by decide) rfl rfl 0 7 rfl rfl rfl rfl hl.1 (Nat.le_of_ble_eq_true rfl) dX7_judge_31 ⟨Nat.le_of_ble_eq_true rfl, Nat.le_of_ble_eq_true rfl⟩ (fun H locs hP hD hS => ?_)
      have ec_1 : (2 : Int32) = (nI (tJudge v0 v1)) := by rw [e9]; first | done | rfl
      have hP : va_P D vwCl [(z, .inr (7, [.int (nI (tJudge v0 v1)), .ref z1, .ref z2, .ref z3, .int (nI np), .ref z4, .ref z5, .ref z6, .int (nI nj), .ref z7, .ref q, .ref r])), (z6, .inl (Y 0, 5, .inl st))] _ := (congrArg (fun zz9 => va_P D vwCl [(z, .inr (7, [.int zz9, .ref z1, .ref z2, .ref z3, .int (nI np), .ref z4, .ref z5, .ref z6, .int (nI nj), .ref z7, .ref q, .ref r])), (z6, .inl (Y 0, 5, .inl st))] _) ec_1).mp hP
      have hD : va_D A [(z, .inr (7, [.int (nI (tJudge v0 v1)), .ref z1, .ref z2, .ref z3, .int (nI np), .ref z4, .ref z5, .ref z6, .int (nI nj), .ref z7, .ref q, .ref r])), (z6, .inl (Y 0, 5, .inl st))] := (congrArg (fun zz9 => va_D A [(z, .inr (7, [.int zz9, .ref z1, .ref z2, .ref z3, .int (nI np), .ref z4, .ref z5, .ref z6, .int (nI nj), .ref z7, .ref q, .ref r])), (z6, .inl (Y 0, 5, .inl st))]) ec_1).mp hD
      exact eI hx hb hr hlk hP hD hS (by rfl) (by rfl) (by exact Nat.le_of_ble_eq_true rfl) (by exact Nat.le_of_ble_eq_true rfl) dX7_judge_34
  · have e9 : tJudge v0 v1 = 1 := by unfold tJudge; rw [if_pos (bi_0n c_11)]
    refine lv_aload_n hx hb dX7_judge_14 rfl (lv_at hl 0 rfl) ?_
    refine lv_iconst (v := (1 : Int32)) hx hb dX7_judge_15 (by decide) ?_
    refine cVi (As := [.int (1 : Int32)]) (rest := []) (ws' := [(z, .inr (7, [.int (1 : Int32), .ref z1, .ref z2, .ref z3, .int (nI np), .ref z4, .ref z5, .ref z6, .int (nI nj), .ref z7, .ref q, .ref r])), (z6, .inl (Y 0, 5, .inl st))]) ⟨hx, hb, hml, hown, hts⟩ (kX7_no l D Y _ z z1 z2 z3 z4 z5 z6 z7 q r (0 : Int32) np nj (1 : Int32) ) (cwV 1 hts gX7_judge_X7_no rfl rfl rfl (by decide +kernel) ⟨Nat.le_of_ble_eq_true rfl, Nat.le_of_ble_eq_true rfl⟩) hKN hP hD hS hA [0] [1] [1, 0] rfl (by decide) rfl rfl 0 7 rfl rfl rfl rfl hl.1 (Nat.le_of_ble_eq_true rfl) dX7_judge_16 ⟨Nat.le_of_ble_eq_true rfl, Nat.le_of_ble_eq_true rfl⟩ (fun H locs hP hD hS => ?_)
    have ec_2 : (1 : Int32) = (nI (tJudge v0 v1)) := by rw [e9]; first | done | rfl
    have hP : va_P D vwCl [(z, .inr (7, [.int (nI (tJudge v0 v1)), .ref z1, .ref z2, .ref z3, .int (nI np), .ref z4, .ref z5, .ref z6, .int (nI nj), .ref z7, .ref q, .ref r])), (z6, .inl (Y 0, 5, .inl st))] _ := (congrArg (fun zz9 => va_P D vwCl [(z, .inr (7, [.int zz9, .ref z1, .ref z2, .ref z3, .int (nI np), .ref z4, .ref z5, .ref z6, .int (nI nj), .ref z7, .ref q, .ref r])), (z6, .inl (Y 0, 5, .inl st))] _) ec_2).mp hP
    have hD : va_D A [(z, .inr (7, [.int (nI (tJudge v0 v1)), .ref z1, .ref z2, .ref z3, .int (nI np), .ref z4, .ref z5, .ref z6, .int (nI nj), .ref z7, .ref q, .ref r])), (z6, .inl (Y 0, 5, .inl st))] := (congrArg (fun zz9 => va_D A [(z, .inr (7, [.int zz9, .ref z1, .ref z2, .ref z3, .int (nI np), .ref z4, .ref z5, .ref z6, .int (nI nj), .ref z7, .ref q, .ref r])), (z6, .inl (Y 0, 5, .inl st))]) ec_2).mp hD
    exact eI hx hb hr hlk hP hD hS (by rfl) (by rfl) (by exact Nat.le_of_ble_eq_true rfl) (by exact Nat.le_of_ble_eq_true rfl) dX7_judge_19
abbrev rm_kX7_run : Room := { frames := 2, cells := 0, slots := 0, locals := 43 }
set_option maxHeartbeats 4000000 in
set_option maxRecDepth 100000 in
theorem kX7_run (l : Launch) (D : va_G) (Y : Nat → ClassId) (sz : Nat) (z : Nat) (z1 : Nat) (z2 : Nat) (z3 : Nat) (z4 : Nat) (z5 : Nat) (z6 : Nat) (z7 : Nat) (q : Nat) (q1 : Nat) (q2 : Nat) (q3 : Nat) (r : Nat) (ru : fN) (wt : Int32) (th : Int32) (tm : Nat) (np : Nat) (nj : Nat) (v0 : Int32) (ht : tRun v0 np = 0) (hnp : np ≤ 5) (hru : ∀ i, ru i = 0 ∨ ru i = 1) : MI l yX7_run wsX7_run rm_kX7_run D Y [.ref z, .int v0] sz [(z, .inr (7, [.int th, .ref z1, .ref z2, .ref z3, .int (nI np), .ref z4, .ref z5, .ref z6, .int (nI nj), .ref z7, .ref q, .ref r])), (q, .inr (6, [.int (nI tm), .int wt, .ref q1, .ref q2, .ref q3])), (q3, .inl (Y 0, 5, .inl ru))] (bi (ru (ix v0) = 0)) [(z, .inr (7, [.int (0 : Int32), .ref z1, .ref z2, .ref z3, .int (nI np), .ref z4, .ref z5, .ref z6, .int (nI nj), .ref z7, .ref q, .ref r])), (q, .inr (6, [.int (nI tm), .int wt, .ref q1, .ref q2, .ref q3])), (q3, .inl (Y 0, 5, .inl (upd ru (ix v0) (bi (ru (ix v0) = 0)))))] 0 0 := by
  refine pcW_start (cc := cX7_run) (maxL := 2) (ret := (some .boolean)) (Qc := fun A => va_Qi (fun (r : Int32) (_ : Unit) => r = (bi (ru (ix v0) = 0))) (qW D A [(z, .inr (7, [.int (0 : Int32), .ref z1, .ref z2, .ref z3, .int (nI np), .ref z4, .ref z5, .ref z6, .int (nI nj), .ref z7, .ref q, .ref r])), (q, .inr (6, [.int (nI tm), .int wt, .ref q1, .ref q2, .ref q3])), (q3, .inl (Y 0, 5, .inl (upd ru (ix v0) (bi (ru (ix v0) = 0)))))]) A) (by decide) rfl (Nat.le_of_ble_eq_true rfl) ?_
  intro p e s m below meth c A ls hE hKN hA hP hD hl
  obtain ⟨hx, hb, hr, hml, hown, hts, hlk, hin⟩ := hE
  have hown : s.vm.findClass RX7 = some m.cls := hown
  have hS : va_S A s.heap s.heap [] := va_S.rf
  have hi6 : ∀ w ∈ wsX60, w ∈ wsX7_run := by decide +kernel
  have hi7 : ∀ w ∈ wsX70, w ∈ wsX7_run := by decide +kernel
  have hl : lv_has ls 2 [(0, .ref z), (1, .int v0)] := hl
  have n1 := tRun_0 ht
  obtain ⟨e1, b1⟩ := rngm (x := v0) (n := np) (by omega) n1
  refine lv_aload_n hx hb dX7_run_0 rfl (lv_at hl 0 rfl) ?_
  refine lv_aload_n hx hb dX7_run_1 rfl (lv_at hl 0 rfl) ?_
  refine lv_iload_n hx hb dX7_run_2 rfl (lv_at hl 1 rfl) ?_
  refine cVi (As := [.int v0]) (rest := [.ref z]) (ws' := [(z, .inr (7, [.int th, .ref z1, .ref z2, .ref z3, .int (nI np), .ref z4, .ref z5, .ref z6, .int (nI nj), .ref z7, .ref q, .ref r])), (q, .inr (6, [.int (nI tm), .int wt, .ref q1, .ref q2, .ref q3])), (q3, .inl (Y 0, 5, .inl ru))]) ⟨hx, hb, hml, hown, hts⟩ (kX7_isPump l D Y _ z z1 z2 z3 z4 z5 z6 z7 q r th np nj v0 ) (cwV 1 hts gX7_run_X7_isPump rfl rfl rfl (by decide +kernel) ⟨Nat.le_of_ble_eq_true rfl, Nat.le_of_ble_eq_true rfl⟩) hKN hP hD hS hA [0] [1, 2] [2, 0, 1] rfl (by decide) rfl rfl 0 7 rfl rfl rfl rfl hl.1 (Nat.le_of_ble_eq_true rfl) dX7_run_3 ⟨Nat.le_of_ble_eq_true rfl, Nat.le_of_ble_eq_true rfl⟩ (fun H locs hP hD hS => ?_)
  refine lv_eqi (y := (1 : Int32)) (by exact bi_t n1) ?_
  refine lv_if_eq (tgt := 13) hx hb dX7_run_6 (by decide) (fun c_6 => by exfalso; revert c_6; decide) (fun c_6 => ?_)
  refine lv_iconst (v := (0 : Int32)) hx hb dX7_run_9 (by decide) ?_
  refine lv_goto (tgt := 14) hx hb dX7_run_10 (by decide) ?_
  refine va_put (D := D) (ci := 7) (v := .int (0 : Int32)) (ty := .int) (C := RX7) (T := TX7) (N := 12) hx hb hts hi7 tyX7 tyX7_ok nmX7 hown hKN.1 hP hD hS 0 rfl rfl 0 (by decide) (hts (.fieldLink RX7 41 "SnowPumpsModel" "thrown" "I") (by decide +kernel)) (fun _ h9 => h9) rfl (by decide +kernel) rfl rfl (Nat.le_of_ble_eq_true rfl) dX7_run_14 (fun H locs hP hD hS => ?_)
  have hP : va_P D vwCl [(z, .inr (7, [.int (0 : Int32), .ref z1, .ref z2, .ref z3, .int (nI np), .ref z4, .ref z5, .ref z6, .int (nI nj), .ref z7, .ref q, .ref r])), (q, .inr (6, [.int (nI tm), .int wt, .ref q1, .ref q2, .ref q3])), (q3, .inl (Y 0, 5, .inl ru))] _ := hP
  have hD : va_D A [(z, .inr (7, [.int (0 : Int32), .ref z1, .ref z2, .ref z3, .int (nI np), .ref z4, .ref z5, .ref z6, .int (nI nj), .ref z7, .ref q, .ref r])), (q, .inr (6, [.int (nI tm), .int wt, .ref q1, .ref q2, .ref q3])), (q3, .inl (Y 0, 5, .inl ru))] := hD
  refine lv_aload_n hx hb dX7_run_17 rfl (lv_at hl 0 rfl) ?_
  refine va_get (D := D) (ci := 7) (v := .int (0 : Int32)) (C := RX7) (T := TX7) (N := 12) hx hb hts hi7 hown hKN.1 hP 0 rfl rfl 0 (by decide) (hts (.fieldLink RX7 41 "SnowPumpsModel" "thrown" "I") (by decide +kernel)) (fun _ h9 => h9) rfl dX7_run_18 ?_
  refine lv_if_eq (tgt := 26) hx hb dX7_run_21 (by decide) (fun c_21 => ?_) (fun c_21 => by exfalso; revert c_21; decide)
  have ec_1 : v0 = (nI (ix v0)) := by exact e1
  have hl : lv_has ls 2 [(0, .ref z), (1, .int (nI (ix v0)))] := (congrArg (fun zz9 => lv_has ls 2 [(0, .ref z), (1, .int zz9)]) ec_1).mp hl
  refine lv_aload_n hx hb dX7_run_26 rfl (lv_at hl 0 rfl) ?_
  refine va_get (D := D) (ci := 7) (v := .ref q) (C := RX7) (T := TX7) (N := 12) hx hb hts hi7 hown hKN.1 hP 0 rfl rfl 10 (by decide) (hts (.fieldLink RX7 34 "SnowPumpsModel" "s" "LSnowPumpsModel$State;") (by decide +kernel)) (fun _ h9 => h9) rfl dX7_run_27 ?_
  refine va_getN (D := D) (ci := 6) (v := .ref q3) (C := RX6) (T := TX6) (N := 5) hx hb hts hi6 hown hKN.1 hP 1 rfl rfl 4 (by decide) (hKN.2.before 12 rfl) (fun _ h9 => h9) rfl dX7_run_30 ?_
  refine lv_iload_n hx hb dX7_run_33 rfl (lv_at hl 1 rfl) ?_
  refine lv_iconst (v := (1 : Int32)) hx hb dX7_run_34 (by decide) ?_
  refine lv_aload_n hx hb dX7_run_35 rfl (lv_at hl 0 rfl) ?_
  refine va_get (D := D) (ci := 7) (v := .ref q) (C := RX7) (T := TX7) (N := 12) hx hb hts hi7 hown hKN.1 hP 0 rfl rfl 10 (by decide) (hts (.fieldLink RX7 34 "SnowPumpsModel" "s" "LSnowPumpsModel$State;") (by decide +kernel)) (fun _ h9 => h9) rfl dX7_run_36 ?_
  refine va_getN (D := D) (ci := 6) (v := .ref q3) (C := RX6) (T := TX6) (N := 5) hx hb hts hi6 hown hKN.1 hP 1 rfl rfl 4 (by decide) (hKN.2.before 12 rfl) (fun _ h9 => h9) rfl dX7_run_39 ?_
  refine lv_iload_n hx hb dX7_run_42 rfl (lv_at hl 1 rfl) ?_
  refine ia hx hb hKN.1 hP 2 0 rfl rfl (ix v0) (by rfl) (by omega) (by first | decide | assumption | omega) dX7_run_43 ?_
  refine lv_isub hx hb dX7_run_44 ?_
  refine lv_eqi (y := bi (ru (ix v0) = 0)) (by exact (flip01 (hru _))) ?_
  refine is hx hb hKN.1 hP hD hS 2 0 rfl rfl (ix v0) (by rfl) (by omega) (by first | decide | assumption | omega) dX7_run_45 (fun H locs hP hD hS => ?_)
  have hP : va_P D vwCl [(z, .inr (7, [.int (0 : Int32), .ref z1, .ref z2, .ref z3, .int (nI np), .ref z4, .ref z5, .ref z6, .int (nI nj), .ref z7, .ref q, .ref r])), (q, .inr (6, [.int (nI tm), .int wt, .ref q1, .ref q2, .ref q3])), (q3, .inl (Y 0, 5, .inl (upd ru (ix v0) (bi (ru (ix v0) = 0)))))] _ := hP
  have hD : va_D A [(z, .inr (7, [.int (0 : Int32), .ref z1, .ref z2, .ref z3, .int (nI np), .ref z4, .ref z5, .ref z6, .int (nI nj), .ref z7, .ref q, .ref r])), (q, .inr (6, [.int (nI tm), .int wt, .ref q1, .ref q2, .ref q3])), (q3, .inl (Y 0, 5, .inl (upd ru (ix v0) (bi (ru (ix v0) = 0)))))] := hD
  refine lv_aload_n hx hb dX7_run_46 rfl (lv_at hl 0 rfl) ?_
  refine va_get (D := D) (ci := 7) (v := .ref q) (C := RX7) (T := TX7) (N := 12) hx hb hts hi7 hown hKN.1 hP 0 rfl rfl 10 (by decide) (hts (.fieldLink RX7 34 "SnowPumpsModel" "s" "LSnowPumpsModel$State;") (by decide +kernel)) (fun _ h9 => h9) rfl dX7_run_47 ?_
  refine va_getN (D := D) (ci := 6) (v := .ref q3) (C := RX6) (T := TX6) (N := 5) hx hb hts hi6 hown hKN.1 hP 1 rfl rfl 4 (by decide) (hKN.2.before 12 rfl) (fun _ h9 => h9) rfl dX7_run_50 ?_
  refine lv_iload_n hx hb dX7_run_53 rfl (lv_at hl 1 rfl) ?_
  refine ia hx hb hKN.1 hP 2 0 rfl rfl (ix v0) (by rfl) (by omega) (by first | decide | assumption | omega) dX7_run_54 ?_
  refine lv_eqi (y := bi (ru (ix v0) = 0)) (by exact upd_s _ _ _) ?_
  refine lv_iconst (v := (1 : Int32)) hx hb dX7_run_55 (by decide) ?_
  refine JT (jp := 64) (r' := []) (E := bi (ru (ix v0) = 0)) (fun K_2 => ?_) ?_
  · refine lv_icmp_ne (tgt := 63) hx hb dX7_run_56 (by decide) (fun c_56 => ?_) (fun c_56 => ?_)
    · refine lv_iconst (v := (0 : Int32)) hx hb dX7_run_63 (by decide) ?_
      exact K_2 _ (by first | exact c_56.symm | exact ((bi_01 _).resolve_right c_56).symm)
    · refine lv_iconst (v := (1 : Int32)) hx hb dX7_run_59 (by decide) ?_
      refine lv_goto (tgt := 64) hx hb dX7_run_60 (by decide) ?_
      exact K_2 _ (by first | exact c_56.symm | exact ((bi_01 _).resolve_right c_56).symm)
  exact eI hx hb hr hlk hP hD hS (by first | rfl | exact narZ _) (by rfl) (by exact Nat.le_of_ble_eq_true rfl) (by exact Nat.le_of_ble_eq_true rfl) dX7_run_64
abbrev rm_kX7_run_bad : Room := { frames := 2, cells := 0, slots := 0, locals := 43 }
set_option maxHeartbeats 4000000 in
set_option maxRecDepth 100000 in
theorem kX7_run_bad (l : Launch) (D : va_G) (Y : Nat → ClassId) (sz : Nat) (z : Nat) (z1 : Nat) (z2 : Nat) (z3 : Nat) (z4 : Nat) (z5 : Nat) (z6 : Nat) (z7 : Nat) (q : Nat) (q1 : Nat) (q2 : Nat) (q3 : Nat) (r : Nat) (ru : fN) (wt : Int32) (th : Int32) (tm : Nat) (np : Nat) (nj : Nat) (v0 : Int32) (ht : ¬ tRun v0 np = 0) (hnp : np ≤ 5) : MI l yX7_run wsX7_run rm_kX7_run_bad D Y [.ref z, .int v0] sz [(z, .inr (7, [.int th, .ref z1, .ref z2, .ref z3, .int (nI np), .ref z4, .ref z5, .ref z6, .int (nI nj), .ref z7, .ref q, .ref r])), (q, .inr (6, [.int (nI tm), .int wt, .ref q1, .ref q2, .ref q3])), (q3, .inl (Y 0, 5, .inl ru))] (0 : Int32) [(z, .inr (7, [.int (nI (tRun v0 np)), .ref z1, .ref z2, .ref z3, .int (nI np), .ref z4, .ref z5, .ref z6, .int (nI nj), .ref z7, .ref q, .ref r])), (q, .inr (6, [.int (nI tm), .int wt, .ref q1, .ref q2, .ref q3])), (q3, .inl (Y 0, 5, .inl ru))] 0 0 := by
  refine pcW_start (cc := cX7_run) (maxL := 2) (ret := (some .boolean)) (Qc := fun A => va_Qi (fun (r : Int32) (_ : Unit) => r = (0 : Int32)) (qW D A [(z, .inr (7, [.int (nI (tRun v0 np)), .ref z1, .ref z2, .ref z3, .int (nI np), .ref z4, .ref z5, .ref z6, .int (nI nj), .ref z7, .ref q, .ref r])), (q, .inr (6, [.int (nI tm), .int wt, .ref q1, .ref q2, .ref q3])), (q3, .inl (Y 0, 5, .inl ru))]) A) (by decide) rfl (Nat.le_of_ble_eq_true rfl) ?_
  intro p e s m below meth c A ls hE hKN hA hP hD hl
  obtain ⟨hx, hb, hr, hml, hown, hts, hlk, hin⟩ := hE
  have hown : s.vm.findClass RX7 = some m.cls := hown
  have hS : va_S A s.heap s.heap [] := va_S.rf
  have hi7 : ∀ w ∈ wsX70, w ∈ wsX7_run := by decide +kernel
  have hl : lv_has ls 2 [(0, .ref z), (1, .int v0)] := hl
  have e9 : tRun v0 np = 1 := tRun_n ht
  refine lv_aload_n hx hb dX7_run_0 rfl (lv_at hl 0 rfl) ?_
  refine lv_aload_n hx hb dX7_run_1 rfl (lv_at hl 0 rfl) ?_
  refine lv_iload_n hx hb dX7_run_2 rfl (lv_at hl 1 rfl) ?_
  refine cVi (As := [.int v0]) (rest := [.ref z]) (ws' := [(z, .inr (7, [.int th, .ref z1, .ref z2, .ref z3, .int (nI np), .ref z4, .ref z5, .ref z6, .int (nI nj), .ref z7, .ref q, .ref r])), (q, .inr (6, [.int (nI tm), .int wt, .ref q1, .ref q2, .ref q3])), (q3, .inl (Y 0, 5, .inl ru))]) ⟨hx, hb, hml, hown, hts⟩ (kX7_isPump l D Y _ z z1 z2 z3 z4 z5 z6 z7 q r th np nj v0 ) (cwV 1 hts gX7_run_X7_isPump rfl rfl rfl (by decide +kernel) ⟨Nat.le_of_ble_eq_true rfl, Nat.le_of_ble_eq_true rfl⟩) hKN hP hD hS hA [0] [1, 2] [2, 0, 1] rfl (by decide) rfl rfl 0 7 rfl rfl rfl rfl hl.1 (Nat.le_of_ble_eq_true rfl) dX7_run_3 ⟨Nat.le_of_ble_eq_true rfl, Nat.le_of_ble_eq_true rfl⟩ (fun H locs hP hD hS => ?_)
  refine lv_eqi (y := (0 : Int32)) (by exact bi_f (fun h9 => ht (by unfold tRun; rw [if_neg h9]))) ?_
  refine lv_if_eq (tgt := 13) hx hb dX7_run_6 (by decide) (fun c_6 => ?_) (fun c_6 => by exfalso; revert c_6; decide)
  refine lv_iconst (v := (1 : Int32)) hx hb dX7_run_13 (by decide) ?_
  refine va_put (D := D) (ci := 7) (v := .int (1 : Int32)) (ty := .int) (C := RX7) (T := TX7) (N := 12) hx hb hts hi7 tyX7 tyX7_ok nmX7 hown hKN.1 hP hD hS 0 rfl rfl 0 (by decide) (hts (.fieldLink RX7 41 "SnowPumpsModel" "thrown" "I") (by decide +kernel)) (fun _ h9 => h9) rfl (by decide +kernel) rfl rfl (Nat.le_of_ble_eq_true rfl) dX7_run_14 (fun H locs hP hD hS => ?_)
  have hP : va_P D vwCl [(z, .inr (7, [.int (1 : Int32), .ref z1, .ref z2, .ref z3, .int (nI np), .ref z4, .ref z5, .ref z6, .int (nI nj), .ref z7, .ref q, .ref r])), (q, .inr (6, [.int (nI tm), .int wt, .ref q1, .ref q2, .ref q3])), (q3, .inl (Y 0, 5, .inl ru))] _ := hP
  have hD : va_D A [(z, .inr (7, [.int (1 : Int32), .ref z1, .ref z2, .ref z3, .int (nI np), .ref z4, .ref z5, .ref z6, .int (nI nj), .ref z7, .ref q, .ref r])), (q, .inr (6, [.int (nI tm), .int wt, .ref q1, .ref q2, .ref q3])), (q3, .inl (Y 0, 5, .inl ru))] := hD
  refine lv_aload_n hx hb dX7_run_17 rfl (lv_at hl 0 rfl) ?_
  refine va_get (D := D) (ci := 7) (v := .int (1 : Int32)) (C := RX7) (T := TX7) (N := 12) hx hb hts hi7 hown hKN.1 hP 0 rfl rfl 0 (by decide) (hts (.fieldLink RX7 41 "SnowPumpsModel" "thrown" "I") (by decide +kernel)) (fun _ h9 => h9) rfl dX7_run_18 ?_
  refine lv_if_eq (tgt := 26) hx hb dX7_run_21 (by decide) (fun c_21 => by exfalso; revert c_21; decide) (fun c_21 => ?_)
  have ec_1 : (1 : Int32) = (nI (tRun v0 np)) := by rw [e9]; first | done | rfl
  have hP : va_P D vwCl [(z, .inr (7, [.int (nI (tRun v0 np)), .ref z1, .ref z2, .ref z3, .int (nI np), .ref z4, .ref z5, .ref z6, .int (nI nj), .ref z7, .ref q, .ref r])), (q, .inr (6, [.int (nI tm), .int wt, .ref q1, .ref q2, .ref q3])), (q3, .inl (Y 0, 5, .inl ru))] _ := (congrArg (fun zz9 => va_P D vwCl [(z, .inr (7, [.int zz9, .ref z1, .ref z2, .ref z3, .int (nI np), .ref z4, .ref z5, .ref z6, .int (nI nj), .ref z7, .ref q, .ref r])), (q, .inr (6, [.int (nI tm), .int wt, .ref q1, .ref q2, .ref q3])), (q3, .inl (Y 0, 5, .inl ru))] _) ec_1).mp hP
  have hD : va_D A [(z, .inr (7, [.int (nI (tRun v0 np)), .ref z1, .ref z2, .ref z3, .int (nI np), .ref z4, .ref z5, .ref z6, .int (nI nj), .ref z7, .ref q, .ref r])), (q, .inr (6, [.int (nI tm), .int wt, .ref q1, .ref q2, .ref q3])), (q3, .inl (Y 0, 5, .inl ru))] := (congrArg (fun zz9 => va_D A [(z, .inr (7, [.int zz9, .ref z1, .ref z2, .ref z3, .int (nI np), .ref z4, .ref z5, .ref z6, .int (nI nj), .ref z7, .ref q, .ref r])), (q, .inr (6, [.int (nI tm), .int wt, .ref q1, .ref q2, .ref q3])), (q3, .inl (Y 0, 5, .inl ru))]) ec_1).mp hD
  refine lv_iconst (v := (0 : Int32)) hx hb dX7_run_24 (by decide) ?_
  exact eI hx hb hr hlk hP hD hS (by first | rfl | exact narZ _) (by rfl) (by exact Nat.le_of_ble_eq_true rfl) (by exact Nat.le_of_ble_eq_true rfl) dX7_run_25
