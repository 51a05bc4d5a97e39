abbrev rm_kX5_mean : Room := { frames := 2, cells := 0, slots := 0, locals := 45 }
set_option maxHeartbeats 4000000 in
set_option maxRecDepth 100000 in
theorem kX5_mean (l : Launch) (D : va_G) (Y : Nat → ClassId) (sz : Nat) (x : Nat) (w : Nat) (pu : Nat) (h : Nat) (a : Nat) (j : Nat) (u : Nat) (u1 : Nat) (u2 : Nat) (u3 : Nat) (u4 : Nat) (u5 : Nat) (jr : fN) (ln : fN) (pt : fN) (fa : fN) (ho : fN) (nj : Nat) (hnj : nj ≤ 30) : MD l yX5_mean wsX5_mean rm_kX5_mean D Y [.ref x] sz [(x, .inr (5, [.ref w, .ref pu, .ref h, .ref a, .ref j, .ref u])), (u, .inr (1, [.ref u1, .ref u2, .ref u3, .ref u4, .ref u5, .int (nI nj)])), (u1, .inl (Y 0, 30, .inl jr)), (u2, .inl (Y 0, 30, .inl ln)), (u3, .inl (Y 0, 30, .inl pt)), (u4, .inl (Y 0, 30, .inl fa)), (u5, .inl (Y 0, 30, .inl ho))] (meanU pt nj) [(x, .inr (5, [.ref w, .ref pu, .ref h, .ref a, .ref j, .ref u])), (u, .inr (1, [.ref u1, .ref u2, .ref u3, .ref u4, .ref u5, .int (nI nj)])), (u1, .inl (Y 0, 30, .inl jr)), (u2, .inl (Y 0, 30, .inl ln)), (u3, .inl (Y 0, 30, .inl pt)), (u4, .inl (Y 0, 30, .inl fa)), (u5, .inl (Y 0, 30, .inl ho))] 0 0 := by
  refine pcW_start (cc := cX5_mean) (maxL := 1) (ret := (some .double)) (Qc := fun A => va_Qd (fun (r : UInt64) (_ : Unit) => r = (meanU pt nj)) (qW D A [(x, .inr (5, [.ref w, .ref pu, .ref h, .ref a, .ref j, .ref u])), (u, .inr (1, [.ref u1, .ref u2, .ref u3, .ref u4, .ref u5, .int (nI nj)])), (u1, .inl (Y 0, 30, .inl jr)), (u2, .inl (Y 0, 30, .inl ln)), (u3, .inl (Y 0, 30, .inl pt)), (u4, .inl (Y 0, 30, .inl fa)), (u5, .inl (Y 0, 30, .inl ho))]) A) (by decide) rfl (Nat.le_of_ble_eq_true rfl) ?_
  intro p e s m below meth c A ls hE hKN hA hP hD hl
  obtain ⟨hx, hb, hr, hml, hown, hts, hlk, hin⟩ := hE
  have hown : s.vm.findClass RX5 = some m.cls := hown
  have hS : va_S A s.heap s.heap [] := va_S.rf
  have hi1 : ∀ w ∈ wsX10, w ∈ wsX5_mean := by decide +kernel
  have hi5 : ∀ w ∈ wsX50, w ∈ wsX5_mean := by decide +kernel
  have hl : lv_has ls 1 [(0, .ref x)] := hl
  refine lv_aload_n hx hb dX5_mean_0 rfl (lv_at hl 0 rfl) ?_
  refine va_get (D := D) (ci := 5) (v := .ref u) (C := RX5) (T := TX5) (N := 6) hx hb hts hi5 hown hKN.1 hP 0 rfl rfl 5 (by decide) (hts (.fieldLink RX5 45 "SnowPumps" "jumps" "LSnowPumps$Jumps;") (by decide +kernel)) (fun _ h9 => h9) rfl dX5_mean_1 ?_
  refine va_get (D := D) (ci := 1) (v := .int (nI nj)) (C := RX1) (T := TX1) (N := 6) hx hb hts hi1 hown hKN.1 hP 1 rfl rfl 5 (by decide) (hts (.fieldLink RX5 138 "SnowPumps$Jumps" "count" "I") (by decide +kernel)) (fun _ h9 => h9) rfl dX5_mean_4 ?_
  refine lv_if_ne (tgt := 12) hx hb dX5_mean_7 (by decide) (fun c_7 => ?_) (fun c_7 => ?_)
  · have h0 : 0 < nj := Nat.pos_of_ne_zero (fun h9 => c_7 (by rw [h9]; rfl))
    refine lv_aload_n hx hb dX5_mean_12 rfl (lv_at hl 0 rfl) ?_
    refine va_get (D := D) (ci := 5) (v := .ref u) (C := RX5) (T := TX5) (N := 6) hx hb hts hi5 hown hKN.1 hP 0 rfl rfl 5 (by decide) (hts (.fieldLink RX5 45 "SnowPumps" "jumps" "LSnowPumps$Jumps;") (by decide +kernel)) (fun _ h9 => h9) rfl dX5_mean_13 ?_
    refine cVi (As := []) (rest := []) (ws' := [(x, .inr (5, [.ref w, .ref pu, .ref h, .ref a, .ref j, .ref u])), (u, .inr (1, [.ref u1, .ref u2, .ref u3, .ref u4, .ref u5, .int (nI nj)])), (u1, .inl (Y 0, 30, .inl jr)), (u2, .inl (Y 0, 30, .inl ln)), (u3, .inl (Y 0, 30, .inl pt)), (u4, .inl (Y 0, 30, .inl fa)), (u5, .inl (Y 0, 30, .inl ho))]) ⟨hx, hb, hml, hown, hts⟩ (kX1_allPoints l D Y _ u u1 u2 u3 u4 u5 nj jr ln pt fa ho ) (cwV 0 hts gX5_mean_X1_allPoints rfl rfl rfl (by decide +kernel) ⟨Nat.le_of_ble_eq_true rfl, Nat.le_of_ble_eq_true rfl⟩) hKN hP hD hS hA [1, 2, 3, 4, 5, 6] [0] [0, 1, 2, 3, 4, 5, 6] rfl (by decide) rfl rfl 1 1 rfl rfl rfl rfl hl.1 (Nat.le_of_ble_eq_true rfl) dX5_mean_16 ⟨Nat.le_of_ble_eq_true rfl, Nat.le_of_ble_eq_true rfl⟩ (fun H locs hP hD hS => ?_)
    refine lv_i2d hx hb dX5_mean_19 ?_
    refine lv_aload_n hx hb dX5_mean_20 rfl (lv_at hl 0 rfl) ?_
    refine va_get (D := D) (ci := 5) (v := .ref u) (C := RX5) (T := TX5) (N := 6) hx hb hts hi5 hown hKN.1 hP 0 rfl rfl 5 (by decide) (hts (.fieldLink RX5 45 "SnowPumps" "jumps" "LSnowPumps$Jumps;") (by decide +kernel)) (fun _ h9 => h9) rfl dX5_mean_21 ?_
    refine va_get (D := D) (ci := 1) (v := .int (nI nj)) (C := RX1) (T := TX1) (N := 6) hx hb hts hi1 hown hKN.1 hP 1 rfl rfl 5 (by decide) (hts (.fieldLink RX5 138 "SnowPumps$Jumps" "count" "I") (by decide +kernel)) (fun _ h9 => h9) rfl dX5_mean_24 ?_
    refine lv_i2d hx hb dX5_mean_27 ?_
    refine lv_ddiv hx hb dX5_mean_28 (by exact ddiv_ok h0 hnj) ?_
    exact eD hx hb hr hlk hP hD hS (by exact (if_neg (Nat.ne_of_gt h0)).symm) (by exact Nat.le_of_ble_eq_true rfl) (by exact Nat.le_of_ble_eq_true rfl) dX5_mean_29
  · obtain rfl : nj = 0 := (nI_eq (a := nj) (b := 0) (by omega) (by omega)).mp (by first | exact c_7 | exact Decidable.not_not.mp c_7)
    refine lv_dconst0 hx hb dX5_mean_10 ?_
    exact eD hx hb hr hlk hP hD hS (by rfl) (by exact Nat.le_of_ble_eq_true rfl) (by exact Nat.le_of_ble_eq_true rfl) dX5_mean_11
abbrev rm_kL_below : Room := { frames := 0, cells := 0, slots := 0, locals := 0 }
set_option maxHeartbeats 4000000 in
set_option maxRecDepth 100000 in
theorem kL_below (l : Launch) (D : va_G) (Y : Nat → ClassId) (sz : Nat) (v : Int32) (n : Nat) (h0 : 0 < n) (h1 : n < 2 ^ 31) : MI l yL_below wsL_below rm_kL_below D Y [.int v, .int (nI n)] sz [] (nI (bw v n)) [] 0 0 := by
  refine pcW_start (cc := cL_below) (maxL := 2) (ret := (some .int)) (Qc := fun A => va_Qi (fun (r : Int32) (_ : Unit) => r = (nI (bw v n))) (qW D A []) A) (by decide) rfl (Nat.le_of_ble_eq_true rfl) ?_
  intro p e s m below meth c A ls hE hKN hA hP hD hl
  obtain ⟨hx, hb, hr, hml, hown, hts, hlk, hin⟩ := hE
  have hown : s.vm.findClass RL = some m.cls := hown
  have hS : va_S A s.heap s.heap [] := va_S.rf
  have hl : lv_has ls 2 [(0, .int v), (1, .int (nI n))] := hl
  refine lv_iload_n hx hb dL_below_0 rfl (lv_at hl 0 rfl) ?_
  refine lv_ldc (v := (2147483647 : Int32)) hx hb hown (hts (.constant RL 7 (2147483647 : Int32)) (by decide +kernel)) dL_below_1 ?_
  refine lv_iand hx hb dL_below_3 ?_
  refine lv_eqi (y := nI (v.toBitVec.toNat % 2 ^ 31)) (by exact pk_and v 31 (by decide)) ?_
  refine lv_iload_n hx hb dL_below_4 rfl (lv_at hl 1 rfl) ?_
  refine lv_irem hx hb dL_below_5 (by exact nI_ne0 h0 h1) ?_
  refine lv_eqi (y := nI (bw v n)) (by exact pk_rem (Nat.mod_lt _ (by decide)) h0 h1) ?_
  exact eI hx hb hr hlk hP hD hS (by rfl) (by rfl) (by exact Nat.le_of_ble_eq_true rfl) (by exact Nat.le_of_ble_eq_true rfl) dL_below_6
