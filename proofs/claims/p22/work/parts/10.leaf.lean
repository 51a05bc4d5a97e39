abbrev rm_kX5_isOutside : Room := { frames := 0, cells := 0, slots := 0, locals := 0 }
set_option maxHeartbeats 4000000 in
set_option maxRecDepth 100000 in
theorem kX5_isOutside (l : Launch) (D : va_G) (Y : Nat → ClassId) (sz : Nat) (v : Int32) (lo : Int32) (hi : Int32)  : MI l yX5_isOutside wsX5_isOutside rm_kX5_isOutside D Y [.int v, .int lo, .int hi] sz [] (bi (v < lo ∨ hi < v)) [] 0 0 := by
  refine pcW_start (cc := cX5_isOutside) (maxL := 3) (ret := (some .boolean)) (Qc := fun A => va_Qi (fun (r : Int32) (_ : Unit) => r = (bi (v < lo ∨ hi < v))) (qW D A []) A) (by decide) rfl (Nat.le_of_ble_eq_true rfl) ?_
  intro p e s m below meth c A ls hE hKN hA hP hD hl
  obtain ⟨hx, hb, hr, hml, hown, hts, hlk, hin⟩ := hE
  have hown : s.vm.findClass RX5 = some m.cls := hown
  have hS : va_S A s.heap s.heap [] := va_S.rf
  have hl : lv_has ls 3 [(0, .int v), (1, .int lo), (2, .int hi)] := hl
  refine lv_iload_n hx hb dX5_isOutside_0 rfl (lv_at hl 0 rfl) ?_
  refine lv_iload_n hx hb dX5_isOutside_1 rfl (lv_at hl 1 rfl) ?_
  refine lv_icmp_lt (tgt := 10) hx hb dX5_isOutside_2 (by decide) (fun c_2 => ?_) (fun c_2 => ?_)
  · have c_7 : True := trivial
    refine lv_iconst (v := (1 : Int32)) hx hb dX5_isOutside_10 (by decide) ?_
    refine lv_goto (tgt := 15) hx hb dX5_isOutside_11 (by decide) ?_
    exact eI hx hb hr hlk hP hD hS (by first | rfl | exact narZ _) (by first | exact (bi_t (Or.inl c_2)).symm | exact (bi_t (Or.inr (Int32.not_le.mp c_7))).symm | exact (bi_f (fun h9 => h9.elim c_2 (fun h8 => absurd c_7 (Int32.not_le.mpr h8)))).symm) (by exact Nat.le_of_ble_eq_true rfl) (by exact Nat.le_of_ble_eq_true rfl) dX5_isOutside_15
  · refine lv_iload_n hx hb dX5_isOutside_5 rfl (lv_at hl 0 rfl) ?_
    refine lv_iload_n hx hb dX5_isOutside_6 rfl (lv_at hl 2 rfl) ?_
    refine lv_icmp_le (tgt := 14) hx hb dX5_isOutside_7 (by decide) (fun c_7 => ?_) (fun c_7 => ?_)
    · refine lv_iconst (v := (0 : Int32)) hx hb dX5_isOutside_14 (by decide) ?_
      exact eI hx hb hr hlk hP hD hS (by first | rfl | exact narZ _) (by first | exact (bi_t (Or.inl c_2)).symm | exact (bi_t (Or.inr (Int32.not_le.mp c_7))).symm | exact (bi_f (fun h9 => h9.elim c_2 (fun h8 => absurd c_7 (Int32.not_le.mpr h8)))).symm) (by exact Nat.le_of_ble_eq_true rfl) (by exact Nat.le_of_ble_eq_true rfl) dX5_isOutside_15
    · refine lv_iconst (v := (1 : Int32)) hx hb dX5_isOutside_10 (by decide) ?_
      refine lv_goto (tgt := 15) hx hb dX5_isOutside_11 (by decide) ?_
      exact eI hx hb hr hlk hP hD hS (by first | rfl | exact narZ _) (by first | exact (bi_t (Or.inl c_2)).symm | exact (bi_t (Or.inr (Int32.not_le.mp c_7))).symm | exact (bi_f (fun h9 => h9.elim c_2 (fun h8 => absurd c_7 (Int32.not_le.mpr h8)))).symm) (by exact Nat.le_of_ble_eq_true rfl) (by exact Nat.le_of_ble_eq_true rfl) dX5_isOutside_15
abbrev rm_kX5_hold : Room := { frames := 1, cells := 0, slots := 0, locals := 14 }
set_option maxHeartbeats 4000000 in
set_option maxRecDepth 100000 in
theorem kX5_hold (l : Launch) (D : va_G) (Y : Nat → ClassId) (sz : Nat) (v : Int32) (lo : Int32) (hi : Int32)  : MI l yX5_hold wsX5_hold rm_kX5_hold D Y [.int v, .int lo, .int hi] sz [] (mxI lo (mnI v hi)) [] 0 0 := by
  refine pcW_start (cc := cX5_hold) (maxL := 3) (ret := (some .int)) (Qc := fun A => va_Qi (fun (r : Int32) (_ : Unit) => r = (mxI lo (mnI v hi))) (qW D A []) A) (by decide) rfl (Nat.le_of_ble_eq_true rfl) ?_
  intro p e s m below meth c A ls hE hKN hA hP hD hl
  obtain ⟨hx, hb, hr, hml, hown, hts, hlk, hin⟩ := hE
  have hown : s.vm.findClass RX5 = some m.cls := hown
  have hS : va_S A s.heap s.heap [] := va_S.rf
  have hl : lv_has ls 3 [(0, .int v), (1, .int lo), (2, .int hi)] := hl
  refine lv_iload_n hx hb dX5_hold_0 rfl (lv_at hl 1 rfl) ?_
  refine lv_iload_n hx hb dX5_hold_1 rfl (lv_at hl 0 rfl) ?_
  refine lv_iload_n hx hb dX5_hold_2 rfl (lv_at hl 2 rfl) ?_
  refine va_mmin hx hb (hml.trans hl.1.symm) hown (hts (.methodLink RX5 111 Lib.Math.min.name) (by decide +kernel)) (hts (.static Lib.Math.min.name) (by decide +kernel)) (hts (.initialized "java/lang/Math") (by decide +kernel)) (hts (.code Lib.Math.min.name Lib.Math.min.code 2 (some .int)) (by decide +kernel)) (Nat.le_of_ble_eq_true rfl) (Nat.le_of_ble_eq_true rfl) (by exact Nat.le_of_ble_eq_true rfl) (by exact Nat.le_of_ble_eq_true rfl) dX5_hold_3 ?_
  refine lv_eqi (y := mnI v hi) rfl ?_
  refine va_mmax hx hb (hml.trans hl.1.symm) hown (hts (.methodLink RX5 254 Lib.Math.max.name) (by decide +kernel)) (hts (.static Lib.Math.max.name) (by decide +kernel)) (hts (.initialized "java/lang/Math") (by decide +kernel)) (hts (.code Lib.Math.max.name Lib.Math.max.code 2 (some .int)) (by decide +kernel)) (Nat.le_of_ble_eq_true rfl) (Nat.le_of_ble_eq_true rfl) (by exact Nat.le_of_ble_eq_true rfl) (by exact Nat.le_of_ble_eq_true rfl) dX5_hold_6 ?_
  refine lv_eqi (y := mxI lo (mnI v hi)) rfl ?_
  exact eI hx hb hr hlk hP hD hS (by rfl) (by rfl) (by exact Nat.le_of_ble_eq_true rfl) (by exact Nat.le_of_ble_eq_true rfl) dX5_hold_9
abbrev rm_kX5_sum : Room := { frames := 0, cells := 0, slots := 0, locals := 0 }
set_option maxHeartbeats 4000000 in
set_option maxRecDepth 100000 in
theorem kX5_sum (l : Launch) (D : va_G) (Y : Nat → ClassId) (sz : Nat) (a : Nat) (n : Nat) (f : fN) (hn : n < 2 ^ 31) : MI l yX5_sum wsX5_sum rm_kX5_sum D Y [.ref a] sz [(a, .inl (Y 0, n, .inl f))] (sumU f n) [(a, .inl (Y 0, n, .inl f))] 0 0 := by
  refine pcW_start (cc := cX5_sum) (maxL := 6) (ret := (some .int)) (Qc := fun A => va_Qi (fun (r : Int32) (_ : Unit) => r = (sumU f n)) (qW D A [(a, .inl (Y 0, n, .inl f))]) A) (by decide) rfl (Nat.le_of_ble_eq_true rfl) ?_
  intro p e s m below meth c A ls hE hKN hA hP hD hl
  obtain ⟨hx, hb, hr, hml, hown, hts, hlk, hin⟩ := hE
  have hown : s.vm.findClass RX5 = some m.cls := hown
  have hS : va_S A s.heap s.heap [] := va_S.rf
  have hl : lv_has ls 6 [(0, .ref a)] := hl
  refine lv_iconst (v := (0 : Int32)) hx hb dX5_sum_0 (by decide) ?_
  refine lv_istore_n (lv' := [(1, .int (0 : Int32)), (0, .ref a)]) hx hb dX5_sum_1 rfl hl (by decide) rfl (fun ls hl => ?_)
  refine lv_aload_n hx hb dX5_sum_2 rfl (lv_at hl 1 rfl) ?_
  refine lv_astore_n (lv' := [(2, .ref a), (1, .int (0 : Int32)), (0, .ref a)]) hx hb dX5_sum_3 rfl hl (by decide) rfl (fun ls hl => ?_)
  refine lv_aload_n hx hb dX5_sum_4 rfl (lv_at hl 0 rfl) ?_
  refine va_alen hx hb hKN.1 hP 0 0 rfl rfl (v := nI n) (by rfl) dX5_sum_5 ?_
  refine lv_istore_n (lv' := [(3, .int (nI n)), (2, .ref a), (1, .int (0 : Int32)), (0, .ref a)]) hx hb dX5_sum_6 rfl hl (by decide) rfl (fun ls hl => ?_)
  refine lv_iconst (v := (0 : Int32)) hx hb dX5_sum_7 (by decide) ?_
  refine lv_istore (lv' := [(4, .int (0 : Int32)), (3, .int (nI n)), (2, .ref a), (1, .int (0 : Int32)), (0, .ref a)]) hx hb dX5_sum_8 hl (by decide) rfl (fun ls hl => ?_)
  refine LPP (σ := Nat) (I := fun i H locs ls => i ≤ n ∧ va_P D vwCl [(a, .inl (Y 0, n, .inl f))] H ∧ va_D A [(a, .inl (Y 0, n, .inl f))] ∧ va_S A s.heap H locs ∧ lv_has ls 6 [(1, .int (sumU f i)), (2, .ref a), (3, .int (nI n)), (4, .int (nI i))]) (μ := fun i => n - i) (cl := fun i => 0) (sl := fun i => 0) (fun i ih_10 H locs ls hI => ?_) 0 _ _ _ ⟨by omega, hP, hD, hS, lv_sub hl [3, 2, 1, 0] rfl⟩
  obtain ⟨hi, hP, hD, hS, hl⟩ := hI
  refine lv_iload hx hb dX5_sum_10 (lv_at hl 3 rfl) ?_
  refine lv_iload_n hx hb dX5_sum_12 rfl (lv_at hl 2 rfl) ?_
  refine lv_icmp_ge (tgt := 33) hx hb dX5_sum_13 (by decide) (fun c_13 => ?_) (fun c_13 => ?_)
  · have hlt := ngl hn (by omega) c_13
    obtain rfl : n = i := by omega
    refine lv_iload_n hx hb dX5_sum_33 rfl (lv_at hl 0 rfl) ?_
    exact eI hx hb hr hlk hP hD hS (by rfl) (by rfl) (by exact Nat.le_of_ble_eq_true rfl) (by exact Nat.le_of_ble_eq_true rfl) dX5_sum_34
  · have hlt := nge hn (by omega) c_13
    refine lv_aload_n hx hb dX5_sum_16 rfl (lv_at hl 1 rfl) ?_
    refine lv_iload hx hb dX5_sum_17 (lv_at hl 3 rfl) ?_
    refine ia hx hb hKN.1 hP 0 0 rfl rfl i (by rfl) (by omega) (by first | decide | assumption | omega) dX5_sum_19 ?_
    refine lv_istore (lv' := [(5, .int (f i)), (1, .int (sumU f i)), (2, .ref a), (3, .int (nI n)), (4, .int (nI i))]) hx hb dX5_sum_20 hl (by decide) rfl (fun ls hl => ?_)
    refine lv_iload_n hx hb dX5_sum_22 rfl (lv_at hl 1 rfl) ?_
    refine lv_iload hx hb dX5_sum_23 (lv_at hl 0 rfl) ?_
    refine lv_iadd hx hb dX5_sum_25 ?_
    refine lv_eqi (y := sumU f (i + 1)) (by rfl) ?_
    refine lv_istore_n (lv' := [(1, .int (sumU f (i + 1))), (5, .int (f i)), (2, .ref a), (3, .int (nI n)), (4, .int (nI i))]) hx hb dX5_sum_26 rfl hl (by decide) rfl (fun ls hl => ?_)
    refine lv_iinc (v := (nI (i + 1))) (lv' := [(4, .int (nI (i + 1))), (1, .int (sumU f (i + 1))), (5, .int (f i)), (2, .ref a), (3, .int (nI n))]) hx hb dX5_sum_27 hl (k := 4) rfl (by exact nI_1 _) (by decide) rfl (fun ls hl => ?_)
    refine lv_goto (tgt := 10) hx hb dX5_sum_30 (by decide) ?_
    exact ih_10 (i + 1) _ _ _ (show n - (i + 1) < n - i by omega) ⟨by omega, hP, hD, hS, lv_sub hl [1, 3, 4, 0] rfl⟩
abbrev rm_kJ9_floorMod_7cf53 : Room := { frames := 0, cells := 0, slots := 0, locals := 0 }
set_option maxHeartbeats 4000000 in
set_option maxRecDepth 100000 in
theorem kJ9_floorMod_7cf53 (l : Launch) (D : va_G) (Y : Nat → ClassId) (sz : Nat) (x : Nat) (y : Nat) (hx0 : x < 2 ^ 31) (hy0 : 0 < y) (hy1 : y < 2 ^ 31) : MI l yJ9_floorMod_7cf53 wsJ9_floorMod_7cf53 rm_kJ9_floorMod_7cf53 D Y [.int (nI x), .int (nI y)] sz [] (nI (x % y)) [] 0 0 := by
  refine pcF_start (cc := cJ9_floorMod_7cf53) (maxL := 3) (ret := (some .int)) (Qc := fun A => va_Qi (fun (r : Int32) (_ : Unit) => r = (nI (x % y))) (qW D A []) A) (by decide +kernel) rfl (Nat.le_of_ble_eq_true rfl) ?_
  intro p e s m below meth c A ls hE hKN hA hP hD hl
  obtain ⟨hx, hb, hr, hml, hown, hts, hlk, hin⟩ := hE
  have hown : s.vm.findClass RJ9 = some m.cls := hown
  have hS : va_S A s.heap s.heap [] := va_S.rf
  have hl : lv_has ls 3 [(0, .int (nI x)), (1, .int (nI y))] := hl
  refine lv_iload_n hx hb dJ9_floorMod_7cf53_0 rfl (lv_at hl 0 rfl) ?_
  refine lv_iload_n hx hb dJ9_floorMod_7cf53_1 rfl (lv_at hl 1 rfl) ?_
  refine lv_irem hx hb dJ9_floorMod_7cf53_2 (by exact nI_ne0 hy0 hy1) ?_
  refine lv_eqi (y := nI (x % y)) (by exact pk_rem hx0 hy0 hy1) ?_
  refine lv_istore_n (lv' := [(2, .int (nI (x % y))), (0, .int (nI x)), (1, .int (nI y))]) hx hb dJ9_floorMod_7cf53_3 rfl hl (by decide) rfl (fun ls hl => ?_)
  refine lv_iload_n hx hb dJ9_floorMod_7cf53_4 rfl (lv_at hl 1 rfl) ?_
  refine lv_iload_n hx hb dJ9_floorMod_7cf53_5 rfl (lv_at hl 2 rfl) ?_
  refine lv_ixor hx hb dJ9_floorMod_7cf53_6 ?_
  refine lv_if_ge (tgt := 18) hx hb dJ9_floorMod_7cf53_7 (by decide) (fun c_7 => ?_) (fun c_7 => by exfalso; exact c_7 (xor_pos hx0 hy1))
  refine lv_iload_n hx hb dJ9_floorMod_7cf53_18 rfl (lv_at hl 0 rfl) ?_
  exact eI hx hb hr hlk hP hD hS (by rfl) (by rfl) (by exact Nat.le_of_ble_eq_true rfl) (by exact Nat.le_of_ble_eq_true rfl) dJ9_floorMod_7cf53_19
abbrev rm_kX4_wetCold : Room := { frames := 0, cells := 0, slots := 0, locals := 0 }
set_option maxHeartbeats 4000000 in
set_option maxRecDepth 100000 in
theorem kX4_wetCold (l : Launch) (D : va_G) (Y : Nat → ClassId) (sz : Nat) (w : Nat) (w1 : Nat) (w2 : Nat) (w3 : Nat) (wa : fN) (da : fN) (gu : fN) (k : Nat) (hk : k < 24) : MI l yX4_wetCold wsX4_wetCold rm_kX4_wetCold D Y [.ref w, .int (nI k)] sz [(w, .inr (4, [.ref w1, .ref w2, .ref w3])), (w1, .inl (Y 0, 24, .inl wa)), (w2, .inl (Y 0, 24, .inl da)), (w3, .inl (Y 0, 24, .inl gu))] (wetU wa da k) [(w, .inr (4, [.ref w1, .ref w2, .ref w3])), (w1, .inl (Y 0, 24, .inl wa)), (w2, .inl (Y 0, 24, .inl da)), (w3, .inl (Y 0, 24, .inl gu))] 0 0 := by
  refine pcW_start (cc := cX4_wetCold) (maxL := 2) (ret := (some .int)) (Qc := fun A => va_Qi (fun (r : Int32) (_ : Unit) => r = (wetU wa da k)) (qW D A [(w, .inr (4, [.ref w1, .ref w2, .ref w3])), (w1, .inl (Y 0, 24, .inl wa)), (w2, .inl (Y 0, 24, .inl da)), (w3, .inl (Y 0, 24, .inl gu))]) A) (by decide) rfl (Nat.le_of_ble_eq_true rfl) ?_
  intro p e s m below meth c A ls hE hKN hA hP hD hl
  obtain ⟨hx, hb, hr, hml, hown, hts, hlk, hin⟩ := hE
  have hown : s.vm.findClass RX4 = some m.cls := hown
  have hS : va_S A s.heap s.heap [] := va_S.rf
  have hi4 : ∀ w ∈ wsX40, w ∈ wsX4_wetCold := by decide +kernel
  have hl : lv_has ls 2 [(0, .ref w), (1, .int (nI k))] := hl
  refine lv_aload_n hx hb dX4_wetCold_0 rfl (lv_at hl 0 rfl) ?_
  refine va_get (D := D) (ci := 4) (v := .ref w1) (C := RX4) (T := TX4) (N := 3) hx hb hts hi4 hown hKN.1 hP 0 rfl rfl 0 (by decide) (hts (.fieldLink RX4 9 "SnowPumps$Weather" "warmth" "[I") (by decide +kernel)) (fun _ h9 => h9) rfl dX4_wetCold_1 ?_
  refine lv_iload_n hx hb dX4_wetCold_4 rfl (lv_at hl 1 rfl) ?_
  refine ia hx hb hKN.1 hP 1 0 rfl rfl k (by rfl) (by omega) (by first | decide | assumption | omega) dX4_wetCold_5 ?_
  refine lv_bipush (v := (100 : Int32)) hx hb dX4_wetCold_6 (by decide) ?_
  refine lv_aload_n hx hb dX4_wetCold_8 rfl (lv_at hl 0 rfl) ?_
  refine va_get (D := D) (ci := 4) (v := .ref w2) (C := RX4) (T := TX4) (N := 3) hx hb hts hi4 hown hKN.1 hP 0 rfl rfl 1 (by decide) (hts (.fieldLink RX4 15 "SnowPumps$Weather" "damp" "[I") (by decide +kernel)) (fun _ h9 => h9) rfl dX4_wetCold_9 ?_
  refine lv_iload_n hx hb dX4_wetCold_12 rfl (lv_at hl 1 rfl) ?_
  refine ia hx hb hKN.1 hP 2 0 rfl rfl k (by rfl) (by omega) (by first | decide | assumption | omega) dX4_wetCold_13 ?_
  refine lv_isub hx hb dX4_wetCold_14 ?_
  refine lv_bipush (v := (10 : Int32)) hx hb dX4_wetCold_15 (by decide) ?_
  refine lv_idiv hx hb dX4_wetCold_17 (by decide) ?_
  refine lv_isub hx hb dX4_wetCold_18 ?_
  exact eI hx hb hr hlk hP hD hS (by rfl) (by rfl) (by exact Nat.le_of_ble_eq_true rfl) (by exact Nat.le_of_ble_eq_true rfl) dX4_wetCold_19
abbrev rm_kX0_hourOfDay : Room := { frames := 1, cells := 0, slots := 0, locals := 22 }
set_option maxHeartbeats 4000000 in
set_option maxRecDepth 100000 in
theorem kX0_hourOfDay (l : Launch) (D : va_G) (Y : Nat → ClassId) (sz : Nat) (h : Nat) (h1 : Nat) (h2 : Nat) (h3 : Nat) (w : Nat) (pu : Nat) (wt : Int32) (tm : Nat) (hh : tm < 2 ^ 31) : MI l yX0_hourOfDay wsX0_hourOfDay rm_kX0_hourOfDay D Y [.ref h] sz [(h, .inr (0, [.ref w, .ref pu, .ref h1, .ref h2, .ref h3, .int wt, .int (nI tm)]))] (nI (tm % 24)) [(h, .inr (0, [.ref w, .ref pu, .ref h1, .ref h2, .ref h3, .int wt, .int (nI tm)]))] 0 0 := by
  refine pcW_start (cc := cX0_hourOfDay) (maxL := 1) (ret := (some .int)) (Qc := fun A => va_Qi (fun (r : Int32) (_ : Unit) => r = (nI (tm % 24))) (qW D A [(h, .inr (0, [.ref w, .ref pu, .ref h1, .ref h2, .ref h3, .int wt, .int (nI tm)]))]) A) (by decide) rfl (Nat.le_of_ble_eq_true rfl) ?_
  intro p e s m below meth c A ls hE hKN hA hP hD hl
  obtain ⟨hx, hb, hr, hml, hown, hts, hlk, hin⟩ := hE
  have hown : s.vm.findClass RX0 = some m.cls := hown
  have hS : va_S A s.heap s.heap [] := va_S.rf
  have hi0 : ∀ w ∈ wsX00, w ∈ wsX0_hourOfDay := by decide +kernel
  have hl : lv_has ls 1 [(0, .ref h)] := hl
  refine lv_aload_n hx hb dX0_hourOfDay_0 rfl (lv_at hl 0 rfl) ?_
  refine va_get (D := D) (ci := 0) (v := .int (nI tm)) (C := RX0) (T := TX0) (N := 7) hx hb hts hi0 hown hKN.1 hP 0 rfl rfl 6 (by decide) (hts (.fieldLink RX0 34 "SnowPumps$Hill" "hour" "I") (by decide +kernel)) (fun _ h9 => h9) rfl dX0_hourOfDay_1 ?_
  refine lv_bipush (v := (24 : Int32)) hx hb dX0_hourOfDay_4 (by decide) ?_
  refine cSi (As := [.int (nI tm), .int (24 : Int32)]) (rest := []) (ws' := [(h, .inr (0, [.ref w, .ref pu, .ref h1, .ref h2, .ref h3, .int wt, .int (nI tm)]))]) ⟨hx, hb, hml, hown, hts⟩ (kJ9_floorMod_7cf53 l D Y _ tm 24 (by first | assumption | omega) (by decide) (by decide)) (va_cwS 2 hts gX0_hourOfDay_J9_floorMod_7cf53 rfl rfl rfl (by decide +kernel) ⟨Nat.le_of_ble_eq_true rfl, Nat.le_of_ble_eq_true rfl⟩) hKN hP hD hS hA [] [0] [0] rfl (by decide) rfl rfl rfl rfl hl.1 (Nat.le_of_ble_eq_true rfl) dX0_hourOfDay_6 ⟨Nat.le_of_ble_eq_true rfl, Nat.le_of_ble_eq_true rfl⟩ (fun H locs hP hD hS => ?_)
  exact eI hx hb hr hlk hP hD hS (by rfl) (by rfl) (by exact Nat.le_of_ble_eq_true rfl) (by exact Nat.le_of_ble_eq_true rfl) dX0_hourOfDay_9
abbrev rm_kX0_takeSnow : Room := { frames := 1, cells := 0, slots := 0, locals := 15 }
set_option maxHeartbeats 4000000 in
set_option maxRecDepth 100000 in
theorem kX0_takeSnow (l : Launch) (D : va_G) (Y : Nat → ClassId) (sz : Nat) (h : Nat) (h1 : Nat) (h2 : Nat) (h3 : Nat) (w : Nat) (pu : Nat) (sn : fN) (wt : Int32) (tm : Int32) (mu : Int32) (k : Nat) (hk : k < 20) : MV l yX0_takeSnow wsX0_takeSnow rm_kX0_takeSnow D Y [.ref h, .int (nI k), .int mu] sz [(h, .inr (0, [.ref w, .ref pu, .ref h1, .ref h2, .ref h3, .int wt, .int tm])), (h1, .inl (Y 0, 20, .inl sn))] [(h, .inr (0, [.ref w, .ref pu, .ref h1, .ref h2, .ref h3, .int wt, .int tm])), (h1, .inl (Y 0, 20, .inl (upd sn k (mxI 0 (sn k - mu)))))] 0 0 := by
  refine pcW_start (cc := cX0_takeSnow) (maxL := 3) (ret := none) (Qc := fun A => va_Qv (fun (_ : Unit) => True) (qW D A [(h, .inr (0, [.ref w, .ref pu, .ref h1, .ref h2, .ref h3, .int wt, .int tm])), (h1, .inl (Y 0, 20, .inl (upd sn k (mxI 0 (sn k - mu)))))]) A) (by decide) rfl (Nat.le_of_ble_eq_true rfl) ?_
  intro p e s m below meth c A ls hE hKN hA hP hD hl
  obtain ⟨hx, hb, hr, hml, hown, hts, hlk, hin⟩ := hE
  have hown : s.vm.findClass RX0 = some m.cls := hown
  have hS : va_S A s.heap s.heap [] := va_S.rf
  have hi0 : ∀ w ∈ wsX00, w ∈ wsX0_takeSnow := by decide +kernel
  have hl : lv_has ls 3 [(0, .ref h), (1, .int (nI k)), (2, .int mu)] := hl
  refine lv_aload_n hx hb dX0_takeSnow_0 rfl (lv_at hl 0 rfl) ?_
  refine va_get (D := D) (ci := 0) (v := .ref h1) (C := RX0) (T := TX0) (N := 7) hx hb hts hi0 hown hKN.1 hP 0 rfl rfl 2 (by decide) (hts (.fieldLink RX0 9 "SnowPumps$Hill" "snow" "[I") (by decide +kernel)) (fun _ h9 => h9) rfl dX0_takeSnow_1 ?_
  refine lv_iload_n hx hb dX0_takeSnow_4 rfl (lv_at hl 1 rfl) ?_
  refine lv_iconst (v := (0 : Int32)) hx hb dX0_takeSnow_5 (by decide) ?_
  refine lv_aload_n hx hb dX0_takeSnow_6 rfl (lv_at hl 0 rfl) ?_
  refine va_get (D := D) (ci := 0) (v := .ref h1) (C := RX0) (T := TX0) (N := 7) hx hb hts hi0 hown hKN.1 hP 0 rfl rfl 2 (by decide) (hts (.fieldLink RX0 9 "SnowPumps$Hill" "snow" "[I") (by decide +kernel)) (fun _ h9 => h9) rfl dX0_takeSnow_7 ?_
  refine lv_iload_n hx hb dX0_takeSnow_10 rfl (lv_at hl 1 rfl) ?_
  refine ia hx hb hKN.1 hP 1 0 rfl rfl k (by rfl) (by omega) (by first | decide | assumption | omega) dX0_takeSnow_11 ?_
  refine lv_iload_n hx hb dX0_takeSnow_12 rfl (lv_at hl 2 rfl) ?_
  refine lv_isub hx hb dX0_takeSnow_13 ?_
  refine va_mmax hx hb (hml.trans hl.1.symm) hown (hts (.methodLink RX0 47 Lib.Math.max.name) (by decide +kernel)) (hts (.static Lib.Math.max.name) (by decide +kernel)) (hts (.initialized "java/lang/Math") (by decide +kernel)) (hts (.code Lib.Math.max.name Lib.Math.max.code 2 (some .int)) (by decide +kernel)) (Nat.le_of_ble_eq_true rfl) (Nat.le_of_ble_eq_true rfl) (by exact Nat.le_of_ble_eq_true rfl) (by exact Nat.le_of_ble_eq_true rfl) dX0_takeSnow_14 ?_
  refine lv_eqi (y := mxI (0 : Int32) ((sn k) - mu)) rfl ?_
  refine is hx hb hKN.1 hP hD hS 1 0 rfl rfl k (by rfl) (by omega) (by first | decide | assumption | omega) dX0_takeSnow_17 (fun H locs hP hD hS => ?_)
  have hP : va_P D vwCl [(h, .inr (0, [.ref w, .ref pu, .ref h1, .ref h2, .ref h3, .int wt, .int tm])), (h1, .inl (Y 0, 20, .inl (upd sn k (mxI (0 : Int32) ((sn k) - mu)))))] _ := hP
  have hD : va_D A [(h, .inr (0, [.ref w, .ref pu, .ref h1, .ref h2, .ref h3, .int wt, .int tm])), (h1, .inl (Y 0, 20, .inl (upd sn k (mxI (0 : Int32) ((sn k) - mu)))))] := hD
  exact eV hx hb hr hlk hP hD hS (by exact Nat.le_of_ble_eq_true rfl) (by exact Nat.le_of_ble_eq_true rfl) dX0_takeSnow_18
abbrev rm_kX0_melt : Room := { frames := 2, cells := 0, slots := 0, locals := 37 }
set_option maxHeartbeats 4000000 in
set_option maxRecDepth 100000 in
theorem kX0_melt (l : Launch) (D : va_G) (Y : Nat → ClassId) (sz : Nat) (h : Nat) (h1 : Nat) (h2 : Nat) (h3 : Nat) (w : Nat) (pu : Nat) (sn : fN) (ic : fN) (wt : Int32) (tm : Int32) (wm : Int32)  : MV l yX0_melt wsX0_melt rm_kX0_melt D Y [.ref h, .int wm] sz [(h, .inr (0, [.ref w, .ref pu, .ref h1, .ref h2, .ref h3, .int wt, .int tm])), (h1, .inl (Y 0, 20, .inl sn)), (h2, .inl (Y 0, 20, .inl ic))] [(h, .inr (0, [.ref w, .ref pu, .ref h1, .ref h2, .ref h3, .int wt, .int tm])), (h1, .inl (Y 0, 20, .inl (meltS sn wm 20))), (h2, .inl (Y 0, 20, .inl (meltI ic 20)))] 0 0 := by
  refine pcW_start (cc := cX0_melt) (maxL := 3) (ret := none) (Qc := fun A => va_Qv (fun (_ : Unit) => True) (qW D A [(h, .inr (0, [.ref w, .ref pu, .ref h1, .ref h2, .ref h3, .int wt, .int tm])), (h1, .inl (Y 0, 20, .inl (meltS sn wm 20))), (h2, .inl (Y 0, 20, .inl (meltI ic 20)))]) A) (by decide) rfl (Nat.le_of_ble_eq_true rfl) ?_
  intro p e s m below meth c A ls hE hKN hA hP hD hl
  obtain ⟨hx, hb, hr, hml, hown, hts, hlk, hin⟩ := hE
  have hown : s.vm.findClass RX0 = some m.cls := hown
  have hS : va_S A s.heap s.heap [] := va_S.rf
  have hi0 : ∀ w ∈ wsX00, w ∈ wsX0_melt := by decide +kernel
  have hl : lv_has ls 3 [(0, .ref h), (1, .int wm)] := hl
  refine lv_iconst (v := (0 : Int32)) hx hb dX0_melt_0 (by decide) ?_
  refine lv_istore_n (lv' := [(2, .int (0 : Int32)), (0, .ref h), (1, .int wm)]) hx hb dX0_melt_1 rfl hl (by decide) rfl (fun ls hl => ?_)
  have ec_1 : sn = (meltS sn wm 0) := by exact (meltS_0 _ _).symm
  have hP : va_P D vwCl [(h, .inr (0, [.ref w, .ref pu, .ref h1, .ref h2, .ref h3, .int wt, .int tm])), (h1, .inl (Y 0, 20, .inl (meltS sn wm 0))), (h2, .inl (Y 0, 20, .inl ic))] _ := (congrArg (fun zz9 => va_P D vwCl [(h, .inr (0, [.ref w, .ref pu, .ref h1, .ref h2, .ref h3, .int wt, .int tm])), (h1, .inl (Y 0, 20, .inl zz9)), (h2, .inl (Y 0, 20, .inl ic))] _) ec_1).mp hP
  have hD : va_D A [(h, .inr (0, [.ref w, .ref pu, .ref h1, .ref h2, .ref h3, .int wt, .int tm])), (h1, .inl (Y 0, 20, .inl (meltS sn wm 0))), (h2, .inl (Y 0, 20, .inl ic))] := (congrArg (fun zz9 => va_D A [(h, .inr (0, [.ref w, .ref pu, .ref h1, .ref h2, .ref h3, .int wt, .int tm])), (h1, .inl (Y 0, 20, .inl zz9)), (h2, .inl (Y 0, 20, .inl ic))]) ec_1).mp hD
  have ec_2 : ic = (meltI ic 0) := by exact (meltI_0 _).symm
  have hP : va_P D vwCl [(h, .inr (0, [.ref w, .ref pu, .ref h1, .ref h2, .ref h3, .int wt, .int tm])), (h1, .inl (Y 0, 20, .inl (meltS sn wm 0))), (h2, .inl (Y 0, 20, .inl (meltI ic 0)))] _ := (congrArg (fun zz9 => va_P D vwCl [(h, .inr (0, [.ref w, .ref pu, .ref h1, .ref h2, .ref h3, .int wt, .int tm])), (h1, .inl (Y 0, 20, .inl (meltS sn wm 0))), (h2, .inl (Y 0, 20, .inl zz9))] _) ec_2).mp hP
  have hD : va_D A [(h, .inr (0, [.ref w, .ref pu, .ref h1, .ref h2, .ref h3, .int wt, .int tm])), (h1, .inl (Y 0, 20, .inl (meltS sn wm 0))), (h2, .inl (Y 0, 20, .inl (meltI ic 0)))] := (congrArg (fun zz9 => va_D A [(h, .inr (0, [.ref w, .ref pu, .ref h1, .ref h2, .ref h3, .int wt, .int tm])), (h1, .inl (Y 0, 20, .inl (meltS sn wm 0))), (h2, .inl (Y 0, 20, .inl zz9))]) ec_2).mp hD
  refine LPP (σ := Nat) (I := fun i H locs ls => i ≤ 20 ∧ va_P D vwCl [(h, .inr (0, [.ref w, .ref pu, .ref h1, .ref h2, .ref h3, .int wt, .int tm])), (h1, .inl (Y 0, 20, .inl (meltS sn wm i))), (h2, .inl (Y 0, 20, .inl (meltI ic i)))] H ∧ va_D A [(h, .inr (0, [.ref w, .ref pu, .ref h1, .ref h2, .ref h3, .int wt, .int tm])), (h1, .inl (Y 0, 20, .inl (meltS sn wm i))), (h2, .inl (Y 0, 20, .inl (meltI ic i)))] ∧ va_S A s.heap H locs ∧ lv_has ls 3 [(0, .ref h), (1, .int wm), (2, .int (nI i))]) (μ := fun i => 20 - i) (cl := fun i => 0) (sl := fun i => 0) (fun i ih_2 H locs ls hI => ?_) 0 _ _ _ ⟨by omega, hP, hD, hS, lv_sub hl [1, 2, 0] rfl⟩
  obtain ⟨hi, hP, hD, hS, hl⟩ := hI
  refine lv_iload_n hx hb dX0_melt_2 rfl (lv_at hl 2 rfl) ?_
  refine lv_bipush (v := (20 : Int32)) hx hb dX0_melt_3 (by decide) ?_
  refine lv_icmp_ge (tgt := 38) hx hb dX0_melt_5 (by decide) (fun c_5 => ?_) (fun c_5 => ?_)
  · have hlt := ngl (N := 20) (by decide) (by omega) c_5
    obtain rfl : 20 = i := by omega
    exact eV hx hb hr hlk hP hD hS (by exact Nat.le_of_ble_eq_true rfl) (by exact Nat.le_of_ble_eq_true rfl) dX0_melt_38
  · have hlt := nge (N := 20) (by decide) (by omega) c_5
    refine lv_aload_n hx hb dX0_melt_8 rfl (lv_at hl 0 rfl) ?_
    refine lv_iload_n hx hb dX0_melt_9 rfl (lv_at hl 2 rfl) ?_
    refine lv_iload_n hx hb dX0_melt_10 rfl (lv_at hl 1 rfl) ?_
    refine cVv (As := [.int (nI i), .int wm]) (rest := []) (ws' := [(h, .inr (0, [.ref w, .ref pu, .ref h1, .ref h2, .ref h3, .int wt, .int tm])), (h1, .inl (Y 0, 20, .inl (upd (meltS sn wm i) i (mxI 0 ((meltS sn wm i) i - wm))))), (h2, .inl (Y 0, 20, .inl (meltI ic i)))]) ⟨hx, hb, hml, hown, hts⟩ (kX0_takeSnow l D Y _ h h1 h2 h3 w pu (meltS sn wm i) wt tm wm i (by first | assumption | omega)) (cwV 2 hts gX0_melt_X0_takeSnow rfl rfl rfl (by decide +kernel) ⟨Nat.le_of_ble_eq_true rfl, Nat.le_of_ble_eq_true rfl⟩) hKN hP hD hS hA [0, 1] [2] [1, 2, 0] rfl (by decide) rfl rfl 0 0 rfl rfl rfl rfl hl.1 (Nat.le_of_ble_eq_true rfl) dX0_melt_11 ⟨Nat.le_of_ble_eq_true rfl, Nat.le_of_ble_eq_true rfl⟩ (fun H locs hP hD hS => ?_)
    have ec_3 : (upd (meltS sn wm i) i (mxI 0 ((meltS sn wm i) i - wm))) = (meltS sn wm (i + 1)) := by exact meltS_1 _ _ _
    have hP : va_P D vwCl [(h, .inr (0, [.ref w, .ref pu, .ref h1, .ref h2, .ref h3, .int wt, .int tm])), (h1, .inl (Y 0, 20, .inl (meltS sn wm (i + 1)))), (h2, .inl (Y 0, 20, .inl (meltI ic i)))] _ := (congrArg (fun zz9 => va_P D vwCl [(h, .inr (0, [.ref w, .ref pu, .ref h1, .ref h2, .ref h3, .int wt, .int tm])), (h1, .inl (Y 0, 20, .inl zz9)), (h2, .inl (Y 0, 20, .inl (meltI ic i)))] _) ec_3).mp hP
    have hD : va_D A [(h, .inr (0, [.ref w, .ref pu, .ref h1, .ref h2, .ref h3, .int wt, .int tm])), (h1, .inl (Y 0, 20, .inl (meltS sn wm (i + 1)))), (h2, .inl (Y 0, 20, .inl (meltI ic i)))] := (congrArg (fun zz9 => va_D A [(h, .inr (0, [.ref w, .ref pu, .ref h1, .ref h2, .ref h3, .int wt, .int tm])), (h1, .inl (Y 0, 20, .inl zz9)), (h2, .inl (Y 0, 20, .inl (meltI ic i)))]) ec_3).mp hD
    refine lv_aload_n hx hb dX0_melt_14 rfl (lv_at hl 0 rfl) ?_
    refine va_get (D := D) (ci := 0) (v := .ref h2) (C := RX0) (T := TX0) (N := 7) hx hb hts hi0 hown hKN.1 hP 0 rfl rfl 3 (by decide) (hts (.fieldLink RX0 15 "SnowPumps$Hill" "ice" "[I") (by decide +kernel)) (fun _ h9 => h9) rfl dX0_melt_15 ?_
    refine lv_iload_n hx hb dX0_melt_18 rfl (lv_at hl 2 rfl) ?_
    refine lv_iconst (v := (0 : Int32)) hx hb dX0_melt_19 (by decide) ?_
    refine lv_aload_n hx hb dX0_melt_20 rfl (lv_at hl 0 rfl) ?_
    refine va_get (D := D) (ci := 0) (v := .ref h2) (C := RX0) (T := TX0) (N := 7) hx hb hts hi0 hown hKN.1 hP 0 rfl rfl 3 (by decide) (hts (.fieldLink RX0 15 "SnowPumps$Hill" "ice" "[I") (by decide +kernel)) (fun _ h9 => h9) rfl dX0_melt_21 ?_
    refine lv_iload_n hx hb dX0_melt_24 rfl (lv_at hl 2 rfl) ?_
    refine ia hx hb hKN.1 hP 2 0 rfl rfl i (by rfl) (by omega) (by first | decide | assumption | omega) dX0_melt_25 ?_
    refine lv_iconst (v := (1 : Int32)) hx hb dX0_melt_26 (by decide) ?_
    refine lv_isub hx hb dX0_melt_27 ?_
    refine va_mmax hx hb (hml.trans hl.1.symm) hown (hts (.methodLink RX0 47 Lib.Math.max.name) (by decide +kernel)) (hts (.static Lib.Math.max.name) (by decide +kernel)) (hts (.initialized "java/lang/Math") (by decide +kernel)) (hts (.code Lib.Math.max.name Lib.Math.max.code 2 (some .int)) (by decide +kernel)) (Nat.le_of_ble_eq_true rfl) (Nat.le_of_ble_eq_true rfl) (by exact Nat.le_of_ble_eq_true rfl) (by exact Nat.le_of_ble_eq_true rfl) dX0_melt_28 ?_
    refine lv_eqi (y := mxI (0 : Int32) (((meltI ic i) i) - (1 : Int32))) rfl ?_
    refine is hx hb hKN.1 hP hD hS 2 0 rfl rfl i (by rfl) (by omega) (by first | decide | assumption | omega) dX0_melt_31 (fun H locs hP hD hS => ?_)
    have hP : va_P D vwCl [(h, .inr (0, [.ref w, .ref pu, .ref h1, .ref h2, .ref h3, .int wt, .int tm])), (h1, .inl (Y 0, 20, .inl (meltS sn wm (i + 1)))), (h2, .inl (Y 0, 20, .inl (upd (meltI ic i) i (mxI (0 : Int32) (((meltI ic i) i) - (1 : Int32))))))] _ := hP
    have hD : va_D A [(h, .inr (0, [.ref w, .ref pu, .ref h1, .ref h2, .ref h3, .int wt, .int tm])), (h1, .inl (Y 0, 20, .inl (meltS sn wm (i + 1)))), (h2, .inl (Y 0, 20, .inl (upd (meltI ic i) i (mxI (0 : Int32) (((meltI ic i) i) - (1 : Int32))))))] := hD
    have ec_4 : (upd (meltI ic i) i (mxI (0 : Int32) (((meltI ic i) i) - (1 : Int32)))) = (meltI ic (i + 1)) := by exact meltI_1 _ _
    have hP : va_P D vwCl [(h, .inr (0, [.ref w, .ref pu, .ref h1, .ref h2, .ref h3, .int wt, .int tm])), (h1, .inl (Y 0, 20, .inl (meltS sn wm (i + 1)))), (h2, .inl (Y 0, 20, .inl (meltI ic (i + 1))))] _ := (congrArg (fun zz9 => va_P D vwCl [(h, .inr (0, [.ref w, .ref pu, .ref h1, .ref h2, .ref h3, .int wt, .int tm])), (h1, .inl (Y 0, 20, .inl (meltS sn wm (i + 1)))), (h2, .inl (Y 0, 20, .inl zz9))] _) ec_4).mp hP
    have hD : va_D A [(h, .inr (0, [.ref w, .ref pu, .ref h1, .ref h2, .ref h3, .int wt, .int tm])), (h1, .inl (Y 0, 20, .inl (meltS sn wm (i + 1)))), (h2, .inl (Y 0, 20, .inl (meltI ic (i + 1))))] := (congrArg (fun zz9 => va_D A [(h, .inr (0, [.ref w, .ref pu, .ref h1, .ref h2, .ref h3, .int wt, .int tm])), (h1, .inl (Y 0, 20, .inl (meltS sn wm (i + 1)))), (h2, .inl (Y 0, 20, .inl zz9))]) ec_4).mp hD
    refine lv_iinc (v := (nI (i + 1))) (lv' := [(2, .int (nI (i + 1))), (0, .ref h), (1, .int wm)]) hx hb dX0_melt_32 hl (k := 2) rfl (by exact nI_1 _) (by decide) rfl (fun ls hl => ?_)
    refine lv_goto (tgt := 2) hx hb dX0_melt_35 (by decide) ?_
    exact ih_2 (i + 1) _ _ _ (show 20 - (i + 1) < 20 - i by omega) ⟨by omega, hP, hD, hS, lv_sub hl [1, 2, 0] rfl⟩
