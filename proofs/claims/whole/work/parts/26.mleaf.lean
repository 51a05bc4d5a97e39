abbrev rm_kX7_isIn : Room := { frames := 0, cells := 0, slots := 0, locals := 0 }
set_option maxHeartbeats 4000000 in
set_option maxRecDepth 100000 in
theorem kX7_isIn (l : Launch) (D : va_G) (Y : Nat → ClassId) (sz : Nat) (v : Int32) (lo : Int32) (hi : Int32)  : MI l yX7_isIn wsX7_isIn rm_kX7_isIn D Y [.int v, .int lo, .int hi] sz [] (bi (¬ (v < lo ∨ hi < v))) [] 0 0 := by
  refine pcW_start (cc := cX7_isIn) (maxL := 3) (ret := (some .boolean)) (Qc := fun A => va_Qi (fun (r : Int32) (_ : Unit) => r = (bi (¬ (v < lo ∨ hi < v)))) (qW D A []) A) (by decide) rfl (Nat.le_of_ble_eq_true rfl) ?_
  intro p e s m below meth c A ls hE hKN hA hP hD hl
  obtain ⟨hx, hb, hr, hml, hown, hts, hlk, hin⟩ := hE
  have hown : s.vm.findClass RX7 = some m.cls := hown
  have hS : va_S A s.heap s.heap [] := va_S.rf
  have hl : lv_has ls 3 [(0, .int v), (1, .int lo), (2, .int hi)] := hl
  refine lv_iload_n hx hb dX7_isIn_0 rfl (lv_at hl 0 rfl) ?_
  refine lv_iload_n hx hb dX7_isIn_1 rfl (lv_at hl 1 rfl) ?_
  refine lv_icmp_lt (tgt := 14) hx hb dX7_isIn_2 (by decide) (fun c_2 => ?_) (fun c_2 => ?_)
  · have c_7 : True := trivial
    refine lv_iconst (v := (0 : Int32)) hx hb dX7_isIn_14 (by decide) ?_
    exact eI hx hb hr hlk hP hD hS (by first | rfl | exact narZ _) (by first | exact (bi_f (not_not_intro (Or.inl c_2 : v < lo ∨ hi < v))).symm | exact (bi_f (not_not_intro (Or.inr c_7 : v < lo ∨ hi < v))).symm | exact (bi_t (c := ¬ (v < lo ∨ hi < v)) (fun h9 => h9.elim c_2 c_7)).symm) (by exact Nat.le_of_ble_eq_true rfl) (by exact Nat.le_of_ble_eq_true rfl) dX7_isIn_15
  · refine lv_iload_n hx hb dX7_isIn_5 rfl (lv_at hl 0 rfl) ?_
    refine lv_iload_n hx hb dX7_isIn_6 rfl (lv_at hl 2 rfl) ?_
    refine lv_icmp_gt (tgt := 14) hx hb dX7_isIn_7 (by decide) (fun c_7 => ?_) (fun c_7 => ?_)
    · refine lv_iconst (v := (0 : Int32)) hx hb dX7_isIn_14 (by decide) ?_
      exact eI hx hb hr hlk hP hD hS (by first | rfl | exact narZ _) (by first | exact (bi_f (not_not_intro (Or.inl c_2 : v < lo ∨ hi < v))).symm | exact (bi_f (not_not_intro (Or.inr c_7 : v < lo ∨ hi < v))).symm | exact (bi_t (c := ¬ (v < lo ∨ hi < v)) (fun h9 => h9.elim c_2 c_7)).symm) (by exact Nat.le_of_ble_eq_true rfl) (by exact Nat.le_of_ble_eq_true rfl) dX7_isIn_15
    · refine lv_iconst (v := (1 : Int32)) hx hb dX7_isIn_10 (by decide) ?_
      refine lv_goto (tgt := 15) hx hb dX7_isIn_11 (by decide) ?_
      exact eI hx hb hr hlk hP hD hS (by first | rfl | exact narZ _) (by first | exact (bi_f (not_not_intro (Or.inl c_2 : v < lo ∨ hi < v))).symm | exact (bi_f (not_not_intro (Or.inr c_7 : v < lo ∨ hi < v))).symm | exact (bi_t (c := ¬ (v < lo ∨ hi < v)) (fun h9 => h9.elim c_2 c_7)).symm) (by exact Nat.le_of_ble_eq_true rfl) (by exact Nat.le_of_ble_eq_true rfl) dX7_isIn_15
abbrev rm_kX7_isPart : Room := { frames := 1, cells := 0, slots := 0, locals := 22 }
set_option maxHeartbeats 4000000 in
set_option maxRecDepth 100000 in
theorem kX7_isPart (l : Launch) (D : va_G) (Y : Nat → ClassId) (sz : Nat) (v : Int32)  : MI l yX7_isPart wsX7_isPart rm_kX7_isPart D Y [.int v] sz [] (bi (¬ (v < 0 ∨ 19 < v))) [] 0 0 := by
  refine pcW_start (cc := cX7_isPart) (maxL := 1) (ret := (some .boolean)) (Qc := fun A => va_Qi (fun (r : Int32) (_ : Unit) => r = (bi (¬ (v < 0 ∨ 19 < v)))) (qW D A []) A) (by decide) rfl (Nat.le_of_ble_eq_true rfl) ?_
  intro p e s m below meth c A ls hE hKN hA hP hD hl
  obtain ⟨hx, hb, hr, hml, hown, hts, hlk, hin⟩ := hE
  have hown : s.vm.findClass RX7 = some m.cls := hown
  have hS : va_S A s.heap s.heap [] := va_S.rf
  have hl : lv_has ls 1 [(0, .int v)] := hl
  refine lv_iload_n hx hb dX7_isPart_0 rfl (lv_at hl 0 rfl) ?_
  refine lv_iconst (v := (0 : Int32)) hx hb dX7_isPart_1 (by decide) ?_
  refine lv_bipush (v := (19 : Int32)) hx hb dX7_isPart_2 (by decide) ?_
  refine cSi (As := [.int v, .int (0 : Int32), .int (19 : Int32)]) (rest := []) (ws' := []) ⟨hx, hb, hml, hown, hts⟩ (kX7_isIn l D Y _ v (0 : Int32) (19 : Int32) ) (va_cwS 3 hts gX7_isPart_X7_isIn rfl rfl rfl (by decide +kernel) ⟨Nat.le_of_ble_eq_true rfl, Nat.le_of_ble_eq_true rfl⟩) hKN hP hD hS hA [] [] [] rfl (by decide) rfl rfl rfl rfl hl.1 (Nat.le_of_ble_eq_true rfl) dX7_isPart_4 ⟨Nat.le_of_ble_eq_true rfl, Nat.le_of_ble_eq_true rfl⟩ (fun H locs hP hD hS => ?_)
  exact eI hx hb hr hlk hP hD hS (by first | rfl | exact narZ _) (by rfl) (by exact Nat.le_of_ble_eq_true rfl) (by exact Nat.le_of_ble_eq_true rfl) dX7_isPart_7
abbrev rm_kX7_isPump : Room := { frames := 1, cells := 0, slots := 0, locals := 22 }
set_option maxHeartbeats 4000000 in
set_option maxRecDepth 100000 in
theorem kX7_isPump (l : Launch) (D : va_G) (Y : Nat → ClassId) (sz : Nat) (z : Nat) (z1 : Nat) (z2 : Nat) (z3 : Nat) (z4 : Nat) (z5 : Nat) (z6 : Nat) (z7 : Nat) (q : Nat) (r : Nat) (th : Int32) (np : Nat) (nj : Nat) (v : Int32)  : MI l yX7_isPump wsX7_isPump rm_kX7_isPump D Y [.ref z, .int v] sz [(z, .inr (7, [.int th, .ref z1, .ref z2, .ref z3, .int (nI np), .ref z4, .ref z5, .ref z6, .int (nI nj), .ref z7, .ref q, .ref r]))] (bi (¬ (v < 0 ∨ nI np - 1 < v))) [(z, .inr (7, [.int th, .ref z1, .ref z2, .ref z3, .int (nI np), .ref z4, .ref z5, .ref z6, .int (nI nj), .ref z7, .ref q, .ref r]))] 0 0 := by
  refine pcW_start (cc := cX7_isPump) (maxL := 2) (ret := (some .boolean)) (Qc := fun A => va_Qi (fun (r : Int32) (_ : Unit) => r = (bi (¬ (v < 0 ∨ nI np - 1 < v)))) (qW D A [(z, .inr (7, [.int th, .ref z1, .ref z2, .ref z3, .int (nI np), .ref z4, .ref z5, .ref z6, .int (nI nj), .ref z7, .ref q, .ref r]))]) A) (by decide) rfl (Nat.le_of_ble_eq_true rfl) ?_
  intro p e s m below meth c A ls hE hKN hA hP hD hl
  obtain ⟨hx, hb, hr, hml, hown, hts, hlk, hin⟩ := hE
  have hown : s.vm.findClass RX7 = some m.cls := hown
  have hS : va_S A s.heap s.heap [] := va_S.rf
  have hi7 : ∀ w ∈ wsX70, w ∈ wsX7_isPump := by decide +kernel
  have hl : lv_has ls 2 [(0, .ref z), (1, .int v)] := hl
  refine lv_iload_n hx hb dX7_isPump_0 rfl (lv_at hl 1 rfl) ?_
  refine lv_iconst (v := (0 : Int32)) hx hb dX7_isPump_1 (by decide) ?_
  refine lv_aload_n hx hb dX7_isPump_2 rfl (lv_at hl 0 rfl) ?_
  refine va_get (D := D) (ci := 7) (v := .int (nI np)) (C := RX7) (T := TX7) (N := 12) hx hb hts hi7 hown hKN.1 hP 0 rfl rfl 4 (by decide) (hts (.fieldLink RX7 49 "SnowPumpsModel" "pumps" "I") (by decide +kernel)) (fun _ h9 => h9) rfl dX7_isPump_3 ?_
  refine lv_iconst (v := (1 : Int32)) hx hb dX7_isPump_6 (by decide) ?_
  refine lv_isub hx hb dX7_isPump_7 ?_
  refine cSi (As := [.int v, .int (0 : Int32), .int ((nI np) - (1 : Int32))]) (rest := []) (ws' := [(z, .inr (7, [.int th, .ref z1, .ref z2, .ref z3, .int (nI np), .ref z4, .ref z5, .ref z6, .int (nI nj), .ref z7, .ref q, .ref r]))]) ⟨hx, hb, hml, hown, hts⟩ (kX7_isIn l D Y _ v (0 : Int32) ((nI np) - (1 : Int32)) ) (va_cwS 3 hts gX7_isPump_X7_isIn rfl rfl rfl (by decide +kernel) ⟨Nat.le_of_ble_eq_true rfl, Nat.le_of_ble_eq_true rfl⟩) hKN hP hD hS hA [] [0] [0] rfl (by decide) rfl rfl rfl rfl hl.1 (Nat.le_of_ble_eq_true rfl) dX7_isPump_8 ⟨Nat.le_of_ble_eq_true rfl, Nat.le_of_ble_eq_true rfl⟩ (fun H locs hP hD hS => ?_)
  exact eI hx hb hr hlk hP hD hS (by first | rfl | exact narZ _) (by rfl) (by exact Nat.le_of_ble_eq_true rfl) (by exact Nat.le_of_ble_eq_true rfl) dX7_isPump_11
abbrev rm_kX7_thrown : Room := { frames := 0, cells := 0, slots := 0, locals := 0 }
set_option maxHeartbeats 4000000 in
set_option maxRecDepth 100000 in
theorem kX7_thrown (l : Launch) (D : va_G) (Y : Nat → ClassId) (sz : Nat) (z : Nat) (z1 : Nat) (z2 : Nat) (z3 : Nat) (z4 : Nat) (z5 : Nat) (z6 : Nat) (z7 : Nat) (q : Nat) (r : Nat) (th : Int32) (np : Nat) (nj : Nat)  : MI l yX7_thrown wsX7_thrown rm_kX7_thrown D Y [.ref z] sz [(z, .inr (7, [.int th, .ref z1, .ref z2, .ref z3, .int (nI np), .ref z4, .ref z5, .ref z6, .int (nI nj), .ref z7, .ref q, .ref r]))] th [(z, .inr (7, [.int th, .ref z1, .ref z2, .ref z3, .int (nI np), .ref z4, .ref z5, .ref z6, .int (nI nj), .ref z7, .ref q, .ref r]))] 0 0 := by
  refine pcW_start (cc := cX7_thrown) (maxL := 1) (ret := (some .int)) (Qc := fun A => va_Qi (fun (r : Int32) (_ : Unit) => r = th) (qW D A [(z, .inr (7, [.int th, .ref z1, .ref z2, .ref z3, .int (nI np), .ref z4, .ref z5, .ref z6, .int (nI nj), .ref z7, .ref q, .ref r]))]) A) (by decide) rfl (Nat.le_of_ble_eq_true rfl) ?_
  intro p e s m below meth c A ls hE hKN hA hP hD hl
  obtain ⟨hx, hb, hr, hml, hown, hts, hlk, hin⟩ := hE
  have hown : s.vm.findClass RX7 = some m.cls := hown
  have hS : va_S A s.heap s.heap [] := va_S.rf
  have hi7 : ∀ w ∈ wsX70, w ∈ wsX7_thrown := by decide +kernel
  have hl : lv_has ls 1 [(0, .ref z)] := hl
  refine lv_aload_n hx hb dX7_thrown_0 rfl (lv_at hl 0 rfl) ?_
  refine va_get (D := D) (ci := 7) (v := .int th) (C := RX7) (T := TX7) (N := 12) hx hb hts hi7 hown hKN.1 hP 0 rfl rfl 0 (by decide) (hts (.fieldLink RX7 41 "SnowPumpsModel" "thrown" "I") (by decide +kernel)) (fun _ h9 => h9) rfl dX7_thrown_1 ?_
  exact eI hx hb hr hlk hP hD hS (by rfl) (by rfl) (by exact Nat.le_of_ble_eq_true rfl) (by exact Nat.le_of_ble_eq_true rfl) dX7_thrown_4
abbrev rm_kX7_no : Room := { frames := 0, cells := 0, slots := 0, locals := 0 }
set_option maxHeartbeats 4000000 in
set_option maxRecDepth 100000 in
theorem kX7_no (l : Launch) (D : va_G) (Y : Nat → ClassId) (sz : Nat) (z : Nat) (z1 : Nat) (z2 : Nat) (z3 : Nat) (z4 : Nat) (z5 : Nat) (z6 : Nat) (z7 : Nat) (q : Nat) (r : Nat) (th : Int32) (np : Nat) (nj : Nat) (v : Int32)  : MI l yX7_no wsX7_no rm_kX7_no D Y [.ref z, .int v] sz [(z, .inr (7, [.int th, .ref z1, .ref z2, .ref z3, .int (nI np), .ref z4, .ref z5, .ref z6, .int (nI nj), .ref z7, .ref q, .ref r]))] (0 : Int32) [(z, .inr (7, [.int v, .ref z1, .ref z2, .ref z3, .int (nI np), .ref z4, .ref z5, .ref z6, .int (nI nj), .ref z7, .ref q, .ref r]))] 0 0 := by
  refine pcW_start (cc := cX7_no) (maxL := 2) (ret := (some .int)) (Qc := fun A => va_Qi (fun (r : Int32) (_ : Unit) => r = (0 : Int32)) (qW D A [(z, .inr (7, [.int v, .ref z1, .ref z2, .ref z3, .int (nI np), .ref z4, .ref z5, .ref z6, .int (nI nj), .ref z7, .ref q, .ref r]))]) A) (by decide) rfl (Nat.le_of_ble_eq_true rfl) ?_
  intro p e s m below meth c A ls hE hKN hA hP hD hl
  obtain ⟨hx, hb, hr, hml, hown, hts, hlk, hin⟩ := hE
  have hown : s.vm.findClass RX7 = some m.cls := hown
  have hS : va_S A s.heap s.heap [] := va_S.rf
  have hi7 : ∀ w ∈ wsX70, w ∈ wsX7_no := by decide +kernel
  have hl : lv_has ls 2 [(0, .ref z), (1, .int v)] := hl
  refine lv_aload_n hx hb dX7_no_0 rfl (lv_at hl 0 rfl) ?_
  refine lv_iload_n hx hb dX7_no_1 rfl (lv_at hl 1 rfl) ?_
  refine va_put (D := D) (ci := 7) (v := .int v) (ty := .int) (C := RX7) (T := TX7) (N := 12) hx hb hts hi7 tyX7 tyX7_ok nmX7 hown hKN.1 hP hD hS 0 rfl rfl 0 (by decide) (hts (.fieldLink RX7 41 "SnowPumpsModel" "thrown" "I") (by decide +kernel)) (fun _ h9 => h9) rfl (by decide +kernel) rfl rfl (Nat.le_of_ble_eq_true rfl) dX7_no_2 (fun H locs hP hD hS => ?_)
  have hP : va_P D vwCl [(z, .inr (7, [.int v, .ref z1, .ref z2, .ref z3, .int (nI np), .ref z4, .ref z5, .ref z6, .int (nI nj), .ref z7, .ref q, .ref r]))] _ := hP
  have hD : va_D A [(z, .inr (7, [.int v, .ref z1, .ref z2, .ref z3, .int (nI np), .ref z4, .ref z5, .ref z6, .int (nI nj), .ref z7, .ref q, .ref r]))] := hD
  refine lv_iconst (v := (0 : Int32)) hx hb dX7_no_5 (by decide) ?_
  exact eI hx hb hr hlk hP hD hS (by rfl) (by rfl) (by exact Nat.le_of_ble_eq_true rfl) (by exact Nat.le_of_ble_eq_true rfl) dX7_no_6
abbrev rm_kX7_sum : Room := { frames := 0, cells := 0, slots := 0, locals := 0 }
set_option maxHeartbeats 4000000 in
set_option maxRecDepth 100000 in
theorem kX7_sum (l : Launch) (D : va_G) (Y : Nat → ClassId) (sz : Nat) (a : Nat) (n : Nat) (f : fN) (hn : n < 2 ^ 31) : MI l yX7_sum wsX7_sum rm_kX7_sum D Y [.ref a] sz [(a, .inl (Y 0, n, .inl f))] (sumU f n) [(a, .inl (Y 0, n, .inl f))] 0 0 := by
  refine pcW_start (cc := cX7_sum) (maxL := 6) (ret := (some .int)) (Qc := fun A => va_Qi (fun (r : Int32) (_ : Unit) => r = (sumU f n)) (qW D A [(a, .inl (Y 0, n, .inl f))]) A) (by decide) rfl (Nat.le_of_ble_eq_true rfl) ?_
  intro p e s m below meth c A ls hE hKN hA hP hD hl
  obtain ⟨hx, hb, hr, hml, hown, hts, hlk, hin⟩ := hE
  have hown : s.vm.findClass RX7 = some m.cls := hown
  have hS : va_S A s.heap s.heap [] := va_S.rf
  have hl : lv_has ls 6 [(0, .ref a)] := hl
  refine lv_iconst (v := (0 : Int32)) hx hb dX7_sum_0 (by decide) ?_
  refine lv_istore_n (lv' := [(1, .int (0 : Int32)), (0, .ref a)]) hx hb dX7_sum_1 rfl hl (by decide) rfl (fun ls hl => ?_)
  refine lv_aload_n hx hb dX7_sum_2 rfl (lv_at hl 1 rfl) ?_
  refine lv_astore_n (lv' := [(2, .ref a), (1, .int (0 : Int32)), (0, .ref a)]) hx hb dX7_sum_3 rfl hl (by decide) rfl (fun ls hl => ?_)
  refine lv_aload_n hx hb dX7_sum_4 rfl (lv_at hl 0 rfl) ?_
  refine va_alen hx hb hKN.1 hP 0 0 rfl rfl (v := nI n) (by rfl) dX7_sum_5 ?_
  refine lv_istore_n (lv' := [(3, .int (nI n)), (2, .ref a), (1, .int (0 : Int32)), (0, .ref a)]) hx hb dX7_sum_6 rfl hl (by decide) rfl (fun ls hl => ?_)
  refine lv_iconst (v := (0 : Int32)) hx hb dX7_sum_7 (by decide) ?_
  refine lv_istore (lv' := [(4, .int (0 : Int32)), (3, .int (nI n)), (2, .ref a), (1, .int (0 : Int32)), (0, .ref a)]) hx hb dX7_sum_8 hl (by decide) rfl (fun ls hl => ?_)
  refine LPP (σ := Nat) (I := fun i H locs ls => i ≤ n ∧ va_P D vwCl [(a, .inl (Y 0, n, .inl f))] H ∧ va_D A [(a, .inl (Y 0, n, .inl f))] ∧ va_S A s.heap H locs ∧ lv_has ls 6 [(1, .int (sumU f i)), (2, .ref a), (3, .int (nI n)), (4, .int (nI i))]) (μ := fun i => n - i) (cl := fun i => 0) (sl := fun i => 0) (fun i ih_10 H locs ls hI => ?_) 0 _ _ _ ⟨by omega, hP, hD, hS, lv_sub hl [3, 2, 1, 0] rfl⟩
  obtain ⟨hi, hP, hD, hS, hl⟩ := hI
  refine lv_iload hx hb dX7_sum_10 (lv_at hl 3 rfl) ?_
  refine lv_iload_n hx hb dX7_sum_12 rfl (lv_at hl 2 rfl) ?_
  refine lv_icmp_ge (tgt := 33) hx hb dX7_sum_13 (by decide) (fun c_13 => ?_) (fun c_13 => ?_)
  · have hlt := ngl hn (by omega) c_13
    obtain rfl : n = i := by omega
    refine lv_iload_n hx hb dX7_sum_33 rfl (lv_at hl 0 rfl) ?_
    exact eI hx hb hr hlk hP hD hS (by rfl) (by rfl) (by exact Nat.le_of_ble_eq_true rfl) (by exact Nat.le_of_ble_eq_true rfl) dX7_sum_34
  · have hlt := nge hn (by omega) c_13
    refine lv_aload_n hx hb dX7_sum_16 rfl (lv_at hl 1 rfl) ?_
    refine lv_iload hx hb dX7_sum_17 (lv_at hl 3 rfl) ?_
    refine ia hx hb hKN.1 hP 0 0 rfl rfl i (by rfl) (by omega) (by first | decide | assumption | omega) dX7_sum_19 ?_
    refine lv_istore (lv' := [(5, .int (f i)), (1, .int (sumU f i)), (2, .ref a), (3, .int (nI n)), (4, .int (nI i))]) hx hb dX7_sum_20 hl (by decide) rfl (fun ls hl => ?_)
    refine lv_iload_n hx hb dX7_sum_22 rfl (lv_at hl 1 rfl) ?_
    refine lv_iload hx hb dX7_sum_23 (lv_at hl 0 rfl) ?_
    refine lv_iadd hx hb dX7_sum_25 ?_
    refine lv_eqi (y := sumU f (i + 1)) (by rfl) ?_
    refine lv_istore_n (lv' := [(1, .int (sumU f (i + 1))), (5, .int (f i)), (2, .ref a), (3, .int (nI n)), (4, .int (nI i))]) hx hb dX7_sum_26 rfl hl (by decide) rfl (fun ls hl => ?_)
    refine lv_iinc (v := (nI (i + 1))) (lv' := [(4, .int (nI (i + 1))), (1, .int (sumU f (i + 1))), (5, .int (f i)), (2, .ref a), (3, .int (nI n))]) hx hb dX7_sum_27 hl (k := 4) rfl (by exact nI_1 _) (by decide) rfl (fun ls hl => ?_)
    refine lv_goto (tgt := 10) hx hb dX7_sum_30 (by decide) ?_
    exact ih_10 (i + 1) _ _ _ (show n - (i + 1) < n - i by omega) ⟨by omega, hP, hD, hS, lv_sub hl [1, 3, 4, 0] rfl⟩
abbrev rm_kX7_wet : Room := { frames := 0, cells := 0, slots := 0, locals := 0 }
set_option maxHeartbeats 4000000 in
set_option maxRecDepth 100000 in
theorem kX7_wet (l : Launch) (D : va_G) (Y : Nat → ClassId) (sz : Nat) (z : Nat) (z1 : Nat) (z2 : Nat) (z3 : Nat) (z4 : Nat) (z5 : Nat) (z6 : Nat) (z7 : Nat) (q : Nat) (r : Nat) (wa : fN) (da : fN) (th : Int32) (np : Nat) (nj : Nat) (k : Nat) (hk : k < 24) : MI l yX7_wet wsX7_wet rm_kX7_wet D Y [.ref z, .int (nI k)] sz [(z, .inr (7, [.int th, .ref z1, .ref z2, .ref z3, .int (nI np), .ref z4, .ref z5, .ref z6, .int (nI nj), .ref z7, .ref q, .ref r])), (z1, .inl (Y 0, 24, .inl wa)), (z2, .inl (Y 0, 24, .inl da))] (wetU wa da k) [(z, .inr (7, [.int th, .ref z1, .ref z2, .ref z3, .int (nI np), .ref z4, .ref z5, .ref z6, .int (nI nj), .ref z7, .ref q, .ref r])), (z1, .inl (Y 0, 24, .inl wa)), (z2, .inl (Y 0, 24, .inl da))] 0 0 := by
  refine pcW_start (cc := cX7_wet) (maxL := 2) (ret := (some .int)) (Qc := fun A => va_Qi (fun (r : Int32) (_ : Unit) => r = (wetU wa da k)) (qW D A [(z, .inr (7, [.int th, .ref z1, .ref z2, .ref z3, .int (nI np), .ref z4, .ref z5, .ref z6, .int (nI nj), .ref z7, .ref q, .ref r])), (z1, .inl (Y 0, 24, .inl wa)), (z2, .inl (Y 0, 24, .inl da))]) A) (by decide) rfl (Nat.le_of_ble_eq_true rfl) ?_
  intro p e s m below meth c A ls hE hKN hA hP hD hl
  obtain ⟨hx, hb, hr, hml, hown, hts, hlk, hin⟩ := hE
  have hown : s.vm.findClass RX7 = some m.cls := hown
  have hS : va_S A s.heap s.heap [] := va_S.rf
  have hi7 : ∀ w ∈ wsX70, w ∈ wsX7_wet := by decide +kernel
  have hl : lv_has ls 2 [(0, .ref z), (1, .int (nI k))] := hl
  refine lv_aload_n hx hb dX7_wet_0 rfl (lv_at hl 0 rfl) ?_
  refine va_get (D := D) (ci := 7) (v := .ref z1) (C := RX7) (T := TX7) (N := 12) hx hb hts hi7 hown hKN.1 hP 0 rfl rfl 1 (by decide) (hts (.fieldLink RX7 9 "SnowPumpsModel" "warmth" "[I") (by decide +kernel)) (fun _ h9 => h9) rfl dX7_wet_1 ?_
  refine lv_iload_n hx hb dX7_wet_4 rfl (lv_at hl 1 rfl) ?_
  refine ia hx hb hKN.1 hP 1 0 rfl rfl k (by rfl) (by omega) (by first | decide | assumption | omega) dX7_wet_5 ?_
  refine lv_bipush (v := (100 : Int32)) hx hb dX7_wet_6 (by decide) ?_
  refine lv_aload_n hx hb dX7_wet_8 rfl (lv_at hl 0 rfl) ?_
  refine va_get (D := D) (ci := 7) (v := .ref z2) (C := RX7) (T := TX7) (N := 12) hx hb hts hi7 hown hKN.1 hP 0 rfl rfl 2 (by decide) (hts (.fieldLink RX7 13 "SnowPumpsModel" "damp" "[I") (by decide +kernel)) (fun _ h9 => h9) rfl dX7_wet_9 ?_
  refine lv_iload_n hx hb dX7_wet_12 rfl (lv_at hl 1 rfl) ?_
  refine ia hx hb hKN.1 hP 2 0 rfl rfl k (by rfl) (by omega) (by first | decide | assumption | omega) dX7_wet_13 ?_
  refine lv_isub hx hb dX7_wet_14 ?_
  refine lv_bipush (v := (10 : Int32)) hx hb dX7_wet_15 (by decide) ?_
  refine lv_idiv hx hb dX7_wet_17 (by decide) ?_
  refine lv_isub hx hb dX7_wet_18 ?_
  exact eI hx hb hr hlk hP hD hS (by rfl) (by rfl) (by exact Nat.le_of_ble_eq_true rfl) (by exact Nat.le_of_ble_eq_true rfl) dX7_wet_19
abbrev rm_kX6_isBad : Room := { frames := 0, cells := 0, slots := 0, locals := 0 }
set_option maxHeartbeats 4000000 in
set_option maxRecDepth 100000 in
theorem kX6_isBad (l : Launch) (D : va_G) (Y : Nat → ClassId) (sz : Nat) (q : Nat) (q1 : Nat) (q2 : Nat) (q3 : Nat) (sn : fN) (ic : fN) (wt : Int32) (k : Nat) (t9 : Int32) (hk : k < 20) : MI l yX6_isBad wsX6_isBad rm_kX6_isBad D Y [.ref q, .int (nI k)] sz [(q, .inr (6, [.int t9, .int wt, .ref q1, .ref q2, .ref q3])), (q1, .inl (Y 0, 20, .inl sn)), (q2, .inl (Y 0, 20, .inl ic))] (bi (badU sn ic k)) [(q, .inr (6, [.int t9, .int wt, .ref q1, .ref q2, .ref q3])), (q1, .inl (Y 0, 20, .inl sn)), (q2, .inl (Y 0, 20, .inl ic))] 0 0 := by
  refine pcW_start (cc := cX6_isBad) (maxL := 2) (ret := (some .boolean)) (Qc := fun A => va_Qi (fun (r : Int32) (_ : Unit) => r = (bi (badU sn ic k))) (qW D A [(q, .inr (6, [.int t9, .int wt, .ref q1, .ref q2, .ref q3])), (q1, .inl (Y 0, 20, .inl sn)), (q2, .inl (Y 0, 20, .inl ic))]) A) (by decide) rfl (Nat.le_of_ble_eq_true rfl) ?_
  intro p e s m below meth c A ls hE hKN hA hP hD hl
  obtain ⟨hx, hb, hr, hml, hown, hts, hlk, hin⟩ := hE
  have hown : s.vm.findClass RX6 = some m.cls := hown
  have hS : va_S A s.heap s.heap [] := va_S.rf
  have hi6 : ∀ w ∈ wsX60, w ∈ wsX6_isBad := by decide +kernel
  have hl : lv_has ls 2 [(0, .ref q), (1, .int (nI k))] := hl
  refine lv_aload_n hx hb dX6_isBad_0 rfl (lv_at hl 0 rfl) ?_
  refine va_get (D := D) (ci := 6) (v := .ref q1) (C := RX6) (T := TX6) (N := 5) hx hb hts hi6 hown hKN.1 hP 0 rfl rfl 2 (by decide) (hts (.fieldLink RX6 9 "SnowPumpsModel$State" "snow" "[I") (by decide +kernel)) (fun _ h9 => h9) rfl dX6_isBad_1 ?_
  refine lv_iload_n hx hb dX6_isBad_4 rfl (lv_at hl 1 rfl) ?_
  refine ia hx hb hKN.1 hP 1 0 rfl rfl k (by rfl) (by omega) (by first | decide | assumption | omega) dX6_isBad_5 ?_
  refine lv_bipush (v := (30 : Int32)) hx hb dX6_isBad_6 (by decide) ?_
  refine lv_icmp_lt (tgt := 22) hx hb dX6_isBad_8 (by decide) (fun c_8 => ?_) (fun c_8 => ?_)
  · have c_19 : True := trivial
    refine lv_iconst (v := (1 : Int32)) hx hb dX6_isBad_22 (by decide) ?_
    refine lv_goto (tgt := 27) hx hb dX6_isBad_23 (by decide) ?_
    exact eI hx hb hr hlk hP hD hS (by first | rfl | exact narZ _) (by first | exact (bi_t (Or.inl c_8)).symm | exact (bi_t (Or.inr (Int32.not_lt.mp c_19))).symm | exact (bi_f (fun h9 => h9.elim c_8 (fun h8 => absurd c_19 (Int32.not_lt.mpr h8)))).symm) (by exact Nat.le_of_ble_eq_true rfl) (by exact Nat.le_of_ble_eq_true rfl) dX6_isBad_27
  · refine lv_aload_n hx hb dX6_isBad_11 rfl (lv_at hl 0 rfl) ?_
    refine va_get (D := D) (ci := 6) (v := .ref q2) (C := RX6) (T := TX6) (N := 5) hx hb hts hi6 hown hKN.1 hP 0 rfl rfl 3 (by decide) (hts (.fieldLink RX6 15 "SnowPumpsModel$State" "ice" "[I") (by decide +kernel)) (fun _ h9 => h9) rfl dX6_isBad_12 ?_
    refine lv_iload_n hx hb dX6_isBad_15 rfl (lv_at hl 1 rfl) ?_
    refine ia hx hb hKN.1 hP 2 0 rfl rfl k (by rfl) (by omega) (by first | decide | assumption | omega) dX6_isBad_16 ?_
    refine lv_bipush (v := (10 : Int32)) hx hb dX6_isBad_17 (by decide) ?_
    refine lv_icmp_lt (tgt := 26) hx hb dX6_isBad_19 (by decide) (fun c_19 => ?_) (fun c_19 => ?_)
    · refine lv_iconst (v := (0 : Int32)) hx hb dX6_isBad_26 (by decide) ?_
      exact eI hx hb hr hlk hP hD hS (by first | rfl | exact narZ _) (by first | exact (bi_t (Or.inl c_8)).symm | exact (bi_t (Or.inr (Int32.not_lt.mp c_19))).symm | exact (bi_f (fun h9 => h9.elim c_8 (fun h8 => absurd c_19 (Int32.not_lt.mpr h8)))).symm) (by exact Nat.le_of_ble_eq_true rfl) (by exact Nat.le_of_ble_eq_true rfl) dX6_isBad_27
    · refine lv_iconst (v := (1 : Int32)) hx hb dX6_isBad_22 (by decide) ?_
      refine lv_goto (tgt := 27) hx hb dX6_isBad_23 (by decide) ?_
      exact eI hx hb hr hlk hP hD hS (by first | rfl | exact narZ _) (by first | exact (bi_t (Or.inl c_8)).symm | exact (bi_t (Or.inr (Int32.not_lt.mp c_19))).symm | exact (bi_f (fun h9 => h9.elim c_8 (fun h8 => absurd c_19 (Int32.not_lt.mpr h8)))).symm) (by exact Nat.le_of_ble_eq_true rfl) (by exact Nat.le_of_ble_eq_true rfl) dX6_isBad_27
abbrev rm_kX6_lay : Room := { frames := 1, cells := 0, slots := 0, locals := 22 }
set_option maxHeartbeats 4000000 in
set_option maxRecDepth 100000 in
theorem kX6_lay (l : Launch) (D : va_G) (Y : Nat → ClassId) (sz : Nat) (q : Nat) (q1 : Nat) (q2 : Nat) (q3 : Nat) (sn : fN) (wt : Int32) (x : Int32) (mo : Int32) (t9 : Int32)  : MV l yX6_lay wsX6_lay rm_kX6_lay D Y [.ref q, .int x, .int mo] sz [(q, .inr (6, [.int t9, .int wt, .ref q1, .ref q2, .ref q3])), (q1, .inl (Y 0, 20, .inl sn))] [(q, .inr (6, [.int t9, .int wt, .ref q1, .ref q2, .ref q3])), (q1, .inl (Y 0, 20, .inl (layU sn x mo)))] 0 0 := by
  refine pcW_start (cc := cX6_lay) (maxL := 3) (ret := none) (Qc := fun A => va_Qv (fun (_ : Unit) => True) (qW D A [(q, .inr (6, [.int t9, .int wt, .ref q1, .ref q2, .ref q3])), (q1, .inl (Y 0, 20, .inl (layU sn x mo)))]) A) (by decide) rfl (Nat.le_of_ble_eq_true rfl) ?_
  intro p e s m below meth c A ls hE hKN hA hP hD hl
  obtain ⟨hx, hb, hr, hml, hown, hts, hlk, hin⟩ := hE
  have hown : s.vm.findClass RX6 = some m.cls := hown
  have hS : va_S A s.heap s.heap [] := va_S.rf
  have hi6 : ∀ w ∈ wsX60, w ∈ wsX6_lay := by decide +kernel
  have hl : lv_has ls 3 [(0, .ref q), (1, .int x), (2, .int mo)] := hl
  refine lv_iload_n hx hb dX6_lay_0 rfl (lv_at hl 1 rfl) ?_
  refine lv_iconst (v := (0 : Int32)) hx hb dX6_lay_1 (by decide) ?_
  refine lv_bipush (v := (19 : Int32)) hx hb dX6_lay_2 (by decide) ?_
  refine cSNi (As := [.int x, .int (0 : Int32), .int (19 : Int32)]) (rest := []) (ws' := [(q, .inr (6, [.int t9, .int wt, .ref q1, .ref q2, .ref q3])), (q1, .inl (Y 0, 20, .inl sn))]) ⟨hx, hb, hml, hown, hts⟩ (kX7_isIn l D Y _ x (0 : Int32) (19 : Int32) ) ⟨va_cnB 3 hts gX6_lay_X7_isIn_n34 rfl rfl rfl (hKN.2.get 7 rfl) (hts (.initialized RX7) (by decide +kernel)) (by decide +kernel) ⟨Nat.le_of_ble_eq_true rfl, Nat.le_of_ble_eq_true rfl⟩, hts (.static yX7_isIn) (by decide +kernel), trivial⟩ hKN hP hD hS hA [] [0, 1] [0, 1] rfl (by decide) rfl rfl rfl rfl hl.1 (Nat.le_of_ble_eq_true rfl) dX6_lay_4 ⟨Nat.le_of_ble_eq_true rfl, Nat.le_of_ble_eq_true rfl⟩ (fun H locs hP hD hS => ?_)
  refine lv_if_eq (tgt := 30) hx hb dX6_lay_7 (by decide) (fun c_7 => ?_) (fun c_7 => ?_)
  · have ec_1 : sn = (layU sn x mo) := by exact layU_f (bi_0n c_7)
    have hP : va_P D vwCl [(q, .inr (6, [.int t9, .int wt, .ref q1, .ref q2, .ref q3])), (q1, .inl (Y 0, 20, .inl (layU sn x mo)))] _ := (congrArg (fun zz9 => va_P D vwCl [(q, .inr (6, [.int t9, .int wt, .ref q1, .ref q2, .ref q3])), (q1, .inl (Y 0, 20, .inl zz9))] _) ec_1).mp hP
    have hD : va_D A [(q, .inr (6, [.int t9, .int wt, .ref q1, .ref q2, .ref q3])), (q1, .inl (Y 0, 20, .inl (layU sn x mo)))] := (congrArg (fun zz9 => va_D A [(q, .inr (6, [.int t9, .int wt, .ref q1, .ref q2, .ref q3])), (q1, .inl (Y 0, 20, .inl zz9))]) ec_1).mp hD
    exact eV hx hb hr hlk hP hD hS (by exact Nat.le_of_ble_eq_true rfl) (by exact Nat.le_of_ble_eq_true rfl) dX6_lay_30
  · have hin9 : inP x := bi_n c_7
    refine lv_aload_n hx hb dX6_lay_10 rfl (lv_at hl 0 rfl) ?_
    refine va_get (D := D) (ci := 6) (v := .ref q1) (C := RX6) (T := TX6) (N := 5) hx hb hts hi6 hown hKN.1 hP 0 rfl rfl 2 (by decide) (hts (.fieldLink RX6 9 "SnowPumpsModel$State" "snow" "[I") (by decide +kernel)) (fun _ h9 => h9) rfl dX6_lay_11 ?_
    refine lv_iload_n hx hb dX6_lay_14 rfl (lv_at hl 1 rfl) ?_
    refine lv_sipush (v := (300 : Int32)) hx hb dX6_lay_15 (by decide) ?_
    refine lv_aload_n hx hb dX6_lay_18 rfl (lv_at hl 0 rfl) ?_
    refine va_get (D := D) (ci := 6) (v := .ref q1) (C := RX6) (T := TX6) (N := 5) hx hb hts hi6 hown hKN.1 hP 0 rfl rfl 2 (by decide) (hts (.fieldLink RX6 9 "SnowPumpsModel$State" "snow" "[I") (by decide +kernel)) (fun _ h9 => h9) rfl dX6_lay_19 ?_
    refine lv_iload_n hx hb dX6_lay_22 rfl (lv_at hl 1 rfl) ?_
    refine va_iald hx hb hKN.1 hP 1 0 rfl rfl (by exact inP_in hin9) dX6_lay_23 ?_
    refine lv_iload_n hx hb dX6_lay_24 rfl (lv_at hl 2 rfl) ?_
    refine lv_iadd hx hb dX6_lay_25 ?_
    refine va_mmin hx hb (hml.trans hl.1.symm) hown (hts (.methodLink RX6 38 Lib.Math.min.name) (by decide +kernel)) (hts (.static Lib.Math.min.name) (by decide +kernel)) (hts (.initialized "java/lang/Math") (by decide +kernel)) (hts (.code Lib.Math.min.name Lib.Math.min.code 2 (some .int)) (by decide +kernel)) (Nat.le_of_ble_eq_true rfl) (Nat.le_of_ble_eq_true rfl) (by exact Nat.le_of_ble_eq_true rfl) (by exact Nat.le_of_ble_eq_true rfl) dX6_lay_26 ?_
    refine lv_eqi (y := mnI (300 : Int32) ((sn x.toNatClampNeg) + mo)) rfl ?_
    refine lv_eqi (y := mnI (sn x.toNatClampNeg + mo) 300) (by exact mnI_comm _ _) ?_
    refine va_iast hx hb hKN.1 hP hD hS 1 0 rfl rfl (by exact inP_in hin9) dX6_lay_29 (fun H locs hP hD hS => ?_)
    have hP : va_P D vwCl [(q, .inr (6, [.int t9, .int wt, .ref q1, .ref q2, .ref q3])), (q1, .inl (Y 0, 20, .inl (upd sn x.toNatClampNeg (mnI (sn x.toNatClampNeg + mo) 300))))] _ := hP
    have hD : va_D A [(q, .inr (6, [.int t9, .int wt, .ref q1, .ref q2, .ref q3])), (q1, .inl (Y 0, 20, .inl (upd sn x.toNatClampNeg (mnI (sn x.toNatClampNeg + mo) 300))))] := hD
    have ec_2 : (upd sn x.toNatClampNeg (mnI (sn x.toNatClampNeg + mo) 300)) = (layU sn x mo) := by exact layU_t hin9
    have hP : va_P D vwCl [(q, .inr (6, [.int t9, .int wt, .ref q1, .ref q2, .ref q3])), (q1, .inl (Y 0, 20, .inl (layU sn x mo)))] _ := (congrArg (fun zz9 => va_P D vwCl [(q, .inr (6, [.int t9, .int wt, .ref q1, .ref q2, .ref q3])), (q1, .inl (Y 0, 20, .inl zz9))] _) ec_2).mp hP
    have hD : va_D A [(q, .inr (6, [.int t9, .int wt, .ref q1, .ref q2, .ref q3])), (q1, .inl (Y 0, 20, .inl (layU sn x mo)))] := (congrArg (fun zz9 => va_D A [(q, .inr (6, [.int t9, .int wt, .ref q1, .ref q2, .ref q3])), (q1, .inl (Y 0, 20, .inl zz9))]) ec_2).mp hD
    exact eV hx hb hr hlk hP hD hS (by exact Nat.le_of_ble_eq_true rfl) (by exact Nat.le_of_ble_eq_true rfl) dX6_lay_30
