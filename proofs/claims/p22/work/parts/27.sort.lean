abbrev rm_kX9_insertionSort : Room := { frames := 0, cells := 0, slots := 0, locals := 0 }
set_option maxHeartbeats 4000000 in
set_option maxRecDepth 100000 in
theorem kX9_insertionSort (l : Launch) (D : va_G) (Y : Nat → ClassId) (sz : Nat) (a : Nat) (n : Nat) (f : fN) (hn : n < 2 ^ 30) (hn1 : 1 ≤ n) : MV l yX9_insertionSort wsX9_insertionSort rm_kX9_insertionSort D Y [.ref a, .int (0 : Int32), .int (nI n)] sz [(a, .inl (Y 0, n, .inl f))] [(a, .inl (Y 0, n, .inl (sortP f n)))] 0 0 := by
  refine pcF_start (cc := cX9_insertionSort) (maxL := 6) (ret := none) (Qc := fun A => va_Qv (fun (_ : Unit) => True) (qW D A [(a, .inl (Y 0, n, .inl (sortP f n)))]) A) (by decide +kernel) rfl (Nat.le_of_ble_eq_true rfl) ?_
  intro p e s m below meth c A ls hE hKN hA hP hD hl
  obtain ⟨hx, hb, hr, hml, hown, hts, hlk, hin⟩ := hE
  have hown : s.vm.findClass RX9 = some m.cls := hown
  have hS : va_S A s.heap s.heap [] := va_S.rf
  have hl : lv_has ls 6 [(0, .ref a), (1, .int (0 : Int32)), (2, .int (nI n))] := hl
  refine lv_iload_n hx hb dX9_insertionSort_0 rfl (lv_at hl 1 rfl) ?_
  refine lv_istore (lv' := [(4, .int (0 : Int32)), (0, .ref a), (1, .int (0 : Int32)), (2, .int (nI n))]) hx hb dX9_insertionSort_1 hl (by decide) rfl (fun ls hl => ?_)
  have ec_1 : (0 : Int32) = (nI 0) := by rfl
  have hl : lv_has ls 6 [(4, .int (nI 0)), (0, .ref a), (1, .int (0 : Int32)), (2, .int (nI n))] := (congrArg (fun zz9 => lv_has ls 6 [(4, .int zz9), (0, .ref a), (1, .int (0 : Int32)), (2, .int (nI n))]) ec_1).mp hl
  have ec_2 : f = (sortP f (0 + 1)) := by exact sortP_1 f
  have hP : va_P D vwCl [(a, .inl (Y 0, n, .inl (sortP f (0 + 1))))] _ := (congrArg (fun zz9 => va_P D vwCl [(a, .inl (Y 0, n, .inl zz9))] _) ec_2).mp hP
  have hD : va_D A [(a, .inl (Y 0, n, .inl (sortP f (0 + 1))))] := (congrArg (fun zz9 => va_D A [(a, .inl (Y 0, n, .inl zz9))]) ec_2).mp hD
  refine LPP (σ := Nat) (I := fun i H locs ls => i + 1 ≤ n ∧ va_P D vwCl [(a, .inl (Y 0, n, .inl (sortP f (i + 1))))] H ∧ va_D A [(a, .inl (Y 0, n, .inl (sortP f (i + 1))))] ∧ va_S A s.heap H locs ∧ lv_has ls 6 [(0, .ref a), (1, .int (0 : Int32)), (2, .int (nI n)), (4, .int (nI i))]) (μ := fun i => n - i) (cl := fun i => 0) (sl := fun i => 0) (fun i ih_3 H locs ls hI => ?_) 0 _ _ _ ⟨by omega, hP, hD, hS, lv_sub hl [1, 2, 3, 0] rfl⟩
  obtain ⟨hi, hP, hD, hS, hl⟩ := hI
  refine lv_iinc (v := (nI (i + 1))) (lv' := [(4, .int (nI (i + 1))), (0, .ref a), (1, .int (0 : Int32)), (2, .int (nI n))]) hx hb dX9_insertionSort_3 hl (k := 3) rfl (by exact nI_1 _) (by decide) rfl (fun ls hl => ?_)
  refine lv_iload hx hb dX9_insertionSort_6 (lv_at hl 0 rfl) ?_
  refine lv_iload_n hx hb dX9_insertionSort_8 rfl (lv_at hl 3 rfl) ?_
  refine lv_icmp_ge (tgt := 67) hx hb dX9_insertionSort_9 (by decide) (fun c_9 => ?_) (fun c_9 => ?_)
  · have hlt := ngl (N := n) (by omega) (by omega) c_9
    obtain rfl : n = i + 1 := by omega
    exact eV hx hb hr hlk hP hD hS (by exact Nat.le_of_ble_eq_true rfl) (by exact Nat.le_of_ble_eq_true rfl) dX9_insertionSort_67
  · have hlt := nge (N := n) (by omega) (by omega) c_9
    refine lv_aload_n hx hb dX9_insertionSort_12 rfl (lv_at hl 1 rfl) ?_
    refine lv_iload hx hb dX9_insertionSort_13 (lv_at hl 0 rfl) ?_
    refine lv_dup hx hb dX9_insertionSort_15 rfl ?_
    refine lv_istore_n (lv' := [(3, .int (nI (i + 1))), (4, .int (nI (i + 1))), (0, .ref a), (1, .int (0 : Int32)), (2, .int (nI n))]) hx hb dX9_insertionSort_16 rfl hl (by decide) rfl (fun ls hl => ?_)
    refine ia hx hb hKN.1 hP 0 0 rfl rfl (i + 1) (by rfl) (by omega) (by first | decide | assumption | omega) dX9_insertionSort_17 ?_
    refine lv_istore (lv' := [(5, .int ((sortP f (i + 1)) (i + 1))), (3, .int (nI (i + 1))), (4, .int (nI (i + 1))), (0, .ref a), (1, .int (0 : Int32)), (2, .int (nI n))]) hx hb dX9_insertionSort_18 hl (by decide) rfl (fun ls hl => ?_)
    refine lv_iload hx hb dX9_insertionSort_20 (lv_at hl 0 rfl) ?_
    refine lv_aload_n hx hb dX9_insertionSort_22 rfl (lv_at hl 3 rfl) ?_
    refine lv_iload_n hx hb dX9_insertionSort_23 rfl (lv_at hl 1 rfl) ?_
    refine lv_iconst (v := (1 : Int32)) hx hb dX9_insertionSort_24 (by decide) ?_
    refine lv_isub hx hb dX9_insertionSort_25 ?_
    refine lv_eqi (y := nI i) (by exact nI_pred i) ?_
    refine ia hx hb hKN.1 hP 0 0 rfl rfl i (by rfl) (by omega) (by first | decide | assumption | omega) dX9_insertionSort_26 ?_
    refine lv_icmp_ge (tgt := 64) hx hb dX9_insertionSort_27 (by decide) (fun c_27 => ?_) (fun c_27 => ?_)
    · have ec_3 : (sortP f (i + 1)) = (sortP f (i + 1 + 1)) := by exact ((insAt_ge c_27).trans (upd_id _ _)).symm
      have hP : va_P D vwCl [(a, .inl (Y 0, n, .inl (sortP f (i + 1 + 1))))] _ := (congrArg (fun zz9 => va_P D vwCl [(a, .inl (Y 0, n, .inl zz9))] _) ec_3).mp hP
      have hD : va_D A [(a, .inl (Y 0, n, .inl (sortP f (i + 1 + 1))))] := (congrArg (fun zz9 => va_D A [(a, .inl (Y 0, n, .inl zz9))]) ec_3).mp hD
      refine lv_goto (tgt := 3) hx hb dX9_insertionSort_64 (by decide) ?_
      exact ih_3 (i + 1) _ _ _ (show n - (i + 1) < n - i by omega) ⟨by omega, hP, hD, hS, lv_sub hl [3, 4, 5, 2] rfl⟩
    · have hT0 : True := trivial
      refine LPP (σ := (Nat × fN)) (I := fun w9 H locs ls => w9.1 ≤ i + 1 ∧ insAt (sortP f (i + 1) (i + 1)) w9.1 w9.2 = sortP f (i + 2) ∧ va_P D vwCl [(a, .inl (Y 0, n, .inl w9.2))] H ∧ va_D A [(a, .inl (Y 0, n, .inl w9.2))] ∧ va_S A s.heap H locs ∧ lv_has ls 6 [(0, .ref a), (1, .int (0 : Int32)), (2, .int (nI n)), (3, .int (nI w9.1)), (4, .int (nI (i + 1))), (5, .int (sortP f (i + 1) (i + 1)))]) (μ := fun w9 => w9.1) (cl := fun w9 => 0) (sl := fun w9 => 0) (fun w9 ih_30 H locs ls hI => ?_) (i + 1, sortP f (i + 1)) _ _ _ ⟨by exact Nat.le_refl _, by rfl, hP, hD, hS, lv_sub hl [3, 4, 5, 1, 2, 0] rfl⟩
      obtain ⟨hw, hT, hP, hD, hS, hl⟩ := hI
      obtain ⟨j9, h9⟩ := w9
      have hw : j9 ≤ i + 1 := hw
      have hT : insAt (sortP f (i + 1) (i + 1)) j9 h9 = sortP f (i + 2) := hT
      refine lv_iinc (v := (nI j9 + (-1))) (lv' := [(3, .int (nI j9 + (-1))), (0, .ref a), (1, .int (0 : Int32)), (2, .int (nI n)), (4, .int (nI (i + 1))), (5, .int (sortP f (i + 1) (i + 1)))]) hx hb dX9_insertionSort_30 hl (k := 3) rfl (by rfl) (by decide) rfl (fun ls hl => ?_)
      refine lv_iload_n hx hb dX9_insertionSort_33 rfl (lv_at hl 0 rfl) ?_
      refine lv_iload_n hx hb dX9_insertionSort_34 rfl (lv_at hl 2 rfl) ?_
      refine lv_icmp_lt (tgt := 57) hx hb dX9_insertionSort_35 (by decide) (fun c_35 => ?_) (fun c_35 => ?_)
      · obtain rfl : j9 = 0 := neg1 (by omega) c_35
        refine lv_aload_n hx hb dX9_insertionSort_57 rfl (lv_at hl 1 rfl) ?_
        refine lv_iload_n hx hb dX9_insertionSort_58 rfl (lv_at hl 0 rfl) ?_
        refine lv_iconst (v := (1 : Int32)) hx hb dX9_insertionSort_59 (by decide) ?_
        refine lv_iadd hx hb dX9_insertionSort_60 ?_
        refine lv_eqi (y := nI 0) (by decide) ?_
        refine lv_iload hx hb dX9_insertionSort_61 (lv_at hl 5 rfl) ?_
        refine is hx hb hKN.1 hP hD hS 0 0 rfl rfl 0 (by rfl) (by omega) (by first | decide | assumption | omega) dX9_insertionSort_63 (fun H locs hP hD hS => ?_)
        have hP : va_P D vwCl [(a, .inl (Y 0, n, .inl (upd h9 0 (sortP f (i + 1) (i + 1)))))] _ := hP
        have hD : va_D A [(a, .inl (Y 0, n, .inl (upd h9 0 (sortP f (i + 1) (i + 1)))))] := hD
        have ec_4 : (upd h9 0 (sortP f (i + 1) (i + 1))) = (sortP f (i + 1 + 1)) := by exact hT
        have hP : va_P D vwCl [(a, .inl (Y 0, n, .inl (sortP f (i + 1 + 1))))] _ := (congrArg (fun zz9 => va_P D vwCl [(a, .inl (Y 0, n, .inl zz9))] _) ec_4).mp hP
        have hD : va_D A [(a, .inl (Y 0, n, .inl (sortP f (i + 1 + 1))))] := (congrArg (fun zz9 => va_D A [(a, .inl (Y 0, n, .inl zz9))]) ec_4).mp hD
        refine lv_goto (tgt := 3) hx hb dX9_insertionSort_64 (by decide) ?_
        exact ih_3 (i + 1) _ _ _ (show n - (i + 1) < n - i by omega) ⟨by omega, hP, hD, hS, lv_sub hl [1, 2, 3, 4] rfl⟩
      · obtain ⟨q9, rfl⟩ := nneg1 c_35
        have ec_5 : (nI (q9 + 1) + (-1)) = (nI q9) := by exact pk_m1 _
        have hl : lv_has ls 6 [(3, .int (nI q9)), (0, .ref a), (1, .int (0 : Int32)), (2, .int (nI n)), (4, .int (nI (i + 1))), (5, .int (sortP f (i + 1) (i + 1)))] := (congrArg (fun zz9 => lv_has ls 6 [(3, .int zz9), (0, .ref a), (1, .int (0 : Int32)), (2, .int (nI n)), (4, .int (nI (i + 1))), (5, .int (sortP f (i + 1) (i + 1)))]) ec_5).mp hl
        refine lv_iload hx hb dX9_insertionSort_38 (lv_at hl 5 rfl) ?_
        refine lv_aload_n hx hb dX9_insertionSort_40 rfl (lv_at hl 1 rfl) ?_
        refine lv_iload_n hx hb dX9_insertionSort_41 rfl (lv_at hl 0 rfl) ?_
        refine ia hx hb hKN.1 hP 0 0 rfl rfl q9 (by rfl) (by omega) (by first | decide | assumption | omega) dX9_insertionSort_42 ?_
        refine lv_icmp_ge (tgt := 57) hx hb dX9_insertionSort_43 (by decide) (fun c_43 => ?_) (fun c_43 => ?_)
        · refine lv_aload_n hx hb dX9_insertionSort_57 rfl (lv_at hl 1 rfl) ?_
          refine lv_iload_n hx hb dX9_insertionSort_58 rfl (lv_at hl 0 rfl) ?_
          refine lv_iconst (v := (1 : Int32)) hx hb dX9_insertionSort_59 (by decide) ?_
          refine lv_iadd hx hb dX9_insertionSort_60 ?_
          refine lv_eqi (y := nI (q9 + 1)) (by exact nI_1 _) ?_
          refine lv_iload hx hb dX9_insertionSort_61 (lv_at hl 5 rfl) ?_
          refine is hx hb hKN.1 hP hD hS 0 0 rfl rfl (q9 + 1) (by rfl) (by omega) (by first | decide | assumption | omega) dX9_insertionSort_63 (fun H locs hP hD hS => ?_)
          have hP : va_P D vwCl [(a, .inl (Y 0, n, .inl (upd h9 (q9 + 1) (sortP f (i + 1) (i + 1)))))] _ := hP
          have hD : va_D A [(a, .inl (Y 0, n, .inl (upd h9 (q9 + 1) (sortP f (i + 1) (i + 1)))))] := hD
          have ec_6 : (upd h9 (q9 + 1) (sortP f (i + 1) (i + 1))) = (sortP f (i + 1 + 1)) := by exact (insAt_ge c_43).symm.trans hT
          have hP : va_P D vwCl [(a, .inl (Y 0, n, .inl (sortP f (i + 1 + 1))))] _ := (congrArg (fun zz9 => va_P D vwCl [(a, .inl (Y 0, n, .inl zz9))] _) ec_6).mp hP
          have hD : va_D A [(a, .inl (Y 0, n, .inl (sortP f (i + 1 + 1))))] := (congrArg (fun zz9 => va_D A [(a, .inl (Y 0, n, .inl zz9))]) ec_6).mp hD
          refine lv_goto (tgt := 3) hx hb dX9_insertionSort_64 (by decide) ?_
          exact ih_3 (i + 1) _ _ _ (show n - (i + 1) < n - i by omega) ⟨by omega, hP, hD, hS, lv_sub hl [1, 2, 3, 4] rfl⟩
        · refine lv_aload_n hx hb dX9_insertionSort_46 rfl (lv_at hl 1 rfl) ?_
          refine lv_iload_n hx hb dX9_insertionSort_47 rfl (lv_at hl 0 rfl) ?_
          refine lv_iconst (v := (1 : Int32)) hx hb dX9_insertionSort_48 (by decide) ?_
          refine lv_iadd hx hb dX9_insertionSort_49 ?_
          refine lv_eqi (y := nI (q9 + 1)) (by exact nI_1 _) ?_
          refine lv_aload_n hx hb dX9_insertionSort_50 rfl (lv_at hl 1 rfl) ?_
          refine lv_iload_n hx hb dX9_insertionSort_51 rfl (lv_at hl 0 rfl) ?_
          refine ia hx hb hKN.1 hP 0 0 rfl rfl q9 (by rfl) (by omega) (by first | decide | assumption | omega) dX9_insertionSort_52 ?_
          refine is hx hb hKN.1 hP hD hS 0 0 rfl rfl (q9 + 1) (by rfl) (by omega) (by first | decide | assumption | omega) dX9_insertionSort_53 (fun H locs hP hD hS => ?_)
          have hP : va_P D vwCl [(a, .inl (Y 0, n, .inl (upd h9 (q9 + 1) (h9 q9))))] _ := hP
          have hD : va_D A [(a, .inl (Y 0, n, .inl (upd h9 (q9 + 1) (h9 q9))))] := hD
          refine lv_goto (tgt := 30) hx hb dX9_insertionSort_54 (by decide) ?_
          exact ih_30 (q9, upd h9 (q9 + 1) (h9 q9)) _ _ _ (show q9 < (q9 + 1) by omega) ⟨by show q9 ≤ i + 1; omega, by exact (insAt_lt (Int32.not_le.mp c_43)).symm.trans hT, hP, hD, hS, lv_sub hl [1, 2, 3, 0, 4, 5] rfl⟩
abbrev rm_kX9_sort_ : Room := { frames := 1, cells := 0, slots := 0, locals := 25 }
set_option maxHeartbeats 4000000 in
set_option maxRecDepth 100000 in
theorem kX9_sort_ (l : Launch) (D : va_G) (Y : Nat → ClassId) (sz : Nat) (a : Nat) (n : Nat) (f : fN) (hn : n ≤ 40) (hn1 : 1 ≤ n) : MV l yX9_sort_ wsX9_sort_ rm_kX9_sort_ D Y [.null, .ref a, .int (0 : Int32), .int (0 : Int32), .int (nI n)] sz [(a, .inl (Y 0, n, .inl f))] [(a, .inl (Y 0, n, .inl (sortP f n)))] 0 0 := by
  refine pcF_start (cc := cX9_sort_) (maxL := 21) (ret := none) (Qc := fun A => va_Qv (fun (_ : Unit) => True) (qW D A [(a, .inl (Y 0, n, .inl (sortP f n)))]) A) (by decide +kernel) rfl (Nat.le_of_ble_eq_true rfl) ?_
  intro p e s m below meth c A ls hE hKN hA hP hD hl
  obtain ⟨hx, hb, hr, hml, hown, hts, hlk, hin⟩ := hE
  have hown : s.vm.findClass RX9 = some m.cls := hown
  have hS : va_S A s.heap s.heap [] := va_S.rf
  have hl : lv_has ls 21 [(0, .null), (1, .ref a), (2, .int (0 : Int32)), (3, .int (0 : Int32)), (4, .int (nI n))] := hl
  refine lv_iload hx hb dX9_sort__0 (lv_at hl 4 rfl) ?_
  refine lv_iconst (v := (1 : Int32)) hx hb dX9_sort__2 (by decide) ?_
  refine lv_isub hx hb dX9_sort__3 ?_
  refine lv_istore (lv' := [(5, .int ((nI n) - (1 : Int32))), (0, .null), (1, .ref a), (2, .int (0 : Int32)), (3, .int (0 : Int32)), (4, .int (nI n))]) hx hb dX9_sort__4 hl (by decide) rfl (fun ls hl => ?_)
  refine lv_iload hx hb dX9_sort__6 (lv_at hl 5 rfl) ?_
  refine lv_iload_n hx hb dX9_sort__8 rfl (lv_at hl 4 rfl) ?_
  refine lv_isub hx hb dX9_sort__9 ?_
  refine lv_eqi (y := nI n) (by exact sub0 _) ?_
  refine lv_istore (lv' := [(6, .int (nI n)), (5, .int ((nI n) - (1 : Int32))), (0, .null), (1, .ref a), (2, .int (0 : Int32)), (3, .int (0 : Int32)), (4, .int (nI n))]) hx hb dX9_sort__10 hl (by decide) rfl (fun ls hl => ?_)
  refine lv_iload hx hb dX9_sort__12 (lv_at hl 0 rfl) ?_
  refine lv_bipush (v := (65 : Int32)) hx hb dX9_sort__14 (by decide) ?_
  refine lv_iload_n hx hb dX9_sort__16 rfl (lv_at hl 4 rfl) ?_
  refine lv_iadd hx hb dX9_sort__17 ?_
  refine lv_eqi (y := nI 65) (by rfl) ?_
  refine lv_icmp_ge (tgt := 46) hx hb dX9_sort__18 (by decide) (fun c_18 => by exfalso; exact absurd ((nI_leI (by omega) (by omega)).mp c_18) (by omega)) (fun c_18 => ?_)
  refine lv_iload_n hx hb dX9_sort__21 rfl (lv_at hl 4 rfl) ?_
  refine lv_iconst (v := (1 : Int32)) hx hb dX9_sort__22 (by decide) ?_
  refine lv_iand hx hb dX9_sort__23 ?_
  refine lv_if_le (tgt := 46) hx hb dX9_sort__24 (by decide) (fun c_24 => ?_) (fun c_24 => by exfalso; exact c_24 (by decide))
  refine lv_iload hx hb dX9_sort__46 (lv_at hl 0 rfl) ?_
  refine lv_bipush (v := (44 : Int32)) hx hb dX9_sort__48 (by decide) ?_
  refine lv_icmp_ge (tgt := 61) hx hb dX9_sort__50 (by decide) (fun c_50 => by exfalso; exact absurd ((nI_leI (a := 44) (by omega) (by omega)).mp c_50) (by omega)) (fun c_50 => ?_)
  refine lv_aload_n hx hb dX9_sort__53 rfl (lv_at hl 3 rfl) ?_
  refine lv_iload_n hx hb dX9_sort__54 rfl (lv_at hl 5 rfl) ?_
  refine lv_iload hx hb dX9_sort__55 (lv_at hl 6 rfl) ?_
  refine cSv (As := [.ref a, .int (0 : Int32), .int (nI n)]) (rest := []) (ws' := [(a, .inl (Y 0, n, .inl (sortP f n)))]) ⟨hx, hb, hml, hown, hts⟩ (kX9_insertionSort l D Y _ a n f (by first | assumption | omega) (by first | assumption | omega)) (va_cwS 3 hts gX9_sort__X9_insertionSort rfl rfl rfl (by decide +kernel) ⟨Nat.le_of_ble_eq_true rfl, Nat.le_of_ble_eq_true rfl⟩) hKN hP hD hS hA [0] [] [0] rfl (by decide) rfl rfl rfl rfl hl.1 (Nat.le_of_ble_eq_true rfl) dX9_sort__57 ⟨Nat.le_of_ble_eq_true rfl, Nat.le_of_ble_eq_true rfl⟩ (fun H locs hP hD hS => ?_)
  exact eV hx hb hr hlk hP hD hS (by exact Nat.le_of_ble_eq_true rfl) (by exact Nat.le_of_ble_eq_true rfl) dX9_sort__60
abbrev rm_kX9_sort : Room := { frames := 2, cells := 0, slots := 0, locals := 65 }
set_option maxHeartbeats 4000000 in
set_option maxRecDepth 100000 in
theorem kX9_sort (l : Launch) (D : va_G) (Y : Nat → ClassId) (sz : Nat) (a : Nat) (n : Nat) (f : fN) (hn : n ≤ 40) (hn1 : 1 ≤ n) : MV l yX9_sort wsX9_sort rm_kX9_sort D Y [.ref a, .int (0 : Int32), .int (0 : Int32), .int (nI n)] sz [(a, .inl (Y 0, n, .inl f))] [(a, .inl (Y 0, n, .inl (sortP f n)))] 0 0 := by
  refine pcF_start (cc := cX9_sort) (maxL := 7) (ret := none) (Qc := fun A => va_Qv (fun (_ : Unit) => True) (qW D A [(a, .inl (Y 0, n, .inl (sortP f n)))]) A) (by decide +kernel) rfl (Nat.le_of_ble_eq_true rfl) ?_
  intro p e s m below meth c A ls hE hKN hA hP hD hl
  obtain ⟨hx, hb, hr, hml, hown, hts, hlk, hin⟩ := hE
  have hown : s.vm.findClass RX9 = some m.cls := hown
  have hS : va_S A s.heap s.heap [] := va_S.rf
  have hl : lv_has ls 7 [(0, .ref a), (1, .int (0 : Int32)), (2, .int (0 : Int32)), (3, .int (nI n))] := hl
  refine lv_iload_n hx hb dX9_sort_0 rfl (lv_at hl 3 rfl) ?_
  refine lv_iload_n hx hb dX9_sort_1 rfl (lv_at hl 2 rfl) ?_
  refine lv_isub hx hb dX9_sort_2 ?_
  refine lv_istore (lv' := [(4, .int ((nI n) - (0 : Int32))), (0, .ref a), (1, .int (0 : Int32)), (2, .int (0 : Int32)), (3, .int (nI n))]) hx hb dX9_sort_3 hl (by decide) rfl (fun ls hl => ?_)
  refine lv_iload_n hx hb dX9_sort_5 rfl (lv_at hl 2 rfl) ?_
  refine lv_iconst (v := (1 : Int32)) hx hb dX9_sort_6 (by decide) ?_
  refine lv_icmp_le (tgt := 68) hx hb dX9_sort_7 (by decide) (fun c_7 => ?_) (fun c_7 => by exfalso; revert c_7; decide)
  refine lv_null hx hb dX9_sort_68 ?_
  refine lv_aload_n hx hb dX9_sort_69 rfl (lv_at hl 1 rfl) ?_
  refine lv_iconst (v := (0 : Int32)) hx hb dX9_sort_70 (by decide) ?_
  refine lv_iload_n hx hb dX9_sort_71 rfl (lv_at hl 3 rfl) ?_
  refine lv_iload_n hx hb dX9_sort_72 rfl (lv_at hl 4 rfl) ?_
  refine cSv (As := [.null, .ref a, .int (0 : Int32), .int (0 : Int32), .int (nI n)]) (rest := []) (ws' := [(a, .inl (Y 0, n, .inl (sortP f n)))]) ⟨hx, hb, hml, hown, hts⟩ (kX9_sort_ l D Y _ a n f (by first | assumption | omega) (by first | assumption | omega)) (va_cwS 5 hts gX9_sort_X9_sort_ rfl rfl rfl (by decide +kernel) ⟨Nat.le_of_ble_eq_true rfl, Nat.le_of_ble_eq_true rfl⟩) hKN hP hD hS hA [0] [] [0] rfl (by decide) rfl rfl rfl rfl hl.1 (Nat.le_of_ble_eq_true rfl) dX9_sort_73 ⟨Nat.le_of_ble_eq_true rfl, Nat.le_of_ble_eq_true rfl⟩ (fun H locs hP hD hS => ?_)
  exact eV hx hb hr hlk hP hD hS (by exact Nat.le_of_ble_eq_true rfl) (by exact Nat.le_of_ble_eq_true rfl) dX9_sort_76
abbrev rm_kJ7_sort_2022b : Room := { frames := 3, cells := 0, slots := 0, locals := 91 }
set_option maxHeartbeats 4000000 in
set_option maxRecDepth 100000 in
theorem kJ7_sort_2022b (l : Launch) (D : va_G) (Y : Nat → ClassId) (sz : Nat) (a : Nat) (n : Nat) (f : fN) (hn : n ≤ 40) (hn1 : 1 ≤ n) : MV l yJ7_sort_2022b wsJ7_sort_2022b rm_kJ7_sort_2022b D Y [.ref a] sz [(a, .inl (Y 0, n, .inl f))] [(a, .inl (Y 0, n, .inl (sortP f n)))] 0 0 := by
  refine pcF_start (cc := cJ7_sort_2022b) (maxL := 1) (ret := none) (Qc := fun A => va_Qv (fun (_ : Unit) => True) (qW D A [(a, .inl (Y 0, n, .inl (sortP f n)))]) A) (by decide +kernel) rfl (Nat.le_of_ble_eq_true rfl) ?_
  intro p e s m below meth c A ls hE hKN hA hP hD hl
  obtain ⟨hx, hb, hr, hml, hown, hts, hlk, hin⟩ := hE
  have hown : s.vm.findClass RJ7 = some m.cls := hown
  have hS : va_S A s.heap s.heap [] := va_S.rf
  have hl : lv_has ls 1 [(0, .ref a)] := hl
  refine lv_aload_n hx hb dJ7_sort_2022b_0 rfl (lv_at hl 0 rfl) ?_
  refine lv_iconst (v := (0 : Int32)) hx hb dJ7_sort_2022b_1 (by decide) ?_
  refine lv_iconst (v := (0 : Int32)) hx hb dJ7_sort_2022b_2 (by decide) ?_
  refine lv_aload_n hx hb dJ7_sort_2022b_3 rfl (lv_at hl 0 rfl) ?_
  refine va_alen hx hb hKN.1 hP 0 0 rfl rfl (v := nI n) (by rfl) dJ7_sort_2022b_4 ?_
  refine cSv (As := [.ref a, .int (0 : Int32), .int (0 : Int32), .int (nI n)]) (rest := []) (ws' := [(a, .inl (Y 0, n, .inl (sortP f n)))]) ⟨hx, hb, hml, hown, hts⟩ (kX9_sort l D Y _ a n f (by first | assumption | omega) (by first | assumption | omega)) (va_cwS 4 hts gJ7_sort_2022b_X9_sort rfl rfl rfl (by decide +kernel) ⟨Nat.le_of_ble_eq_true rfl, Nat.le_of_ble_eq_true rfl⟩) hKN hP hD hS hA [0] [] [0] rfl (by decide) rfl rfl rfl rfl hl.1 (Nat.le_of_ble_eq_true rfl) dJ7_sort_2022b_5 ⟨Nat.le_of_ble_eq_true rfl, Nat.le_of_ble_eq_true rfl⟩ (fun H locs hP hD hS => ?_)
  exact eV hx hb hr hlk hP hD hS (by exact Nat.le_of_ble_eq_true rfl) (by exact Nat.le_of_ble_eq_true rfl) dJ7_sort_2022b_8
