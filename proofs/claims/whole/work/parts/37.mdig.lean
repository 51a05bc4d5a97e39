abbrev rm_kX7_digest : Room := { frames := 2, cells := 11, slots := 121, locals := 50 }
set_option maxHeartbeats 4000000 in
set_option maxRecDepth 100000 in
theorem kX7_digest (l : Launch) (D : va_G) (Y : Nat → ClassId) (sz : Nat) (z : Nat) (z1 : Nat) (z2 : Nat) (z3 : Nat) (z4 : Nat) (z5 : Nat) (z6 : Nat) (z7 : Nat) (q : Nat) (q1 : Nat) (q2 : Nat) (q3 : Nat) (r : Nat) (wa : fN) (da : fN) (gu : fN) (pa : fN) (fl : fN) (sn : fN) (ic : fN) (ru : fN) (st : fN) (jr : fN) (ln : fN) (pt : fN) (fa : fN) (ho : fN) (wt : Int32) (th : Int32) (tm : Nat) (np : Nat) (nj : Nat) (hnp : np ≤ 5) (hnj : nj ≤ 30) (htm : tm < 2 ^ 31) (hfa : sumU fa nj = sumU fa 30) : ML l yX7_digest wsX7_digest rm_kX7_digest D Y [.ref z] sz [(z, .inr (7, [.int th, .ref z1, .ref z2, .ref z3, .int (nI np), .ref z4, .ref z5, .ref z6, .int (nI nj), .ref z7, .ref q, .ref r])), (z1, .inl (Y 0, 24, .inl wa)), (z2, .inl (Y 0, 24, .inl da)), (z3, .inl (Y 0, 24, .inl gu)), (z4, .inl (Y 0, 5, .inl pa)), (z5, .inl (Y 0, 5, .inl fl)), (z6, .inl (Y 0, 5, .inl st)), (z7, .inl (Y 0, 150, .inl (bkU jr ln pt fa ho))), (q, .inr (6, [.int (nI tm), .int wt, .ref q1, .ref q2, .ref q3])), (q1, .inl (Y 0, 20, .inl sn)), (q2, .inl (Y 0, 20, .inl ic)), (q3, .inl (Y 0, 5, .inl ru))] (dgU wa da gu pa fl sn ic ru st jr ln pt fa ho wt tm np nj) [(z, .inr (7, [.int (0 : Int32), .ref z1, .ref z2, .ref z3, .int (nI np), .ref z4, .ref z5, .ref z6, .int (nI nj), .ref z7, .ref q, .ref r])), (z1, .inl (Y 0, 24, .inl wa)), (z2, .inl (Y 0, 24, .inl da)), (z3, .inl (Y 0, 24, .inl gu)), (z4, .inl (Y 0, 5, .inl pa)), (z5, .inl (Y 0, 5, .inl fl)), (z6, .inl (Y 0, 5, .inl st)), (z7, .inl (Y 0, 150, .inl (bkU jr ln pt fa ho))), (q, .inr (6, [.int (nI tm), .int wt, .ref q1, .ref q2, .ref q3])), (q1, .inl (Y 0, 20, .inl sn)), (q2, .inl (Y 0, 20, .inl ic)), (q3, .inl (Y 0, 5, .inl ru))] 11 121 := by
  refine pcW_start (cc := cX7_digest) (maxL := 7) (ret := (some .long)) (Qc := fun A => va_Ql (fun (r : Int64) (_ : Unit) => r = (dgU wa da gu pa fl sn ic ru st jr ln pt fa ho wt tm np nj)) (qW D A [(z, .inr (7, [.int (0 : Int32), .ref z1, .ref z2, .ref z3, .int (nI np), .ref z4, .ref z5, .ref z6, .int (nI nj), .ref z7, .ref q, .ref r])), (z1, .inl (Y 0, 24, .inl wa)), (z2, .inl (Y 0, 24, .inl da)), (z3, .inl (Y 0, 24, .inl gu)), (z4, .inl (Y 0, 5, .inl pa)), (z5, .inl (Y 0, 5, .inl fl)), (z6, .inl (Y 0, 5, .inl st)), (z7, .inl (Y 0, 150, .inl (bkU jr ln pt fa ho))), (q, .inr (6, [.int (nI tm), .int wt, .ref q1, .ref q2, .ref q3])), (q1, .inl (Y 0, 20, .inl sn)), (q2, .inl (Y 0, 20, .inl ic)), (q3, .inl (Y 0, 5, .inl ru))]) A) (by decide) rfl (Nat.le_of_ble_eq_true rfl) ?_
  intro p e s m below meth c A ls hE hKN hA hP hD hl
  obtain ⟨hx, hb, hr, hml, hown, hts, hlk, hin⟩ := hE
  have hown : s.vm.findClass RX7 = some m.cls := hown
  have hS : va_S A s.heap s.heap [] := va_S.rf
  have hi6 : ∀ w ∈ wsX60, w ∈ wsX7_digest := by decide +kernel
  have hi7 : ∀ w ∈ wsX70, w ∈ wsX7_digest := by decide +kernel
  have hl : lv_has ls 7 [(0, .ref z)] := hl
  refine lv_aload_n hx hb dX7_digest_0 rfl (lv_at hl 0 rfl) ?_
  refine lv_iconst (v := (0 : Int32)) hx hb dX7_digest_1 (by decide) ?_
  refine va_put (D := D) (ci := 7) (v := .int (0 : Int32)) (ty := .int) (C := RX7) (T := TX7) (N := 12) hx hb hts hi7 tyX7 tyX7_ok nmX7 hown hKN.1 hP hD hS 0 rfl rfl 0 (by decide) (hts (.fieldLink RX7 41 "SnowPumpsModel" "thrown" "I") (by decide +kernel)) (fun _ h9 => h9) rfl (by decide +kernel) rfl rfl (Nat.le_of_ble_eq_true rfl) dX7_digest_2 (fun H locs hP hD hS => ?_)
  have hP : va_P D vwCl [(z, .inr (7, [.int (0 : Int32), .ref z1, .ref z2, .ref z3, .int (nI np), .ref z4, .ref z5, .ref z6, .int (nI nj), .ref z7, .ref q, .ref r])), (z1, .inl (Y 0, 24, .inl wa)), (z2, .inl (Y 0, 24, .inl da)), (z3, .inl (Y 0, 24, .inl gu)), (z4, .inl (Y 0, 5, .inl pa)), (z5, .inl (Y 0, 5, .inl fl)), (z6, .inl (Y 0, 5, .inl st)), (z7, .inl (Y 0, 150, .inl (bkU jr ln pt fa ho))), (q, .inr (6, [.int (nI tm), .int wt, .ref q1, .ref q2, .ref q3])), (q1, .inl (Y 0, 20, .inl sn)), (q2, .inl (Y 0, 20, .inl ic)), (q3, .inl (Y 0, 5, .inl ru))] _ := hP
  have hD : va_D A [(z, .inr (7, [.int (0 : Int32), .ref z1, .ref z2, .ref z3, .int (nI np), .ref z4, .ref z5, .ref z6, .int (nI nj), .ref z7, .ref q, .ref r])), (z1, .inl (Y 0, 24, .inl wa)), (z2, .inl (Y 0, 24, .inl da)), (z3, .inl (Y 0, 24, .inl gu)), (z4, .inl (Y 0, 5, .inl pa)), (z5, .inl (Y 0, 5, .inl fl)), (z6, .inl (Y 0, 5, .inl st)), (z7, .inl (Y 0, 150, .inl (bkU jr ln pt fa ho))), (q, .inr (6, [.int (nI tm), .int wt, .ref q1, .ref q2, .ref q3])), (q1, .inl (Y 0, 20, .inl sn)), (q2, .inl (Y 0, 20, .inl ic)), (q3, .inl (Y 0, 5, .inl ru))] := hD
  refine lv_ldc2 (v := (1181 : Int64)) hx hb hown (hts (.constantLong RX7 144 (1181 : Int64)) (by decide +kernel)) dX7_digest_5 ?_
  refine lv_lstore_n (lv' := [(1, .long (1181 : Int64)), (0, .ref z)]) hx hb dX7_digest_8 rfl hl (by decide) rfl (fun ls hl => ?_)
  refine lv_iconst (v := (0 : Int32)) hx hb dX7_digest_9 (by decide) ?_
  refine lv_istore_n (lv' := [(3, .int (0 : Int32)), (1, .long (1181 : Int64)), (0, .ref z)]) hx hb dX7_digest_10 rfl hl (by decide) rfl (fun ls hl => ?_)
  refine LPP (σ := Nat) (I := fun i H locs ls => i ≤ 11 ∧ va_P D vwCl [(z, .inr (7, [.int (0 : Int32), .ref z1, .ref z2, .ref z3, .int (nI np), .ref z4, .ref z5, .ref z6, .int (nI nj), .ref z7, .ref q, .ref r])), (z1, .inl (Y 0, 24, .inl wa)), (z2, .inl (Y 0, 24, .inl da)), (z3, .inl (Y 0, 24, .inl gu)), (z4, .inl (Y 0, 5, .inl pa)), (z5, .inl (Y 0, 5, .inl fl)), (z6, .inl (Y 0, 5, .inl st)), (z7, .inl (Y 0, 150, .inl (bkU jr ln pt fa ho))), (q, .inr (6, [.int (nI tm), .int wt, .ref q1, .ref q2, .ref q3])), (q1, .inl (Y 0, 20, .inl sn)), (q2, .inl (Y 0, 20, .inl ic)), (q3, .inl (Y 0, 5, .inl ru))] H ∧ va_D A [(z, .inr (7, [.int (0 : Int32), .ref z1, .ref z2, .ref z3, .int (nI np), .ref z4, .ref z5, .ref z6, .int (nI nj), .ref z7, .ref q, .ref r])), (z1, .inl (Y 0, 24, .inl wa)), (z2, .inl (Y 0, 24, .inl da)), (z3, .inl (Y 0, 24, .inl gu)), (z4, .inl (Y 0, 5, .inl pa)), (z5, .inl (Y 0, 5, .inl fl)), (z6, .inl (Y 0, 5, .inl st)), (z7, .inl (Y 0, 150, .inl (bkU jr ln pt fa ho))), (q, .inr (6, [.int (nI tm), .int wt, .ref q1, .ref q2, .ref q3])), (q1, .inl (Y 0, 20, .inl sn)), (q2, .inl (Y 0, 20, .inl ic)), (q3, .inl (Y 0, 5, .inl ru))] ∧ va_S A s.heap H locs ∧ lv_has ls 7 [(0, .ref z), (1, .long (dig1 (cntsU wa da gu sn ic ru fa wt tm np nj) i 1181)), (3, .int (nI i))]) (μ := fun i => 11 - i) (cl := fun i => i) (sl := fun i => 11 * i) (fun i ih_11 H locs ls hI => ?_) 0 _ _ _ ⟨by omega, hP, hD, hS, lv_sub hl [2, 1, 0] rfl⟩
  obtain ⟨hi, hP, hD, hS, hl⟩ := hI
  refine lv_iload_n hx hb dX7_digest_11 rfl (lv_at hl 2 rfl) ?_
  refine lv_bipush (v := (10 : Int32)) hx hb dX7_digest_12 (by decide) ?_
  refine lv_icmp_gt (tgt := 40) hx hb dX7_digest_14 (by decide) (fun c_14 => ?_) (fun c_14 => ?_)
  · have hlt := ngt (N := 10) (by omega) (by omega) c_14
    obtain rfl : 11 = i := by omega
    refine lv_iconst (v := (0 : Int32)) hx hb dX7_digest_40 (by decide) ?_
    refine lv_istore_n (lv' := [(3, .int (0 : Int32)), (0, .ref z), (1, .long (dig1 (cntsU wa da gu sn ic ru fa wt tm np nj) 11 1181))]) hx hb dX7_digest_41 rfl hl (by decide) rfl (fun ls hl => ?_)
    refine LPP (σ := Nat) (I := fun i H locs ls => i ≤ 20 ∧ va_P D vwCl [(z, .inr (7, [.int (0 : Int32), .ref z1, .ref z2, .ref z3, .int (nI np), .ref z4, .ref z5, .ref z6, .int (nI nj), .ref z7, .ref q, .ref r])), (z1, .inl (Y 0, 24, .inl wa)), (z2, .inl (Y 0, 24, .inl da)), (z3, .inl (Y 0, 24, .inl gu)), (z4, .inl (Y 0, 5, .inl pa)), (z5, .inl (Y 0, 5, .inl fl)), (z6, .inl (Y 0, 5, .inl st)), (z7, .inl (Y 0, 150, .inl (bkU jr ln pt fa ho))), (q, .inr (6, [.int (nI tm), .int wt, .ref q1, .ref q2, .ref q3])), (q1, .inl (Y 0, 20, .inl sn)), (q2, .inl (Y 0, 20, .inl ic)), (q3, .inl (Y 0, 5, .inl ru))] H ∧ va_D A [(z, .inr (7, [.int (0 : Int32), .ref z1, .ref z2, .ref z3, .int (nI np), .ref z4, .ref z5, .ref z6, .int (nI nj), .ref z7, .ref q, .ref r])), (z1, .inl (Y 0, 24, .inl wa)), (z2, .inl (Y 0, 24, .inl da)), (z3, .inl (Y 0, 24, .inl gu)), (z4, .inl (Y 0, 5, .inl pa)), (z5, .inl (Y 0, 5, .inl fl)), (z6, .inl (Y 0, 5, .inl st)), (z7, .inl (Y 0, 150, .inl (bkU jr ln pt fa ho))), (q, .inr (6, [.int (nI tm), .int wt, .ref q1, .ref q2, .ref q3])), (q1, .inl (Y 0, 20, .inl sn)), (q2, .inl (Y 0, 20, .inl ic)), (q3, .inl (Y 0, 5, .inl ru))] ∧ va_S A s.heap H locs ∧ lv_has ls 7 [(0, .ref z), (1, .long (dig2 (partU sn ic pa np) 4 i (dig1 (cntsU wa da gu sn ic ru fa wt tm np nj) 11 1181))), (3, .int (nI i))]) (μ := fun i => 20 - i) (cl := fun i => 11) (sl := fun i => 11 * 11) (fun i ih_42 H locs ls hI => ?_) 0 _ _ _ ⟨by omega, hP, hD, hS, lv_sub hl [1, 2, 0] rfl⟩
    obtain ⟨hi, hP, hD, hS, hl⟩ := hI
    refine lv_iload_n hx hb dX7_digest_42 rfl (lv_at hl 2 rfl) ?_
    refine lv_bipush (v := (20 : Int32)) hx hb dX7_digest_43 (by decide) ?_
    refine lv_icmp_ge (tgt := 84) hx hb dX7_digest_45 (by decide) (fun c_45 => ?_) (fun c_45 => ?_)
    · have hlt := ngl (N := 20) (by first | decide | omega) (by omega) c_45
      obtain rfl : 20 = i := by omega
      refine lv_iconst (v := (0 : Int32)) hx hb dX7_digest_84 (by decide) ?_
      refine lv_istore_n (lv' := [(3, .int (0 : Int32)), (0, .ref z), (1, .long (dig2 (partU sn ic pa np) 4 20 (dig1 (cntsU wa da gu sn ic ru fa wt tm np nj) 11 1181)))]) hx hb dX7_digest_85 rfl hl (by decide) rfl (fun ls hl => ?_)
      refine LPP (σ := Nat) (I := fun i H locs ls => i ≤ 24 ∧ va_P D vwCl [(z, .inr (7, [.int (0 : Int32), .ref z1, .ref z2, .ref z3, .int (nI np), .ref z4, .ref z5, .ref z6, .int (nI nj), .ref z7, .ref q, .ref r])), (z1, .inl (Y 0, 24, .inl wa)), (z2, .inl (Y 0, 24, .inl da)), (z3, .inl (Y 0, 24, .inl gu)), (z4, .inl (Y 0, 5, .inl pa)), (z5, .inl (Y 0, 5, .inl fl)), (z6, .inl (Y 0, 5, .inl st)), (z7, .inl (Y 0, 150, .inl (bkU jr ln pt fa ho))), (q, .inr (6, [.int (nI tm), .int wt, .ref q1, .ref q2, .ref q3])), (q1, .inl (Y 0, 20, .inl sn)), (q2, .inl (Y 0, 20, .inl ic)), (q3, .inl (Y 0, 5, .inl ru))] H ∧ va_D A [(z, .inr (7, [.int (0 : Int32), .ref z1, .ref z2, .ref z3, .int (nI np), .ref z4, .ref z5, .ref z6, .int (nI nj), .ref z7, .ref q, .ref r])), (z1, .inl (Y 0, 24, .inl wa)), (z2, .inl (Y 0, 24, .inl da)), (z3, .inl (Y 0, 24, .inl gu)), (z4, .inl (Y 0, 5, .inl pa)), (z5, .inl (Y 0, 5, .inl fl)), (z6, .inl (Y 0, 5, .inl st)), (z7, .inl (Y 0, 150, .inl (bkU jr ln pt fa ho))), (q, .inr (6, [.int (nI tm), .int wt, .ref q1, .ref q2, .ref q3])), (q1, .inl (Y 0, 20, .inl sn)), (q2, .inl (Y 0, 20, .inl ic)), (q3, .inl (Y 0, 5, .inl ru))] ∧ va_S A s.heap H locs ∧ lv_has ls 7 [(0, .ref z), (1, .long (dig3 wa da gu i (dig2 (partU sn ic pa np) 4 20 (dig1 (cntsU wa da gu sn ic ru fa wt tm np nj) 11 1181)))), (3, .int (nI i))]) (μ := fun i => 24 - i) (cl := fun i => 11) (sl := fun i => 11 * 11) (fun i ih_86 H locs ls hI => ?_) 0 _ _ _ ⟨by omega, hP, hD, hS, lv_sub hl [1, 2, 0] rfl⟩
      obtain ⟨hi, hP, hD, hS, hl⟩ := hI
      refine lv_iload_n hx hb dX7_digest_86 rfl (lv_at hl 2 rfl) ?_
      refine lv_bipush (v := (24 : Int32)) hx hb dX7_digest_87 (by decide) ?_
      refine lv_icmp_ge (tgt := 136) hx hb dX7_digest_89 (by decide) (fun c_89 => ?_) (fun c_89 => ?_)
      · have hlt := ngl (N := 24) (by first | decide | omega) (by omega) c_89
        obtain rfl : 24 = i := by omega
        refine lv_aload_n hx hb dX7_digest_136 rfl (lv_at hl 0 rfl) ?_
        refine va_get (D := D) (ci := 7) (v := .ref z6) (C := RX7) (T := TX7) (N := 12) hx hb hts hi7 hown hKN.1 hP 0 rfl rfl 7 (by decide) (hts (.fieldLink RX7 25 "SnowPumpsModel" "strict" "[I") (by decide +kernel)) (fun _ h9 => h9) rfl dX7_digest_137 ?_
        refine lv_astore_n (lv' := [(3, .ref z6), (0, .ref z), (1, .long (dig3 wa da gu 24 (dig2 (partU sn ic pa np) 4 20 (dig1 (cntsU wa da gu sn ic ru fa wt tm np nj) 11 1181))))]) hx hb dX7_digest_140 rfl hl (by decide) rfl (fun ls hl => ?_)
        refine lv_aload_n hx hb dX7_digest_141 rfl (lv_at hl 0 rfl) ?_
        refine va_alen hx hb hKN.1 hP 6 0 rfl rfl (v := (5 : Int32)) (by rfl) dX7_digest_142 ?_
        refine lv_istore (lv' := [(4, .int (5 : Int32)), (3, .ref z6), (0, .ref z), (1, .long (dig3 wa da gu 24 (dig2 (partU sn ic pa np) 4 20 (dig1 (cntsU wa da gu sn ic ru fa wt tm np nj) 11 1181))))]) hx hb dX7_digest_143 hl (by decide) rfl (fun ls hl => ?_)
        refine lv_iconst (v := (0 : Int32)) hx hb dX7_digest_145 (by decide) ?_
        refine lv_istore (lv' := [(5, .int (0 : Int32)), (4, .int (5 : Int32)), (3, .ref z6), (0, .ref z), (1, .long (dig3 wa da gu 24 (dig2 (partU sn ic pa np) 4 20 (dig1 (cntsU wa da gu sn ic ru fa wt tm np nj) 11 1181))))]) hx hb dX7_digest_146 hl (by decide) rfl (fun ls hl => ?_)
        refine LPP (σ := Nat) (I := fun i H locs ls => i ≤ 5 ∧ va_P D vwCl [(z, .inr (7, [.int (0 : Int32), .ref z1, .ref z2, .ref z3, .int (nI np), .ref z4, .ref z5, .ref z6, .int (nI nj), .ref z7, .ref q, .ref r])), (z1, .inl (Y 0, 24, .inl wa)), (z2, .inl (Y 0, 24, .inl da)), (z3, .inl (Y 0, 24, .inl gu)), (z4, .inl (Y 0, 5, .inl pa)), (z5, .inl (Y 0, 5, .inl fl)), (z6, .inl (Y 0, 5, .inl st)), (z7, .inl (Y 0, 150, .inl (bkU jr ln pt fa ho))), (q, .inr (6, [.int (nI tm), .int wt, .ref q1, .ref q2, .ref q3])), (q1, .inl (Y 0, 20, .inl sn)), (q2, .inl (Y 0, 20, .inl ic)), (q3, .inl (Y 0, 5, .inl ru))] H ∧ va_D A [(z, .inr (7, [.int (0 : Int32), .ref z1, .ref z2, .ref z3, .int (nI np), .ref z4, .ref z5, .ref z6, .int (nI nj), .ref z7, .ref q, .ref r])), (z1, .inl (Y 0, 24, .inl wa)), (z2, .inl (Y 0, 24, .inl da)), (z3, .inl (Y 0, 24, .inl gu)), (z4, .inl (Y 0, 5, .inl pa)), (z5, .inl (Y 0, 5, .inl fl)), (z6, .inl (Y 0, 5, .inl st)), (z7, .inl (Y 0, 150, .inl (bkU jr ln pt fa ho))), (q, .inr (6, [.int (nI tm), .int wt, .ref q1, .ref q2, .ref q3])), (q1, .inl (Y 0, 20, .inl sn)), (q2, .inl (Y 0, 20, .inl ic)), (q3, .inl (Y 0, 5, .inl ru))] ∧ va_S A s.heap H locs ∧ lv_has ls 7 [(0, .ref z), (1, .long (dig1 st i (dig3 wa da gu 24 (dig2 (partU sn ic pa np) 4 20 (dig1 (cntsU wa da gu sn ic ru fa wt tm np nj) 11 1181))))), (3, .ref z6), (4, .int (5 : Int32)), (5, .int (nI i))]) (μ := fun i => 5 - i) (cl := fun i => 11) (sl := fun i => 11 * 11) (fun i ih_148 H locs ls hI => ?_) 0 _ _ _ ⟨by omega, hP, hD, hS, lv_sub hl [3, 4, 2, 1, 0] rfl⟩
        obtain ⟨hi, hP, hD, hS, hl⟩ := hI
        refine lv_iload hx hb dX7_digest_148 (lv_at hl 4 rfl) ?_
        refine lv_iload hx hb dX7_digest_150 (lv_at hl 3 rfl) ?_
        refine lv_icmp_ge (tgt := 177) hx hb dX7_digest_152 (by decide) (fun c_152 => ?_) (fun c_152 => ?_)
        · have hlt := ngl (N := 5) (by first | decide | omega) (by omega) c_152
          obtain rfl : 5 = i := by omega
          refine lv_iconst (v := (0 : Int32)) hx hb dX7_digest_177 (by decide) ?_
          refine lv_istore_n (lv' := [(3, .int (0 : Int32)), (0, .ref z), (1, .long (dig1 st 5 (dig3 wa da gu 24 (dig2 (partU sn ic pa np) 4 20 (dig1 (cntsU wa da gu sn ic ru fa wt tm np nj) 11 1181))))), (4, .int (5 : Int32)), (5, .int (nI 5))]) hx hb dX7_digest_178 rfl hl (by decide) rfl (fun ls hl => ?_)
          refine LPP (σ := Nat) (I := fun i H locs ls => i ≤ np ∧ va_P D vwCl [(z, .inr (7, [.int (0 : Int32), .ref z1, .ref z2, .ref z3, .int (nI np), .ref z4, .ref z5, .ref z6, .int (nI nj), .ref z7, .ref q, .ref r])), (z1, .inl (Y 0, 24, .inl wa)), (z2, .inl (Y 0, 24, .inl da)), (z3, .inl (Y 0, 24, .inl gu)), (z4, .inl (Y 0, 5, .inl pa)), (z5, .inl (Y 0, 5, .inl fl)), (z6, .inl (Y 0, 5, .inl st)), (z7, .inl (Y 0, 150, .inl (bkU jr ln pt fa ho))), (q, .inr (6, [.int (nI tm), .int wt, .ref q1, .ref q2, .ref q3])), (q1, .inl (Y 0, 20, .inl sn)), (q2, .inl (Y 0, 20, .inl ic)), (q3, .inl (Y 0, 5, .inl ru))] H ∧ va_D A [(z, .inr (7, [.int (0 : Int32), .ref z1, .ref z2, .ref z3, .int (nI np), .ref z4, .ref z5, .ref z6, .int (nI nj), .ref z7, .ref q, .ref r])), (z1, .inl (Y 0, 24, .inl wa)), (z2, .inl (Y 0, 24, .inl da)), (z3, .inl (Y 0, 24, .inl gu)), (z4, .inl (Y 0, 5, .inl pa)), (z5, .inl (Y 0, 5, .inl fl)), (z6, .inl (Y 0, 5, .inl st)), (z7, .inl (Y 0, 150, .inl (bkU jr ln pt fa ho))), (q, .inr (6, [.int (nI tm), .int wt, .ref q1, .ref q2, .ref q3])), (q1, .inl (Y 0, 20, .inl sn)), (q2, .inl (Y 0, 20, .inl ic)), (q3, .inl (Y 0, 5, .inl ru))] ∧ va_S A s.heap H locs ∧ lv_has ls 7 [(0, .ref z), (1, .long (dig3 pa fl ru i (dig1 st 5 (dig3 wa da gu 24 (dig2 (partU sn ic pa np) 4 20 (dig1 (cntsU wa da gu sn ic ru fa wt tm np nj) 11 1181)))))), (3, .int (nI i))]) (μ := fun i => np - i) (cl := fun i => 11) (sl := fun i => 11 * 11) (fun i ih_179 H locs ls hI => ?_) 0 _ _ _ ⟨by omega, hP, hD, hS, lv_sub hl [1, 2, 0] rfl⟩
          obtain ⟨hi, hP, hD, hS, hl⟩ := hI
          refine lv_iload_n hx hb dX7_digest_179 rfl (lv_at hl 2 rfl) ?_
          refine lv_aload_n hx hb dX7_digest_180 rfl (lv_at hl 0 rfl) ?_
          refine va_get (D := D) (ci := 7) (v := .int (nI np)) (C := RX7) (T := TX7) (N := 12) hx hb hts hi7 hown hKN.1 hP 0 rfl rfl 4 (by decide) (hts (.fieldLink RX7 49 "SnowPumpsModel" "pumps" "I") (by decide +kernel)) (fun _ h9 => h9) rfl dX7_digest_181 ?_
          refine lv_icmp_ge (tgt := 234) hx hb dX7_digest_184 (by decide) (fun c_184 => ?_) (fun c_184 => ?_)
          · have hlt := ngl (N := np) (by first | decide | omega) (by omega) c_184
            obtain rfl : np = i := by omega
            refine lv_iconst (v := (0 : Int32)) hx hb dX7_digest_234 (by decide) ?_
            refine lv_istore_n (lv' := [(3, .int (0 : Int32)), (0, .ref z), (1, .long (dig3 pa fl ru np (dig1 st 5 (dig3 wa da gu 24 (dig2 (partU sn ic pa np) 4 20 (dig1 (cntsU wa da gu sn ic ru fa wt tm np nj) 11 1181))))))]) hx hb dX7_digest_235 rfl hl (by decide) rfl (fun ls hl => ?_)
            refine LPP (σ := Nat) (I := fun i H locs ls => i ≤ 5 * nj ∧ va_P D vwCl [(z, .inr (7, [.int (0 : Int32), .ref z1, .ref z2, .ref z3, .int (nI np), .ref z4, .ref z5, .ref z6, .int (nI nj), .ref z7, .ref q, .ref r])), (z1, .inl (Y 0, 24, .inl wa)), (z2, .inl (Y 0, 24, .inl da)), (z3, .inl (Y 0, 24, .inl gu)), (z4, .inl (Y 0, 5, .inl pa)), (z5, .inl (Y 0, 5, .inl fl)), (z6, .inl (Y 0, 5, .inl st)), (z7, .inl (Y 0, 150, .inl (bkU jr ln pt fa ho))), (q, .inr (6, [.int (nI tm), .int wt, .ref q1, .ref q2, .ref q3])), (q1, .inl (Y 0, 20, .inl sn)), (q2, .inl (Y 0, 20, .inl ic)), (q3, .inl (Y 0, 5, .inl ru))] H ∧ va_D A [(z, .inr (7, [.int (0 : Int32), .ref z1, .ref z2, .ref z3, .int (nI np), .ref z4, .ref z5, .ref z6, .int (nI nj), .ref z7, .ref q, .ref r])), (z1, .inl (Y 0, 24, .inl wa)), (z2, .inl (Y 0, 24, .inl da)), (z3, .inl (Y 0, 24, .inl gu)), (z4, .inl (Y 0, 5, .inl pa)), (z5, .inl (Y 0, 5, .inl fl)), (z6, .inl (Y 0, 5, .inl st)), (z7, .inl (Y 0, 150, .inl (bkU jr ln pt fa ho))), (q, .inr (6, [.int (nI tm), .int wt, .ref q1, .ref q2, .ref q3])), (q1, .inl (Y 0, 20, .inl sn)), (q2, .inl (Y 0, 20, .inl ic)), (q3, .inl (Y 0, 5, .inl ru))] ∧ va_S A s.heap H locs ∧ lv_has ls 7 [(0, .ref z), (1, .long (dig1 (bkU jr ln pt fa ho) i (dig3 pa fl ru np (dig1 st 5 (dig3 wa da gu 24 (dig2 (partU sn ic pa np) 4 20 (dig1 (cntsU wa da gu sn ic ru fa wt tm np nj) 11 1181))))))), (3, .int (nI i))]) (μ := fun i => 5 * nj - i) (cl := fun i => 11) (sl := fun i => 11 * 11) (fun i ih_236 H locs ls hI => ?_) 0 _ _ _ ⟨by omega, hP, hD, hS, lv_sub hl [1, 2, 0] rfl⟩
            obtain ⟨hi, hP, hD, hS, hl⟩ := hI
            refine lv_iload_n hx hb dX7_digest_236 rfl (lv_at hl 2 rfl) ?_
            refine lv_iconst (v := (5 : Int32)) hx hb dX7_digest_237 (by decide) ?_
            refine lv_aload_n hx hb dX7_digest_238 rfl (lv_at hl 0 rfl) ?_
            refine va_get (D := D) (ci := 7) (v := .int (nI nj)) (C := RX7) (T := TX7) (N := 12) hx hb hts hi7 hown hKN.1 hP 0 rfl rfl 8 (by decide) (hts (.fieldLink RX7 102 "SnowPumpsModel" "jumps" "I") (by decide +kernel)) (fun _ h9 => h9) rfl dX7_digest_239 ?_
            refine lv_imul hx hb dX7_digest_242 ?_
            refine lv_eqi (y := nI (5 * nj)) (by exact pk_mul 5 _) ?_
            refine lv_icmp_ge (tgt := 266) hx hb dX7_digest_243 (by decide) (fun c_243 => ?_) (fun c_243 => ?_)
            · have hlt := ngl (N := 5 * nj) (by first | decide | omega) (by omega) c_243
              obtain rfl : 5 * nj = i := by omega
              have e8 := dig_book (jr := jr) (ln := ln) (pt := pt) (fa := fa) (ho := ho) (dig3 pa fl ru np (dig1 st 5 (dig3 wa da gu 24 (dig2 (partU sn ic pa np) 4 20 (dig1 (cntsU wa da gu sn ic ru fa wt tm np nj) 11 1181))))) nj
              have ec_1 : (dig1 (bkU jr ln pt fa ho) (5 * nj) (dig3 pa fl ru np (dig1 st 5 (dig3 wa da gu 24 (dig2 (partU sn ic pa np) 4 20 (dig1 (cntsU wa da gu sn ic ru fa wt tm np nj) 11 1181)))))) = (dig2 (tellU jr ln pt fa ho) 5 nj (dig3 pa fl ru np (dig1 st 5 (dig3 wa da gu 24 (dig2 (partU sn ic pa np) 4 20 (dig1 (cntsU wa da gu sn ic ru fa wt tm np nj) 11 1181)))))) := by exact e8
              have hl : lv_has ls 7 [(0, .ref z), (1, .long (dig2 (tellU jr ln pt fa ho) 5 nj (dig3 pa fl ru np (dig1 st 5 (dig3 wa da gu 24 (dig2 (partU sn ic pa np) 4 20 (dig1 (cntsU wa da gu sn ic ru fa wt tm np nj) 11 1181))))))), (3, .int (nI (5 * nj)))] := (congrArg (fun zz9 => lv_has ls 7 [(0, .ref z), (1, .long zz9), (3, .int (nI (5 * nj)))]) ec_1).mp hl
              refine lv_iconst (v := (0 : Int32)) hx hb dX7_digest_266 (by decide) ?_
              refine lv_istore_n (lv' := [(3, .int (0 : Int32)), (0, .ref z), (1, .long (dig2 (tellU jr ln pt fa ho) 5 nj (dig3 pa fl ru np (dig1 st 5 (dig3 wa da gu 24 (dig2 (partU sn ic pa np) 4 20 (dig1 (cntsU wa da gu sn ic ru fa wt tm np nj) 11 1181)))))))]) hx hb dX7_digest_267 rfl hl (by decide) rfl (fun ls hl => ?_)
              refine LPP (σ := Nat) (I := fun i H locs ls => i ≤ 10 ∧ va_P D vwCl [(z, .inr (7, [.int (0 : Int32), .ref z1, .ref z2, .ref z3, .int (nI np), .ref z4, .ref z5, .ref z6, .int (nI nj), .ref z7, .ref q, .ref r])), (z1, .inl (Y 0, 24, .inl wa)), (z2, .inl (Y 0, 24, .inl da)), (z3, .inl (Y 0, 24, .inl gu)), (z4, .inl (Y 0, 5, .inl pa)), (z5, .inl (Y 0, 5, .inl fl)), (z6, .inl (Y 0, 5, .inl st)), (z7, .inl (Y 0, 150, .inl (bkU jr ln pt fa ho))), (q, .inr (6, [.int (nI tm), .int wt, .ref q1, .ref q2, .ref q3])), (q1, .inl (Y 0, 20, .inl sn)), (q2, .inl (Y 0, 20, .inl ic)), (q3, .inl (Y 0, 5, .inl ru))] H ∧ va_D A [(z, .inr (7, [.int (0 : Int32), .ref z1, .ref z2, .ref z3, .int (nI np), .ref z4, .ref z5, .ref z6, .int (nI nj), .ref z7, .ref q, .ref r])), (z1, .inl (Y 0, 24, .inl wa)), (z2, .inl (Y 0, 24, .inl da)), (z3, .inl (Y 0, 24, .inl gu)), (z4, .inl (Y 0, 5, .inl pa)), (z5, .inl (Y 0, 5, .inl fl)), (z6, .inl (Y 0, 5, .inl st)), (z7, .inl (Y 0, 150, .inl (bkU jr ln pt fa ho))), (q, .inr (6, [.int (nI tm), .int wt, .ref q1, .ref q2, .ref q3])), (q1, .inl (Y 0, 20, .inl sn)), (q2, .inl (Y 0, 20, .inl ic)), (q3, .inl (Y 0, 5, .inl ru))] ∧ va_S A s.heap H locs ∧ lv_has ls 7 [(0, .ref z), (1, .long (dig1 (fun k => scU jr pt nj (nI k)) i (dig2 (tellU jr ln pt fa ho) 5 nj (dig3 pa fl ru np (dig1 st 5 (dig3 wa da gu 24 (dig2 (partU sn ic pa np) 4 20 (dig1 (cntsU wa da gu sn ic ru fa wt tm np nj) 11 1181)))))))), (3, .int (nI i))]) (μ := fun i => 10 - i) (cl := fun i => 11) (sl := fun i => 11 * 11) (fun i ih_268 H locs ls hI => ?_) 0 _ _ _ ⟨by omega, hP, hD, hS, lv_sub hl [1, 2, 0] rfl⟩
              obtain ⟨hi, hP, hD, hS, hl⟩ := hI
              refine lv_iload_n hx hb dX7_digest_268 rfl (lv_at hl 2 rfl) ?_
              refine lv_bipush (v := (10 : Int32)) hx hb dX7_digest_269 (by decide) ?_
              refine lv_icmp_ge (tgt := 293) hx hb dX7_digest_271 (by decide) (fun c_271 => ?_) (fun c_271 => ?_)
              · have hlt := ngl (N := 10) (by first | decide | omega) (by omega) c_271
                obtain rfl : 10 = i := by omega
                refine lv_lload_n hx hb dX7_digest_293 rfl (lv_at hl 1 rfl) ?_
                exact eL hx hb hr hlk hP hD hS (by rfl) (by exact Nat.le_of_ble_eq_true rfl) (by exact Nat.le_of_ble_eq_true rfl) dX7_digest_294
              · have hlt := nge (N := 10) (by first | decide | omega) (by omega) c_271
                refine lv_lload_n hx hb dX7_digest_274 rfl (lv_at hl 1 rfl) ?_
                refine lv_ldc2 (v := (31 : Int64)) hx hb hown (hts (.constantLong RX7 146 (31 : Int64)) (by decide +kernel)) dX7_digest_275 ?_
                refine lv_lmul hx hb dX7_digest_278 ?_
                refine lv_aload_n hx hb dX7_digest_279 rfl (lv_at hl 0 rfl) ?_
                refine lv_iload_n hx hb dX7_digest_280 rfl (lv_at hl 2 rfl) ?_
                refine cVi (As := [.int (nI i)]) (rest := [.long ((dig1 (fun k => scU jr pt nj (nI k)) i (dig2 (tellU jr ln pt fa ho) 5 nj (dig3 pa fl ru np (dig1 st 5 (dig3 wa da gu 24 (dig2 (partU sn ic pa np) 4 20 (dig1 (cntsU wa da gu sn ic ru fa wt tm np nj) 11 1181))))))) * (31 : Int64))]) (ws' := [(z, .inr (7, [.int (0 : Int32), .ref z1, .ref z2, .ref z3, .int (nI np), .ref z4, .ref z5, .ref z6, .int (nI nj), .ref z7, .ref q, .ref r])), (z1, .inl (Y 0, 24, .inl wa)), (z2, .inl (Y 0, 24, .inl da)), (z3, .inl (Y 0, 24, .inl gu)), (z4, .inl (Y 0, 5, .inl pa)), (z5, .inl (Y 0, 5, .inl fl)), (z6, .inl (Y 0, 5, .inl st)), (z7, .inl (Y 0, 150, .inl (bkU jr ln pt fa ho))), (q, .inr (6, [.int (nI tm), .int wt, .ref q1, .ref q2, .ref q3])), (q1, .inl (Y 0, 20, .inl sn)), (q2, .inl (Y 0, 20, .inl ic)), (q3, .inl (Y 0, 5, .inl ru))]) ⟨hx, hb, hml, hown, hts⟩ (kX7_scoreOf l D Y _ z z1 z2 z3 z4 z5 z6 z7 q r jr ln pt fa ho (0 : Int32) np nj (nI i) (by first | assumption | omega)) (cwV 1 hts gX7_digest_X7_scoreOf rfl rfl rfl (by decide +kernel) ⟨Nat.le_of_ble_eq_true rfl, Nat.le_of_ble_eq_true rfl⟩) hKN hP hD hS hA [0, 7] [1, 2, 3, 4, 5, 6, 8, 9, 10, 11] [10, 0, 1, 2, 3, 4, 5, 11, 6, 7, 8, 9] rfl (by decide) rfl rfl 0 7 rfl rfl rfl rfl hl.1 (Nat.le_of_ble_eq_true rfl) dX7_digest_281 ⟨Nat.le_of_ble_eq_true rfl, Nat.le_of_ble_eq_true rfl⟩ (fun H locs hP hD hS => ?_)
                refine lv_i2l hx hb dX7_digest_284 rfl ?_
                refine lv_ladd hx hb dX7_digest_285 ?_
                refine lv_eql (y := dig1 (fun k => scU jr pt nj (nI k)) (i + 1) (dig2 (tellU jr ln pt fa ho) 5 nj (dig3 pa fl ru np (dig1 st 5 (dig3 wa da gu 24 (dig2 (partU sn ic pa np) 4 20 (dig1 (cntsU wa da gu sn ic ru fa wt tm np nj) 11 1181))))))) (by rfl) ?_
                refine lv_lstore_n (lv' := [(1, .long (dig1 (fun k => scU jr pt nj (nI k)) (i + 1) (dig2 (tellU jr ln pt fa ho) 5 nj (dig3 pa fl ru np (dig1 st 5 (dig3 wa da gu 24 (dig2 (partU sn ic pa np) 4 20 (dig1 (cntsU wa da gu sn ic ru fa wt tm np nj) 11 1181)))))))), (0, .ref z), (3, .int (nI i))]) hx hb dX7_digest_286 rfl hl (by decide) rfl (fun ls hl => ?_)
                refine lv_iinc (v := (nI (i + 1))) (lv' := [(3, .int (nI (i + 1))), (1, .long (dig1 (fun k => scU jr pt nj (nI k)) (i + 1) (dig2 (tellU jr ln pt fa ho) 5 nj (dig3 pa fl ru np (dig1 st 5 (dig3 wa da gu 24 (dig2 (partU sn ic pa np) 4 20 (dig1 (cntsU wa da gu sn ic ru fa wt tm np nj) 11 1181)))))))), (0, .ref z)]) hx hb dX7_digest_287 hl (k := 2) rfl (by exact nI_1 _) (by decide) rfl (fun ls hl => ?_)
                refine lv_goto (tgt := 268) hx hb dX7_digest_290 (by decide) ?_
                exact ih_268 (i + 1) _ _ _ (show 10 - (i + 1) < 10 - i by omega) ⟨by omega, hP, hD, hS, lv_sub hl [2, 1, 0] rfl⟩
            · have hlt := nge (N := 5 * nj) (by first | decide | omega) (by omega) c_243
              refine lv_lload_n hx hb dX7_digest_246 rfl (lv_at hl 1 rfl) ?_
              refine lv_ldc2 (v := (31 : Int64)) hx hb hown (hts (.constantLong RX7 146 (31 : Int64)) (by decide +kernel)) dX7_digest_247 ?_
              refine lv_lmul hx hb dX7_digest_250 ?_
              refine lv_aload_n hx hb dX7_digest_251 rfl (lv_at hl 0 rfl) ?_
              refine va_get (D := D) (ci := 7) (v := .ref z7) (C := RX7) (T := TX7) (N := 12) hx hb hts hi7 hown hKN.1 hP 0 rfl rfl 9 (by decide) (hts (.fieldLink RX7 28 "SnowPumpsModel" "book" "[I") (by decide +kernel)) (fun _ h9 => h9) rfl dX7_digest_252 ?_
              refine lv_iload_n hx hb dX7_digest_255 rfl (lv_at hl 2 rfl) ?_
              refine ia hx hb hKN.1 hP 7 0 rfl rfl i (by rfl) (by omega) (by first | decide | assumption | omega) dX7_digest_256 ?_
              refine lv_i2l hx hb dX7_digest_257 rfl ?_
              refine lv_ladd hx hb dX7_digest_258 ?_
              refine lv_eql (y := dig1 (bkU jr ln pt fa ho) (i + 1) (dig3 pa fl ru np (dig1 st 5 (dig3 wa da gu 24 (dig2 (partU sn ic pa np) 4 20 (dig1 (cntsU wa da gu sn ic ru fa wt tm np nj) 11 1181)))))) (by rfl) ?_
              refine lv_lstore_n (lv' := [(1, .long (dig1 (bkU jr ln pt fa ho) (i + 1) (dig3 pa fl ru np (dig1 st 5 (dig3 wa da gu 24 (dig2 (partU sn ic pa np) 4 20 (dig1 (cntsU wa da gu sn ic ru fa wt tm np nj) 11 1181))))))), (0, .ref z), (3, .int (nI i))]) hx hb dX7_digest_259 rfl hl (by decide) rfl (fun ls hl => ?_)
              refine lv_iinc (v := (nI (i + 1))) (lv' := [(3, .int (nI (i + 1))), (1, .long (dig1 (bkU jr ln pt fa ho) (i + 1) (dig3 pa fl ru np (dig1 st 5 (dig3 wa da gu 24 (dig2 (partU sn ic pa np) 4 20 (dig1 (cntsU wa da gu sn ic ru fa wt tm np nj) 11 1181))))))), (0, .ref z)]) hx hb dX7_digest_260 hl (k := 2) rfl (by exact nI_1 _) (by decide) rfl (fun ls hl => ?_)
              refine lv_goto (tgt := 236) hx hb dX7_digest_263 (by decide) ?_
              exact ih_236 (i + 1) _ _ _ (show 5 * nj - (i + 1) < 5 * nj - i by omega) ⟨by omega, hP, hD, hS, lv_sub hl [2, 1, 0] rfl⟩
          · have hlt := nge (N := np) (by first | decide | omega) (by omega) c_184
            refine lv_lload_n hx hb dX7_digest_187 rfl (lv_at hl 1 rfl) ?_
            refine lv_ldc2 (v := (31 : Int64)) hx hb hown (hts (.constantLong RX7 146 (31 : Int64)) (by decide +kernel)) dX7_digest_188 ?_
            refine lv_lmul hx hb dX7_digest_191 ?_
            refine lv_aload_n hx hb dX7_digest_192 rfl (lv_at hl 0 rfl) ?_
            refine va_get (D := D) (ci := 7) (v := .ref z4) (C := RX7) (T := TX7) (N := 12) hx hb hts hi7 hown hKN.1 hP 0 rfl rfl 5 (by decide) (hts (.fieldLink RX7 19 "SnowPumpsModel" "part" "[I") (by decide +kernel)) (fun _ h9 => h9) rfl dX7_digest_193 ?_
            refine lv_iload_n hx hb dX7_digest_196 rfl (lv_at hl 2 rfl) ?_
            refine ia hx hb hKN.1 hP 4 0 rfl rfl i (by rfl) (by omega) (by first | decide | assumption | omega) dX7_digest_197 ?_
            refine lv_i2l hx hb dX7_digest_198 rfl ?_
            refine lv_ladd hx hb dX7_digest_199 ?_
            refine lv_ldc2 (v := (31 : Int64)) hx hb hown (hts (.constantLong RX7 146 (31 : Int64)) (by decide +kernel)) dX7_digest_200 ?_
            refine lv_lmul hx hb dX7_digest_203 ?_
            refine lv_aload_n hx hb dX7_digest_204 rfl (lv_at hl 0 rfl) ?_
            refine va_get (D := D) (ci := 7) (v := .ref z5) (C := RX7) (T := TX7) (N := 12) hx hb hts hi7 hown hKN.1 hP 0 rfl rfl 6 (by decide) (hts (.fieldLink RX7 22 "SnowPumpsModel" "flow" "[I") (by decide +kernel)) (fun _ h9 => h9) rfl dX7_digest_205 ?_
            refine lv_iload_n hx hb dX7_digest_208 rfl (lv_at hl 2 rfl) ?_
            refine ia hx hb hKN.1 hP 5 0 rfl rfl i (by rfl) (by omega) (by first | decide | assumption | omega) dX7_digest_209 ?_
            refine lv_i2l hx hb dX7_digest_210 rfl ?_
            refine lv_ladd hx hb dX7_digest_211 ?_
            refine lv_ldc2 (v := (31 : Int64)) hx hb hown (hts (.constantLong RX7 146 (31 : Int64)) (by decide +kernel)) dX7_digest_212 ?_
            refine lv_lmul hx hb dX7_digest_215 ?_
            refine lv_aload_n hx hb dX7_digest_216 rfl (lv_at hl 0 rfl) ?_
            refine va_get (D := D) (ci := 7) (v := .ref q) (C := RX7) (T := TX7) (N := 12) hx hb hts hi7 hown hKN.1 hP 0 rfl rfl 10 (by decide) (hts (.fieldLink RX7 34 "SnowPumpsModel" "s" "LSnowPumpsModel$State;") (by decide +kernel)) (fun _ h9 => h9) rfl dX7_digest_217 ?_
            refine va_getN (D := D) (ci := 6) (v := .ref q3) (C := RX6) (T := TX6) (N := 5) hx hb hts hi6 hown hKN.1 hP 8 rfl rfl 4 (by decide) (hKN.2.before 12 rfl) (fun _ h9 => h9) rfl dX7_digest_220 ?_
            refine lv_iload_n hx hb dX7_digest_223 rfl (lv_at hl 2 rfl) ?_
            refine ia hx hb hKN.1 hP 11 0 rfl rfl i (by rfl) (by omega) (by first | decide | assumption | omega) dX7_digest_224 ?_
            refine lv_i2l hx hb dX7_digest_225 rfl ?_
            refine lv_ladd hx hb dX7_digest_226 ?_
            refine lv_eql (y := dig3 pa fl ru (i + 1) (dig1 st 5 (dig3 wa da gu 24 (dig2 (partU sn ic pa np) 4 20 (dig1 (cntsU wa da gu sn ic ru fa wt tm np nj) 11 1181))))) (by rfl) ?_
            refine lv_lstore_n (lv' := [(1, .long (dig3 pa fl ru (i + 1) (dig1 st 5 (dig3 wa da gu 24 (dig2 (partU sn ic pa np) 4 20 (dig1 (cntsU wa da gu sn ic ru fa wt tm np nj) 11 1181)))))), (0, .ref z), (3, .int (nI i))]) hx hb dX7_digest_227 rfl hl (by decide) rfl (fun ls hl => ?_)
            refine lv_iinc (v := (nI (i + 1))) (lv' := [(3, .int (nI (i + 1))), (1, .long (dig3 pa fl ru (i + 1) (dig1 st 5 (dig3 wa da gu 24 (dig2 (partU sn ic pa np) 4 20 (dig1 (cntsU wa da gu sn ic ru fa wt tm np nj) 11 1181)))))), (0, .ref z)]) hx hb dX7_digest_228 hl (k := 2) rfl (by exact nI_1 _) (by decide) rfl (fun ls hl => ?_)
            refine lv_goto (tgt := 179) hx hb dX7_digest_231 (by decide) ?_
            exact ih_179 (i + 1) _ _ _ (show np - (i + 1) < np - i by omega) ⟨by omega, hP, hD, hS, lv_sub hl [2, 1, 0] rfl⟩
        · have hlt := nge (N := 5) (by first | decide | omega) (by omega) c_152
          refine lv_aload_n hx hb dX7_digest_155 rfl (lv_at hl 2 rfl) ?_
          refine lv_iload hx hb dX7_digest_156 (lv_at hl 4 rfl) ?_
          refine ia hx hb hKN.1 hP 6 0 rfl rfl i (by rfl) (by omega) (by first | decide | assumption | omega) dX7_digest_158 ?_
          refine lv_istore (lv' := [(6, .int (st i)), (0, .ref z), (1, .long (dig1 st i (dig3 wa da gu 24 (dig2 (partU sn ic pa np) 4 20 (dig1 (cntsU wa da gu sn ic ru fa wt tm np nj) 11 1181))))), (3, .ref z6), (4, .int (5 : Int32)), (5, .int (nI i))]) hx hb dX7_digest_159 hl (by decide) rfl (fun ls hl => ?_)
          refine lv_lload_n hx hb dX7_digest_161 rfl (lv_at hl 2 rfl) ?_
          refine lv_ldc2 (v := (31 : Int64)) hx hb hown (hts (.constantLong RX7 146 (31 : Int64)) (by decide +kernel)) dX7_digest_162 ?_
          refine lv_lmul hx hb dX7_digest_165 ?_
          refine lv_iload hx hb dX7_digest_166 (lv_at hl 0 rfl) ?_
          refine lv_i2l hx hb dX7_digest_168 rfl ?_
          refine lv_ladd hx hb dX7_digest_169 ?_
          refine lv_eql (y := dig1 st (i + 1) (dig3 wa da gu 24 (dig2 (partU sn ic pa np) 4 20 (dig1 (cntsU wa da gu sn ic ru fa wt tm np nj) 11 1181)))) (by rfl) ?_
          refine lv_lstore_n (lv' := [(1, .long (dig1 st (i + 1) (dig3 wa da gu 24 (dig2 (partU sn ic pa np) 4 20 (dig1 (cntsU wa da gu sn ic ru fa wt tm np nj) 11 1181))))), (6, .int (st i)), (0, .ref z), (3, .ref z6), (4, .int (5 : Int32)), (5, .int (nI i))]) hx hb dX7_digest_170 rfl hl (by decide) rfl (fun ls hl => ?_)
          refine lv_iinc (v := (nI (i + 1))) (lv' := [(5, .int (nI (i + 1))), (1, .long (dig1 st (i + 1) (dig3 wa da gu 24 (dig2 (partU sn ic pa np) 4 20 (dig1 (cntsU wa da gu sn ic ru fa wt tm np nj) 11 1181))))), (6, .int (st i)), (0, .ref z), (3, .ref z6), (4, .int (5 : Int32))]) hx hb dX7_digest_171 hl (k := 5) rfl (by exact nI_1 _) (by decide) rfl (fun ls hl => ?_)
          refine lv_goto (tgt := 148) hx hb dX7_digest_174 (by decide) ?_
          exact ih_148 (i + 1) _ _ _ (show 5 - (i + 1) < 5 - i by omega) ⟨by omega, hP, hD, hS, lv_sub hl [3, 1, 4, 5, 0] rfl⟩
      · have hlt := nge (N := 24) (by first | decide | omega) (by omega) c_89
        refine lv_lload_n hx hb dX7_digest_92 rfl (lv_at hl 1 rfl) ?_
        refine lv_ldc2 (v := (31 : Int64)) hx hb hown (hts (.constantLong RX7 146 (31 : Int64)) (by decide +kernel)) dX7_digest_93 ?_
        refine lv_lmul hx hb dX7_digest_96 ?_
        refine lv_aload_n hx hb dX7_digest_97 rfl (lv_at hl 0 rfl) ?_
        refine va_get (D := D) (ci := 7) (v := .ref z1) (C := RX7) (T := TX7) (N := 12) hx hb hts hi7 hown hKN.1 hP 0 rfl rfl 1 (by decide) (hts (.fieldLink RX7 9 "SnowPumpsModel" "warmth" "[I") (by decide +kernel)) (fun _ h9 => h9) rfl dX7_digest_98 ?_
        refine lv_iload_n hx hb dX7_digest_101 rfl (lv_at hl 2 rfl) ?_
        refine ia hx hb hKN.1 hP 1 0 rfl rfl i (by rfl) (by omega) (by first | decide | assumption | omega) dX7_digest_102 ?_
        refine lv_i2l hx hb dX7_digest_103 rfl ?_
        refine lv_ladd hx hb dX7_digest_104 ?_
        refine lv_ldc2 (v := (31 : Int64)) hx hb hown (hts (.constantLong RX7 146 (31 : Int64)) (by decide +kernel)) dX7_digest_105 ?_
        refine lv_lmul hx hb dX7_digest_108 ?_
        refine lv_aload_n hx hb dX7_digest_109 rfl (lv_at hl 0 rfl) ?_
        refine va_get (D := D) (ci := 7) (v := .ref z2) (C := RX7) (T := TX7) (N := 12) hx hb hts hi7 hown hKN.1 hP 0 rfl rfl 2 (by decide) (hts (.fieldLink RX7 13 "SnowPumpsModel" "damp" "[I") (by decide +kernel)) (fun _ h9 => h9) rfl dX7_digest_110 ?_
        refine lv_iload_n hx hb dX7_digest_113 rfl (lv_at hl 2 rfl) ?_
        refine ia hx hb hKN.1 hP 2 0 rfl rfl i (by rfl) (by omega) (by first | decide | assumption | omega) dX7_digest_114 ?_
        refine lv_i2l hx hb dX7_digest_115 rfl ?_
        refine lv_ladd hx hb dX7_digest_116 ?_
        refine lv_ldc2 (v := (31 : Int64)) hx hb hown (hts (.constantLong RX7 146 (31 : Int64)) (by decide +kernel)) dX7_digest_117 ?_
        refine lv_lmul hx hb dX7_digest_120 ?_
        refine lv_aload_n hx hb dX7_digest_121 rfl (lv_at hl 0 rfl) ?_
        refine va_get (D := D) (ci := 7) (v := .ref z3) (C := RX7) (T := TX7) (N := 12) hx hb hts hi7 hown hKN.1 hP 0 rfl rfl 3 (by decide) (hts (.fieldLink RX7 16 "SnowPumpsModel" "gust" "[I") (by decide +kernel)) (fun _ h9 => h9) rfl dX7_digest_122 ?_
        refine lv_iload_n hx hb dX7_digest_125 rfl (lv_at hl 2 rfl) ?_
        refine ia hx hb hKN.1 hP 3 0 rfl rfl i (by rfl) (by omega) (by first | decide | assumption | omega) dX7_digest_126 ?_
        refine lv_i2l hx hb dX7_digest_127 rfl ?_
        refine lv_ladd hx hb dX7_digest_128 ?_
        refine lv_eql (y := dig3 wa da gu (i + 1) (dig2 (partU sn ic pa np) 4 20 (dig1 (cntsU wa da gu sn ic ru fa wt tm np nj) 11 1181))) (by rfl) ?_
        refine lv_lstore_n (lv' := [(1, .long (dig3 wa da gu (i + 1) (dig2 (partU sn ic pa np) 4 20 (dig1 (cntsU wa da gu sn ic ru fa wt tm np nj) 11 1181)))), (0, .ref z), (3, .int (nI i))]) hx hb dX7_digest_129 rfl hl (by decide) rfl (fun ls hl => ?_)
        refine lv_iinc (v := (nI (i + 1))) (lv' := [(3, .int (nI (i + 1))), (1, .long (dig3 wa da gu (i + 1) (dig2 (partU sn ic pa np) 4 20 (dig1 (cntsU wa da gu sn ic ru fa wt tm np nj) 11 1181)))), (0, .ref z)]) hx hb dX7_digest_130 hl (k := 2) rfl (by exact nI_1 _) (by decide) rfl (fun ls hl => ?_)
        refine lv_goto (tgt := 86) hx hb dX7_digest_133 (by decide) ?_
        exact ih_86 (i + 1) _ _ _ (show 24 - (i + 1) < 24 - i by omega) ⟨by omega, hP, hD, hS, lv_sub hl [2, 1, 0] rfl⟩
    · have hlt := nge (N := 20) (by first | decide | omega) (by omega) c_45
      refine lv_iconst (v := (0 : Int32)) hx hb dX7_digest_48 (by decide) ?_
      refine lv_istore (lv' := [(4, .int (0 : Int32)), (0, .ref z), (1, .long (dig2 (partU sn ic pa np) 4 i (dig1 (cntsU wa da gu sn ic ru fa wt tm np nj) 11 1181))), (3, .int (nI i))]) hx hb dX7_digest_49 hl (by decide) rfl (fun ls hl => ?_)
      refine LPP (σ := Nat) (I := fun y H locs ls => y ≤ 4 ∧ va_P D vwCl [(z, .inr (7, [.int (0 : Int32), .ref z1, .ref z2, .ref z3, .int (nI np), .ref z4, .ref z5, .ref z6, .int (nI nj), .ref z7, .ref q, .ref r])), (z1, .inl (Y 0, 24, .inl wa)), (z2, .inl (Y 0, 24, .inl da)), (z3, .inl (Y 0, 24, .inl gu)), (z4, .inl (Y 0, 5, .inl pa)), (z5, .inl (Y 0, 5, .inl fl)), (z6, .inl (Y 0, 5, .inl st)), (z7, .inl (Y 0, 150, .inl (bkU jr ln pt fa ho))), (q, .inr (6, [.int (nI tm), .int wt, .ref q1, .ref q2, .ref q3])), (q1, .inl (Y 0, 20, .inl sn)), (q2, .inl (Y 0, 20, .inl ic)), (q3, .inl (Y 0, 5, .inl ru))] H ∧ va_D A [(z, .inr (7, [.int (0 : Int32), .ref z1, .ref z2, .ref z3, .int (nI np), .ref z4, .ref z5, .ref z6, .int (nI nj), .ref z7, .ref q, .ref r])), (z1, .inl (Y 0, 24, .inl wa)), (z2, .inl (Y 0, 24, .inl da)), (z3, .inl (Y 0, 24, .inl gu)), (z4, .inl (Y 0, 5, .inl pa)), (z5, .inl (Y 0, 5, .inl fl)), (z6, .inl (Y 0, 5, .inl st)), (z7, .inl (Y 0, 150, .inl (bkU jr ln pt fa ho))), (q, .inr (6, [.int (nI tm), .int wt, .ref q1, .ref q2, .ref q3])), (q1, .inl (Y 0, 20, .inl sn)), (q2, .inl (Y 0, 20, .inl ic)), (q3, .inl (Y 0, 5, .inl ru))] ∧ va_S A s.heap H locs ∧ lv_has ls 7 [(0, .ref z), (1, .long (dig1 (partU sn ic pa np i) y (dig2 (partU sn ic pa np) 4 i (dig1 (cntsU wa da gu sn ic ru fa wt tm np nj) 11 1181)))), (3, .int (nI i)), (4, .int (nI y))]) (μ := fun y => 4 - y) (cl := fun y => 11) (sl := fun y => 11 * 11) (fun y ih_51 H locs ls hI => ?_) 0 _ _ _ ⟨by omega, hP, hD, hS, lv_sub hl [1, 2, 3, 0] rfl⟩
      obtain ⟨hq, hP, hD, hS, hl⟩ := hI
      refine lv_iload hx hb dX7_digest_51 (lv_at hl 3 rfl) ?_
      refine lv_iconst (v := (3 : Int32)) hx hb dX7_digest_53 (by decide) ?_
      refine lv_icmp_gt (tgt := 78) hx hb dX7_digest_54 (by decide) (fun c_54 => ?_) (fun c_54 => ?_)
      · have hlt := ngt (N := 3) (by omega) (by omega) c_54
        obtain rfl : 4 = y := by omega
        refine lv_iinc (v := (nI (i + 1))) (lv' := [(3, .int (nI (i + 1))), (0, .ref z), (1, .long (dig1 (partU sn ic pa np i) 4 (dig2 (partU sn ic pa np) 4 i (dig1 (cntsU wa da gu sn ic ru fa wt tm np nj) 11 1181)))), (4, .int (nI 4))]) hx hb dX7_digest_78 hl (k := 2) rfl (by exact nI_1 _) (by decide) rfl (fun ls hl => ?_)
        refine lv_goto (tgt := 42) hx hb dX7_digest_81 (by decide) ?_
        exact ih_42 (i + 1) _ _ _ (show 20 - (i + 1) < 20 - i by omega) ⟨by omega, hP, hD, hS, lv_sub hl [1, 2, 0] rfl⟩
      · have hlt := nngt (N := 3) (by omega) (by omega) c_54
        refine lv_lload_n hx hb dX7_digest_57 rfl (lv_at hl 1 rfl) ?_
        refine lv_ldc2 (v := (31 : Int64)) hx hb hown (hts (.constantLong RX7 146 (31 : Int64)) (by decide +kernel)) dX7_digest_58 ?_
        refine lv_lmul hx hb dX7_digest_61 ?_
        refine lv_aload_n hx hb dX7_digest_62 rfl (lv_at hl 0 rfl) ?_
        refine lv_iload_n hx hb dX7_digest_63 rfl (lv_at hl 2 rfl) ?_
        refine lv_iload hx hb dX7_digest_64 (lv_at hl 3 rfl) ?_
        refine cVi (As := [.int (nI i), .int (nI y)]) (rest := [.long ((dig1 (partU sn ic pa np i) y (dig2 (partU sn ic pa np) 4 i (dig1 (cntsU wa da gu sn ic ru fa wt tm np nj) 11 1181))) * (31 : Int64))]) (ws' := [(z, .inr (7, [.int (0 : Int32), .ref z1, .ref z2, .ref z3, .int (nI np), .ref z4, .ref z5, .ref z6, .int (nI nj), .ref z7, .ref q, .ref r])), (z1, .inl (Y 0, 24, .inl wa)), (z2, .inl (Y 0, 24, .inl da)), (z3, .inl (Y 0, 24, .inl gu)), (z4, .inl (Y 0, 5, .inl pa)), (z5, .inl (Y 0, 5, .inl fl)), (z6, .inl (Y 0, 5, .inl st)), (z7, .inl (Y 0, 150, .inl (bkU jr ln pt fa ho))), (q, .inr (6, [.int (nI tm), .int wt, .ref q1, .ref q2, .ref q3])), (q1, .inl (Y 0, 20, .inl sn)), (q2, .inl (Y 0, 20, .inl ic)), (q3, .inl (Y 0, 5, .inl ru))]) ⟨hx, hb, hml, hown, hts⟩ (kX7_partTold l D Y _ z z1 z2 z3 z4 z5 z6 z7 q q1 q2 q3 r pa sn ic wt (0 : Int32) tm np nj i y (by first | assumption | omega) (by first | assumption | omega) (by first | assumption | omega)) (cwV 2 hts gX7_digest_X7_partTold rfl rfl rfl (by decide +kernel) ⟨Nat.le_of_ble_eq_true rfl, Nat.le_of_ble_eq_true rfl⟩) hKN hP hD hS hA [0, 4, 8, 9, 10] [1, 2, 3, 5, 6, 7, 11] [7, 0, 1, 2, 8, 3, 4, 5, 9, 10, 11, 6] rfl (by decide) rfl rfl 0 7 rfl rfl rfl rfl hl.1 (Nat.le_of_ble_eq_true rfl) dX7_digest_66 ⟨Nat.le_of_ble_eq_true rfl, Nat.le_of_ble_eq_true rfl⟩ (fun H locs hP hD hS => ?_)
        refine lv_i2l hx hb dX7_digest_69 rfl ?_
        refine lv_ladd hx hb dX7_digest_70 ?_
        refine lv_eql (y := dig1 (partU sn ic pa np i) (y + 1) (dig2 (partU sn ic pa np) 4 i (dig1 (cntsU wa da gu sn ic ru fa wt tm np nj) 11 1181))) (by rfl) ?_
        refine lv_lstore_n (lv' := [(1, .long (dig1 (partU sn ic pa np i) (y + 1) (dig2 (partU sn ic pa np) 4 i (dig1 (cntsU wa da gu sn ic ru fa wt tm np nj) 11 1181)))), (0, .ref z), (3, .int (nI i)), (4, .int (nI y))]) hx hb dX7_digest_71 rfl hl (by decide) rfl (fun ls hl => ?_)
        refine lv_iinc (v := (nI (y + 1))) (lv' := [(4, .int (nI (y + 1))), (1, .long (dig1 (partU sn ic pa np i) (y + 1) (dig2 (partU sn ic pa np) 4 i (dig1 (cntsU wa da gu sn ic ru fa wt tm np nj) 11 1181)))), (0, .ref z), (3, .int (nI i))]) hx hb dX7_digest_72 hl (k := 3) rfl (by exact nI_1 _) (by decide) rfl (fun ls hl => ?_)
        refine lv_goto (tgt := 51) hx hb dX7_digest_75 (by decide) ?_
        exact ih_51 (y + 1) _ _ _ (show 4 - (y + 1) < 4 - y by omega) ⟨by omega, hP, hD, hS, lv_sub hl [2, 1, 3, 0] rfl⟩
  · have hlt := nngt (N := 10) (by omega) (by omega) c_14
    refine lv_lload_n hx hb dX7_digest_17 rfl (lv_at hl 1 rfl) ?_
    refine lv_ldc2 (v := (31 : Int64)) hx hb hown (hts (.constantLong RX7 146 (31 : Int64)) (by decide +kernel)) dX7_digest_18 ?_
    refine lv_lmul hx hb dX7_digest_21 ?_
    refine lv_aload_n hx hb dX7_digest_22 rfl (lv_at hl 0 rfl) ?_
    refine lv_aload_n hx hb dX7_digest_23 rfl (lv_at hl 0 rfl) ?_
    refine va_get (D := D) (ci := 7) (v := .ref q) (C := RX7) (T := TX7) (N := 12) hx hb hts hi7 hown hKN.1 hP 0 rfl rfl 10 (by decide) (hts (.fieldLink RX7 34 "SnowPumpsModel" "s" "LSnowPumpsModel$State;") (by decide +kernel)) (fun _ h9 => h9) rfl dX7_digest_24 ?_
    refine lv_iload_n hx hb dX7_digest_27 rfl (lv_at hl 2 rfl) ?_
    refine cVi (As := [.ref q, .int (nI i)]) (rest := [.long ((dig1 (cntsU wa da gu sn ic ru fa wt tm np nj) i 1181) * (31 : Int64))]) (ws' := [(z, .inr (7, [.int (0 : Int32), .ref z1, .ref z2, .ref z3, .int (nI np), .ref z4, .ref z5, .ref z6, .int (nI nj), .ref z7, .ref q, .ref r])), (z1, .inl (Y 0, 24, .inl wa)), (z2, .inl (Y 0, 24, .inl da)), (z3, .inl (Y 0, 24, .inl gu)), (z4, .inl (Y 0, 5, .inl pa)), (z5, .inl (Y 0, 5, .inl fl)), (z6, .inl (Y 0, 5, .inl st)), (z7, .inl (Y 0, 150, .inl (bkU jr ln pt fa ho))), (q, .inr (6, [.int (nI tm), .int wt, .ref q1, .ref q2, .ref q3])), (q1, .inl (Y 0, 20, .inl sn)), (q2, .inl (Y 0, 20, .inl ic)), (q3, .inl (Y 0, 5, .inl ru))]) ⟨hx, hb, hml, hown, hts⟩ (kX7_counted l D Y _ z z1 z2 z3 z4 z5 z6 z7 q r q q1 q2 q3 wa da gu sn ic ru jr ln pt fa ho wt (0 : Int32) tm np nj i (by first | assumption | omega) (by first | assumption | omega) (by first | assumption | omega) (by first | assumption | omega)) (cwV 2 hts gX7_digest_X7_counted rfl rfl rfl (by decide +kernel) ⟨Nat.le_of_ble_eq_true rfl, Nat.le_of_ble_eq_true rfl⟩) hKN hP hD hS hA [0, 1, 2, 3, 7, 8, 9, 10, 11] [4, 5, 6] [3, 4, 5, 6, 0, 1, 2, 7, 8, 9, 10, 11] rfl (by decide) rfl rfl 0 7 rfl rfl rfl rfl hl.1 (Nat.le_of_ble_eq_true rfl) dX7_digest_28 ⟨(show i + 1 ≤ 11 by omega), (show 11 * i + 11 ≤ 121 by omega)⟩ (fun H locs hP hD hS => ?_)
    refine lv_i2l hx hb dX7_digest_31 rfl ?_
    refine lv_ladd hx hb dX7_digest_32 ?_
    refine lv_eql (y := dig1 (cntsU wa da gu sn ic ru fa wt tm np nj) (i + 1) 1181) (by rfl) ?_
    refine lv_lstore_n (lv' := [(1, .long (dig1 (cntsU wa da gu sn ic ru fa wt tm np nj) (i + 1) 1181)), (0, .ref z), (3, .int (nI i))]) hx hb dX7_digest_33 rfl hl (by decide) rfl (fun ls hl => ?_)
    refine lv_iinc (v := (nI (i + 1))) (lv' := [(3, .int (nI (i + 1))), (1, .long (dig1 (cntsU wa da gu sn ic ru fa wt tm np nj) (i + 1) 1181)), (0, .ref z)]) hx hb dX7_digest_34 hl (k := 2) rfl (by exact nI_1 _) (by decide) rfl (fun ls hl => ?_)
    refine lv_goto (tgt := 11) hx hb dX7_digest_37 (by decide) ?_
    refine W.widen (k := i + 1) (n := 11 * (i + 1)) (by omega) (by omega) ?_
    exact ih_11 (i + 1) _ _ _ (show 11 - (i + 1) < 11 - i by omega) ⟨by omega, hP, hD, hS, lv_sub hl [2, 1, 0] rfl⟩
