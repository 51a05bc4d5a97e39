abbrev rm_kX0_spreadSnow : Room := { frames := 0, cells := 0, slots := 0, locals := 0 }
set_option maxHeartbeats 4000000 in
set_option maxRecDepth 100000 in
theorem kX0_spreadSnow (l : Launch) (D : va_G) (Y : Nat → ClassId) (sz : Nat) (h : Nat) (h1 : Nat) (h2 : Nat) (h3 : Nat) (w : Nat) (pu : Nat) (sn : fN) (ic : fN) (wt : Int32) (tm : Int32) (a : Nat) (b : Nat) (hab : a ≤ b) (hb20 : b < 20) : MI l yX0_spreadSnow wsX0_spreadSnow rm_kX0_spreadSnow D Y [.ref h, .int (nI a), .int (nI b)] sz [(h, .inr (0, [.ref w, .ref pu, .ref h1, .ref h2, .ref h3, .int wt, .int tm])), (h1, .inl (Y 0, 20, .inl sn)), (h2, .inl (Y 0, 20, .inl ic))] (sumR sn a (b - a + 1)) [(h, .inr (0, [.ref w, .ref pu, .ref h1, .ref h2, .ref h3, .int wt, .int tm])), (h1, .inl (Y 0, 20, .inl (grU sn a (b - a + 1) (b - a + 1)))), (h2, .inl (Y 0, 20, .inl (icZ ic a (b - a + 1))))] 0 0 := by
  refine pcW_start (cc := cX0_spreadSnow) (maxL := 8) (ret := (some .int)) (Qc := fun A => va_Qi (fun (r : Int32) (_ : Unit) => r = (sumR sn a (b - a + 1))) (qW D A [(h, .inr (0, [.ref w, .ref pu, .ref h1, .ref h2, .ref h3, .int wt, .int tm])), (h1, .inl (Y 0, 20, .inl (grU sn a (b - a + 1) (b - a + 1)))), (h2, .inl (Y 0, 20, .inl (icZ ic a (b - a + 1))))]) A) (by decide) rfl (Nat.le_of_ble_eq_true rfl) ?_
  intro p e s m below meth c A ls hE hKN hA hP hD hl
  obtain ⟨hx, hb, hr, hml, hown, hts, hlk, hin⟩ := hE
  have hown : s.vm.findClass RX0 = some m.cls := hown
  have hS : va_S A s.heap s.heap [] := va_S.rf
  have hi0 : ∀ w ∈ wsX00, w ∈ wsX0_spreadSnow := by decide +kernel
  have hl : lv_has ls 8 [(0, .ref h), (1, .int (nI a)), (2, .int (nI b))] := hl
  refine lv_iconst (v := (0 : Int32)) hx hb dX0_spreadSnow_0 (by decide) ?_
  refine lv_istore_n (lv' := [(3, .int (0 : Int32)), (0, .ref h), (1, .int (nI a)), (2, .int (nI b))]) hx hb dX0_spreadSnow_1 rfl hl (by decide) rfl (fun ls hl => ?_)
  refine lv_iload_n hx hb dX0_spreadSnow_2 rfl (lv_at hl 2 rfl) ?_
  refine lv_istore (lv' := [(4, .int (nI a)), (3, .int (0 : Int32)), (0, .ref h), (1, .int (nI a)), (2, .int (nI b))]) hx hb dX0_spreadSnow_3 hl (by decide) rfl (fun ls hl => ?_)
  refine LPP (σ := Nat) (I := fun i H locs ls => i ≤ b - a + 1 ∧ va_P D vwCl [(h, .inr (0, [.ref w, .ref pu, .ref h1, .ref h2, .ref h3, .int wt, .int tm])), (h1, .inl (Y 0, 20, .inl sn)), (h2, .inl (Y 0, 20, .inl ic))] H ∧ va_D A [(h, .inr (0, [.ref w, .ref pu, .ref h1, .ref h2, .ref h3, .int wt, .int tm])), (h1, .inl (Y 0, 20, .inl sn)), (h2, .inl (Y 0, 20, .inl ic))] ∧ va_S A s.heap H locs ∧ lv_has ls 8 [(0, .ref h), (1, .int (nI a)), (2, .int (nI b)), (3, .int (sumR sn a i)), (4, .int (nI (a + i)))]) (μ := fun i => b - a + 1 - i) (cl := fun i => 0) (sl := fun i => 0) (fun i ih_5 H locs ls hI => ?_) 0 _ _ _ ⟨by omega, hP, hD, hS, lv_sub hl [2, 3, 4, 1, 0] rfl⟩
  obtain ⟨hi, hP, hD, hS, hl⟩ := hI
  refine lv_iload hx hb dX0_spreadSnow_5 (lv_at hl 4 rfl) ?_
  refine lv_iload_n hx hb dX0_spreadSnow_7 rfl (lv_at hl 2 rfl) ?_
  refine lv_icmp_gt (tgt := 27) hx hb dX0_spreadSnow_8 (by decide) (fun c_8 => ?_) (fun c_8 => ?_)
  · have hlt := ngt (N := b) (by omega) (by omega) c_8
    obtain rfl : b - a + 1 = i := by omega
    refine lv_iload_n hx hb dX0_spreadSnow_27 rfl (lv_at hl 2 rfl) ?_
    refine lv_iload_n hx hb dX0_spreadSnow_28 rfl (lv_at hl 1 rfl) ?_
    refine lv_isub hx hb dX0_spreadSnow_29 ?_
    refine lv_eqi (y := nI (b - a)) (by exact pk_sub hab) ?_
    refine lv_iconst (v := (1 : Int32)) hx hb dX0_spreadSnow_30 (by decide) ?_
    refine lv_iadd hx hb dX0_spreadSnow_31 ?_
    refine lv_eqi (y := nI (b - a + 1)) (by exact nI_1 _) ?_
    refine lv_istore (lv' := [(4, .int (nI (b - a + 1))), (0, .ref h), (1, .int (nI a)), (2, .int (nI b)), (3, .int (sumR sn a (b - a + 1)))]) hx hb dX0_spreadSnow_32 hl (by decide) rfl (fun ls hl => ?_)
    refine lv_iload hx hb dX0_spreadSnow_34 (lv_at hl 0 rfl) ?_
    refine lv_iconst (v := (1 : Int32)) hx hb dX0_spreadSnow_36 (by decide) ?_
    refine lv_icmp_ge (tgt := 42) hx hb dX0_spreadSnow_37 (by decide) (fun c_37 => ?_) (fun c_37 => by exfalso; exact c_37 (nI_le (a := 1) (by omega) (by omega)))
    refine lv_iload_n hx hb dX0_spreadSnow_42 rfl (lv_at hl 4 rfl) ?_
    refine lv_iload hx hb dX0_spreadSnow_43 (lv_at hl 0 rfl) ?_
    refine lv_idiv hx hb dX0_spreadSnow_45 (by exact nI_ne0 (by omega) (by omega)) ?_
    refine lv_eqi (y := quoU sn a (b - a + 1)) (by rfl) ?_
    refine lv_istore (lv' := [(5, .int (quoU sn a (b - a + 1))), (4, .int (nI (b - a + 1))), (0, .ref h), (1, .int (nI a)), (2, .int (nI b)), (3, .int (sumR sn a (b - a + 1)))]) hx hb dX0_spreadSnow_46 hl (by decide) rfl (fun ls hl => ?_)
    refine lv_iload_n hx hb dX0_spreadSnow_48 rfl (lv_at hl 5 rfl) ?_
    refine lv_iload hx hb dX0_spreadSnow_49 (lv_at hl 1 rfl) ?_
    refine lv_irem hx hb dX0_spreadSnow_51 (by exact nI_ne0 (by omega) (by omega)) ?_
    refine lv_eqi (y := remU sn a (b - a + 1)) (by rfl) ?_
    refine lv_istore (lv' := [(6, .int (remU sn a (b - a + 1))), (5, .int (quoU sn a (b - a + 1))), (4, .int (nI (b - a + 1))), (0, .ref h), (1, .int (nI a)), (2, .int (nI b)), (3, .int (sumR sn a (b - a + 1)))]) hx hb dX0_spreadSnow_52 hl (by decide) rfl (fun ls hl => ?_)
    refine lv_iload_n hx hb dX0_spreadSnow_54 rfl (lv_at hl 4 rfl) ?_
    refine lv_istore (lv' := [(7, .int (nI a)), (6, .int (remU sn a (b - a + 1))), (5, .int (quoU sn a (b - a + 1))), (4, .int (nI (b - a + 1))), (0, .ref h), (1, .int (nI a)), (2, .int (nI b)), (3, .int (sumR sn a (b - a + 1)))]) hx hb dX0_spreadSnow_55 hl (by decide) rfl (fun ls hl => ?_)
    have ec_1 : sn = (grU sn a (b - a + 1) 0) := by exact (grU_0 _ _ _).symm
    have hP : va_P D vwCl [(h, .inr (0, [.ref w, .ref pu, .ref h1, .ref h2, .ref h3, .int wt, .int tm])), (h1, .inl (Y 0, 20, .inl (grU sn a (b - a + 1) 0))), (h2, .inl (Y 0, 20, .inl ic))] _ := (congrArg (fun zz9 => va_P D vwCl [(h, .inr (0, [.ref w, .ref pu, .ref h1, .ref h2, .ref h3, .int wt, .int tm])), (h1, .inl (Y 0, 20, .inl zz9)), (h2, .inl (Y 0, 20, .inl ic))] _) ec_1).mp hP
    have hD : va_D A [(h, .inr (0, [.ref w, .ref pu, .ref h1, .ref h2, .ref h3, .int wt, .int tm])), (h1, .inl (Y 0, 20, .inl (grU sn a (b - a + 1) 0))), (h2, .inl (Y 0, 20, .inl ic))] := (congrArg (fun zz9 => va_D A [(h, .inr (0, [.ref w, .ref pu, .ref h1, .ref h2, .ref h3, .int wt, .int tm])), (h1, .inl (Y 0, 20, .inl zz9)), (h2, .inl (Y 0, 20, .inl ic))]) ec_1).mp hD
    have ec_2 : ic = (icZ ic a 0) := by exact (icZ_0 _ _).symm
    have hP : va_P D vwCl [(h, .inr (0, [.ref w, .ref pu, .ref h1, .ref h2, .ref h3, .int wt, .int tm])), (h1, .inl (Y 0, 20, .inl (grU sn a (b - a + 1) 0))), (h2, .inl (Y 0, 20, .inl (icZ ic a 0)))] _ := (congrArg (fun zz9 => va_P D vwCl [(h, .inr (0, [.ref w, .ref pu, .ref h1, .ref h2, .ref h3, .int wt, .int tm])), (h1, .inl (Y 0, 20, .inl (grU sn a (b - a + 1) 0))), (h2, .inl (Y 0, 20, .inl zz9))] _) ec_2).mp hP
    have hD : va_D A [(h, .inr (0, [.ref w, .ref pu, .ref h1, .ref h2, .ref h3, .int wt, .int tm])), (h1, .inl (Y 0, 20, .inl (grU sn a (b - a + 1) 0))), (h2, .inl (Y 0, 20, .inl (icZ ic a 0)))] := (congrArg (fun zz9 => va_D A [(h, .inr (0, [.ref w, .ref pu, .ref h1, .ref h2, .ref h3, .int wt, .int tm])), (h1, .inl (Y 0, 20, .inl (grU sn a (b - a + 1) 0))), (h2, .inl (Y 0, 20, .inl zz9))]) ec_2).mp hD
    refine LPP (σ := Nat) (I := fun i H locs ls => i ≤ b - a + 1 ∧ va_P D vwCl [(h, .inr (0, [.ref w, .ref pu, .ref h1, .ref h2, .ref h3, .int wt, .int tm])), (h1, .inl (Y 0, 20, .inl (grU sn a (b - a + 1) i))), (h2, .inl (Y 0, 20, .inl (icZ ic a i)))] H ∧ va_D A [(h, .inr (0, [.ref w, .ref pu, .ref h1, .ref h2, .ref h3, .int wt, .int tm])), (h1, .inl (Y 0, 20, .inl (grU sn a (b - a + 1) i))), (h2, .inl (Y 0, 20, .inl (icZ ic a i)))] ∧ va_S A s.heap H locs ∧ lv_has ls 8 [(0, .ref h), (1, .int (nI a)), (2, .int (nI b)), (3, .int (sumR sn a (b - a + 1))), (4, .int (nI (b - a + 1))), (5, .int (quoU sn a (b - a + 1))), (6, .int (remU sn a (b - a + 1))), (7, .int (nI (a + i)))]) (μ := fun i => b - a + 1 - i) (cl := fun i => 0) (sl := fun i => 0) (fun i ih_57 H locs ls hI => ?_) 0 _ _ _ ⟨by omega, hP, hD, hS, lv_sub hl [4, 5, 6, 7, 3, 2, 1, 0] rfl⟩
    obtain ⟨hi, hP, hD, hS, hl⟩ := hI
    refine lv_iload hx hb dX0_spreadSnow_57 (lv_at hl 7 rfl) ?_
    refine lv_iload_n hx hb dX0_spreadSnow_59 rfl (lv_at hl 2 rfl) ?_
    refine lv_icmp_gt (tgt := 102) hx hb dX0_spreadSnow_60 (by decide) (fun c_60 => ?_) (fun c_60 => ?_)
    · have hlt := ngt (N := b) (by omega) (by omega) c_60
      obtain rfl : b - a + 1 = i := by omega
      refine lv_iload_n hx hb dX0_spreadSnow_102 rfl (lv_at hl 3 rfl) ?_
      exact eI hx hb hr hlk hP hD hS (by rfl) (by rfl) (by exact Nat.le_of_ble_eq_true rfl) (by exact Nat.le_of_ble_eq_true rfl) dX0_spreadSnow_103
    · have hlt := nngt (N := b) (by omega) (by omega) c_60
      refine lv_aload_n hx hb dX0_spreadSnow_63 rfl (lv_at hl 0 rfl) ?_
      refine va_get (D := D) (ci := 0) (v := .ref h1) (C := RX0) (T := TX0) (N := 7) hx hb hts hi0 hown hKN.1 hP 0 rfl rfl 2 (by decide) (hts (.fieldLink RX0 9 "SnowPumps$Hill" "snow" "[I") (by decide +kernel)) (fun _ h9 => h9) rfl dX0_spreadSnow_64 ?_
      refine lv_iload hx hb dX0_spreadSnow_67 (lv_at hl 7 rfl) ?_
      refine lv_iload hx hb dX0_spreadSnow_69 (lv_at hl 7 rfl) ?_
      refine lv_iload_n hx hb dX0_spreadSnow_71 rfl (lv_at hl 1 rfl) ?_
      refine lv_isub hx hb dX0_spreadSnow_72 ?_
      refine lv_eqi (y := nI i) (by rw [pk_sub (by omega)]; congr 1; omega) ?_
      refine lv_iload hx hb dX0_spreadSnow_73 (lv_at hl 6 rfl) ?_
      refine JT (jp := 87) (r' := [.int (nI (a + i)), .ref h1]) (E := cellU sn a (b - a + 1) i) (fun K_3 => ?_) ?_
      · refine lv_icmp_ge (tgt := 85) hx hb dX0_spreadSnow_75 (by decide) (fun c_75 => ?_) (fun c_75 => ?_)
        · refine lv_iload hx hb dX0_spreadSnow_85 (lv_at hl 5 rfl) ?_
          exact K_3 _ (by first | exact (if_neg (Int32.not_lt.mpr c_75)).symm | exact (if_pos (Int32.not_le.mp c_75)).symm)
        · refine lv_iload hx hb dX0_spreadSnow_78 (lv_at hl 5 rfl) ?_
          refine lv_iconst (v := (1 : Int32)) hx hb dX0_spreadSnow_80 (by decide) ?_
          refine lv_iadd hx hb dX0_spreadSnow_81 ?_
          refine lv_goto (tgt := 87) hx hb dX0_spreadSnow_82 (by decide) ?_
          exact K_3 _ (by first | exact (if_neg (Int32.not_lt.mpr c_75)).symm | exact (if_pos (Int32.not_le.mp c_75)).symm)
      refine is hx hb hKN.1 hP hD hS 1 0 rfl rfl (a + i) (by rfl) (by omega) (by first | decide | assumption | omega) dX0_spreadSnow_87 (fun H locs hP hD hS => ?_)
      have hP : va_P D vwCl [(h, .inr (0, [.ref w, .ref pu, .ref h1, .ref h2, .ref h3, .int wt, .int tm])), (h1, .inl (Y 0, 20, .inl (upd (grU sn a (b - a + 1) i) (a + i) (cellU sn a (b - a + 1) i)))), (h2, .inl (Y 0, 20, .inl (icZ ic a i)))] _ := hP
      have hD : va_D A [(h, .inr (0, [.ref w, .ref pu, .ref h1, .ref h2, .ref h3, .int wt, .int tm])), (h1, .inl (Y 0, 20, .inl (upd (grU sn a (b - a + 1) i) (a + i) (cellU sn a (b - a + 1) i)))), (h2, .inl (Y 0, 20, .inl (icZ ic a i)))] := hD
      have ec_4 : (upd (grU sn a (b - a + 1) i) (a + i) (cellU sn a (b - a + 1) i)) = (grU sn a (b - a + 1) (i + 1)) := by exact grU_1 _ _ _ _
      have hP : va_P D vwCl [(h, .inr (0, [.ref w, .ref pu, .ref h1, .ref h2, .ref h3, .int wt, .int tm])), (h1, .inl (Y 0, 20, .inl (grU sn a (b - a + 1) (i + 1)))), (h2, .inl (Y 0, 20, .inl (icZ ic a i)))] _ := (congrArg (fun zz9 => va_P D vwCl [(h, .inr (0, [.ref w, .ref pu, .ref h1, .ref h2, .ref h3, .int wt, .int tm])), (h1, .inl (Y 0, 20, .inl zz9)), (h2, .inl (Y 0, 20, .inl (icZ ic a i)))] _) ec_4).mp hP
      have hD : va_D A [(h, .inr (0, [.ref w, .ref pu, .ref h1, .ref h2, .ref h3, .int wt, .int tm])), (h1, .inl (Y 0, 20, .inl (grU sn a (b - a + 1) (i + 1)))), (h2, .inl (Y 0, 20, .inl (icZ ic a i)))] := (congrArg (fun zz9 => va_D A [(h, .inr (0, [.ref w, .ref pu, .ref h1, .ref h2, .ref h3, .int wt, .int tm])), (h1, .inl (Y 0, 20, .inl zz9)), (h2, .inl (Y 0, 20, .inl (icZ ic a i)))]) ec_4).mp hD
      refine lv_aload_n hx hb dX0_spreadSnow_88 rfl (lv_at hl 0 rfl) ?_
      refine va_get (D := D) (ci := 0) (v := .ref h2) (C := RX0) (T := TX0) (N := 7) hx hb hts hi0 hown hKN.1 hP 0 rfl rfl 3 (by decide) (hts (.fieldLink RX0 15 "SnowPumps$Hill" "ice" "[I") (by decide +kernel)) (fun _ h9 => h9) rfl dX0_spreadSnow_89 ?_
      refine lv_iload hx hb dX0_spreadSnow_92 (lv_at hl 7 rfl) ?_
      refine lv_iconst (v := (0 : Int32)) hx hb dX0_spreadSnow_94 (by decide) ?_
      refine is hx hb hKN.1 hP hD hS 2 0 rfl rfl (a + i) (by rfl) (by omega) (by first | decide | assumption | omega) dX0_spreadSnow_95 (fun H locs hP hD hS => ?_)
      have hP : va_P D vwCl [(h, .inr (0, [.ref w, .ref pu, .ref h1, .ref h2, .ref h3, .int wt, .int tm])), (h1, .inl (Y 0, 20, .inl (grU sn a (b - a + 1) (i + 1)))), (h2, .inl (Y 0, 20, .inl (upd (icZ ic a i) (a + i) (0 : Int32))))] _ := hP
      have hD : va_D A [(h, .inr (0, [.ref w, .ref pu, .ref h1, .ref h2, .ref h3, .int wt, .int tm])), (h1, .inl (Y 0, 20, .inl (grU sn a (b - a + 1) (i + 1)))), (h2, .inl (Y 0, 20, .inl (upd (icZ ic a i) (a + i) (0 : Int32))))] := hD
      have ec_5 : (upd (icZ ic a i) (a + i) (0 : Int32)) = (icZ ic a (i + 1)) := by exact icZ_1 _ _ _
      have hP : va_P D vwCl [(h, .inr (0, [.ref w, .ref pu, .ref h1, .ref h2, .ref h3, .int wt, .int tm])), (h1, .inl (Y 0, 20, .inl (grU sn a (b - a + 1) (i + 1)))), (h2, .inl (Y 0, 20, .inl (icZ ic a (i + 1))))] _ := (congrArg (fun zz9 => va_P D vwCl [(h, .inr (0, [.ref w, .ref pu, .ref h1, .ref h2, .ref h3, .int wt, .int tm])), (h1, .inl (Y 0, 20, .inl (grU sn a (b - a + 1) (i + 1)))), (h2, .inl (Y 0, 20, .inl zz9))] _) ec_5).mp hP
      have hD : va_D A [(h, .inr (0, [.ref w, .ref pu, .ref h1, .ref h2, .ref h3, .int wt, .int tm])), (h1, .inl (Y 0, 20, .inl (grU sn a (b - a + 1) (i + 1)))), (h2, .inl (Y 0, 20, .inl (icZ ic a (i + 1))))] := (congrArg (fun zz9 => va_D A [(h, .inr (0, [.ref w, .ref pu, .ref h1, .ref h2, .ref h3, .int wt, .int tm])), (h1, .inl (Y 0, 20, .inl (grU sn a (b - a + 1) (i + 1)))), (h2, .inl (Y 0, 20, .inl zz9))]) ec_5).mp hD
      refine lv_iinc (v := (nI ((a + i) + 1))) (lv' := [(7, .int (nI ((a + i) + 1))), (0, .ref h), (1, .int (nI a)), (2, .int (nI b)), (3, .int (sumR sn a (b - a + 1))), (4, .int (nI (b - a + 1))), (5, .int (quoU sn a (b - a + 1))), (6, .int (remU sn a (b - a + 1)))]) hx hb dX0_spreadSnow_96 hl (k := 7) rfl (by exact nI_1 _) (by decide) rfl (fun ls hl => ?_)
      refine lv_goto (tgt := 57) hx hb dX0_spreadSnow_99 (by decide) ?_
      exact ih_57 (i + 1) _ _ _ (show b - a + 1 - (i + 1) < b - a + 1 - i by omega) ⟨by omega, hP, hD, hS, lv_sub hl [1, 2, 3, 4, 5, 6, 7, 0] rfl⟩
  · have hlt := nngt (N := b) (by omega) (by omega) c_8
    refine lv_iload_n hx hb dX0_spreadSnow_11 rfl (lv_at hl 3 rfl) ?_
    refine lv_aload_n hx hb dX0_spreadSnow_12 rfl (lv_at hl 0 rfl) ?_
    refine va_get (D := D) (ci := 0) (v := .ref h1) (C := RX0) (T := TX0) (N := 7) hx hb hts hi0 hown hKN.1 hP 0 rfl rfl 2 (by decide) (hts (.fieldLink RX0 9 "SnowPumps$Hill" "snow" "[I") (by decide +kernel)) (fun _ h9 => h9) rfl dX0_spreadSnow_13 ?_
    refine lv_iload hx hb dX0_spreadSnow_16 (lv_at hl 4 rfl) ?_
    refine ia hx hb hKN.1 hP 1 0 rfl rfl (a + i) (by rfl) (by omega) (by first | decide | assumption | omega) dX0_spreadSnow_18 ?_
    refine lv_iadd hx hb dX0_spreadSnow_19 ?_
    refine lv_eqi (y := sumR sn a (i + 1)) (by rfl) ?_
    refine lv_istore_n (lv' := [(3, .int (sumR sn a (i + 1))), (0, .ref h), (1, .int (nI a)), (2, .int (nI b)), (4, .int (nI (a + i)))]) hx hb dX0_spreadSnow_20 rfl hl (by decide) rfl (fun ls hl => ?_)
    refine lv_iinc (v := (nI ((a + i) + 1))) (lv' := [(4, .int (nI ((a + i) + 1))), (3, .int (sumR sn a (i + 1))), (0, .ref h), (1, .int (nI a)), (2, .int (nI b))]) hx hb dX0_spreadSnow_21 hl (k := 4) rfl (by exact nI_1 _) (by decide) rfl (fun ls hl => ?_)
    refine lv_goto (tgt := 5) hx hb dX0_spreadSnow_24 (by decide) ?_
    exact ih_5 (i + 1) _ _ _ (show b - a + 1 - (i + 1) < b - a + 1 - i by omega) ⟨by omega, hP, hD, hS, lv_sub hl [2, 3, 4, 1, 0] rfl⟩
