abbrev rm_kX5_pump : Room := { frames := 1, cells := 0, slots := 0, locals := 23 }
set_option maxHeartbeats 4000000 in
set_option maxRecDepth 100000 in
theorem kX5_pump (l : Launch) (D : va_G) (Y : Nat → ClassId) (sz : Nat) (x : Nat) (w : Nat) (pu : Nat) (p1 : Nat) (p2 : Nat) (h : Nat) (a : Nat) (j : Nat) (u : Nat) (pa : fN) (fl : fN) (np : Nat) (v0 : Int32) (v1 : Int32) (ht : tPump v0 v1 np = 0) (hnp : np ≤ 5) : MI l yX5_pump wsX5_pump rm_kX5_pump D Y [.ref x, .int v0, .int v1] sz [(x, .inr (5, [.ref w, .ref pu, .ref h, .ref a, .ref j, .ref u])), (pu, .inr (3, [.ref p1, .ref p2, .int (nI np)])), (p1, .inl (Y 0, 5, .inl pa)), (p2, .inl (Y 0, 5, .inl fl))] (nI np) [(x, .inr (5, [.ref w, .ref pu, .ref h, .ref a, .ref j, .ref u])), (pu, .inr (3, [.ref p1, .ref p2, .int (nI (np + 1))])), (p1, .inl (Y 0, 5, .inl (upd pa np v0))), (p2, .inl (Y 0, 5, .inl (upd fl np v1)))] 0 0 := by
  refine pcW_start (cc := cX5_pump) (maxL := 3) (ret := (some .int)) (Qc := fun A => va_Qi (fun (r : Int32) (_ : Unit) => r = (nI np)) (qW D A [(x, .inr (5, [.ref w, .ref pu, .ref h, .ref a, .ref j, .ref u])), (pu, .inr (3, [.ref p1, .ref p2, .int (nI (np + 1))])), (p1, .inl (Y 0, 5, .inl (upd pa np v0))), (p2, .inl (Y 0, 5, .inl (upd fl np v1)))]) A) (by decide) rfl (Nat.le_of_ble_eq_true rfl) ?_
  intro p e s m below meth c A ls hE hKN hA hP hD hl
  obtain ⟨hx, hb, hr, hml, hown, hts, hlk, hin⟩ := hE
  have hown : s.vm.findClass RX5 = some m.cls := hown
  have hS : va_S A s.heap s.heap [] := va_S.rf
  have hi3 : ∀ w ∈ wsX30, w ∈ wsX5_pump := by decide +kernel
  have hi5 : ∀ w ∈ wsX50, w ∈ wsX5_pump := by decide +kernel
  have hl : lv_has ls 3 [(0, .ref x), (1, .int v0), (2, .int v1)] := hl
  have n0 := tPump_0 ht
  obtain ⟨n1, n2, n3⟩ := n0
  refine lv_iload_n hx hb dX5_pump_0 rfl (lv_at hl 1 rfl) ?_
  refine lv_iconst (v := (0 : Int32)) hx hb dX5_pump_1 (by decide) ?_
  refine lv_bipush (v := (19 : Int32)) hx hb dX5_pump_2 (by decide) ?_
  refine cSi (As := [.int v0, .int (0 : Int32), .int (19 : Int32)]) (rest := []) (ws' := [(x, .inr (5, [.ref w, .ref pu, .ref h, .ref a, .ref j, .ref u])), (pu, .inr (3, [.ref p1, .ref p2, .int (nI np)])), (p1, .inl (Y 0, 5, .inl pa)), (p2, .inl (Y 0, 5, .inl fl))]) ⟨hx, hb, hml, hown, hts⟩ (kX5_isOutside l D Y _ v0 (0 : Int32) (19 : Int32) ) (va_cwS 3 hts gX5_pump_X5_isOutside rfl rfl rfl (by decide +kernel) ⟨Nat.le_of_ble_eq_true rfl, Nat.le_of_ble_eq_true rfl⟩) hKN hP hD hS hA [] [0, 1, 2, 3] [0, 1, 2, 3] rfl (by decide) rfl rfl rfl rfl hl.1 (Nat.le_of_ble_eq_true rfl) dX5_pump_4 ⟨Nat.le_of_ble_eq_true rfl, Nat.le_of_ble_eq_true rfl⟩ (fun H locs hP hD hS => ?_)
  refine lv_eqi (y := (0 : Int32)) (by exact bi_f n1) ?_
  refine lv_if_eq (tgt := 20) hx hb dX5_pump_7 (by decide) (fun c_7 => ?_) (fun c_7 => by exfalso; revert c_7; decide)
  refine lv_iload_n hx hb dX5_pump_20 rfl (lv_at hl 2 rfl) ?_
  refine lv_iconst (v := (1 : Int32)) hx hb dX5_pump_21 (by decide) ?_
  refine lv_bipush (v := (9 : Int32)) hx hb dX5_pump_22 (by decide) ?_
  refine cSi (As := [.int v1, .int (1 : Int32), .int (9 : Int32)]) (rest := []) (ws' := [(x, .inr (5, [.ref w, .ref pu, .ref h, .ref a, .ref j, .ref u])), (pu, .inr (3, [.ref p1, .ref p2, .int (nI np)])), (p1, .inl (Y 0, 5, .inl pa)), (p2, .inl (Y 0, 5, .inl fl))]) ⟨hx, hb, hml, hown, hts⟩ (kX5_isOutside l D Y _ v1 (1 : Int32) (9 : Int32) ) (va_cwS 3 hts gX5_pump_X5_isOutside rfl rfl rfl (by decide +kernel) ⟨Nat.le_of_ble_eq_true rfl, Nat.le_of_ble_eq_true rfl⟩) hKN hP hD hS hA [] [0, 1, 2, 3] [0, 1, 2, 3] rfl (by decide) rfl rfl rfl rfl hl.1 (Nat.le_of_ble_eq_true rfl) dX5_pump_24 ⟨Nat.le_of_ble_eq_true rfl, Nat.le_of_ble_eq_true rfl⟩ (fun H locs hP hD hS => ?_)
  refine lv_eqi (y := (0 : Int32)) (by exact bi_f n2) ?_
  refine lv_if_eq (tgt := 40) hx hb dX5_pump_27 (by decide) (fun c_27 => ?_) (fun c_27 => by exfalso; revert c_27; decide)
  refine lv_aload_n hx hb dX5_pump_40 rfl (lv_at hl 0 rfl) ?_
  refine va_get (D := D) (ci := 5) (v := .ref pu) (C := RX5) (T := TX5) (N := 6) hx hb hts hi5 hown hKN.1 hP 0 rfl rfl 1 (by decide) (hts (.fieldLink RX5 19 "SnowPumps" "pumps" "LSnowPumps$Pumps;") (by decide +kernel)) (fun _ h9 => h9) rfl dX5_pump_41 ?_
  refine va_get (D := D) (ci := 3) (v := .int (nI np)) (C := RX3) (T := TX3) (N := 3) hx hb hts hi3 hown hKN.1 hP 1 rfl rfl 2 (by decide) (hts (.fieldLink RX5 87 "SnowPumps$Pumps" "count" "I") (by decide +kernel)) (fun _ h9 => h9) rfl dX5_pump_44 ?_
  refine lv_iconst (v := (5 : Int32)) hx hb dX5_pump_47 (by decide) ?_
  refine lv_icmp_lt (tgt := 61) hx hb dX5_pump_48 (by decide) (fun c_48 => ?_) (fun c_48 => by exfalso; exact n3 (nngt (N := np) (i := 5) (by omega) (by omega) c_48))
  refine lv_aload_n hx hb dX5_pump_61 rfl (lv_at hl 0 rfl) ?_
  refine va_get (D := D) (ci := 5) (v := .ref pu) (C := RX5) (T := TX5) (N := 6) hx hb hts hi5 hown hKN.1 hP 0 rfl rfl 1 (by decide) (hts (.fieldLink RX5 19 "SnowPumps" "pumps" "LSnowPumps$Pumps;") (by decide +kernel)) (fun _ h9 => h9) rfl dX5_pump_62 ?_
  refine lv_iload_n hx hb dX5_pump_65 rfl (lv_at hl 1 rfl) ?_
  refine lv_iload_n hx hb dX5_pump_66 rfl (lv_at hl 2 rfl) ?_
  refine cVi (As := [.int v0, .int v1]) (rest := []) (ws' := [(x, .inr (5, [.ref w, .ref pu, .ref h, .ref a, .ref j, .ref u])), (pu, .inr (3, [.ref p1, .ref p2, .int (nI (np + 1))])), (p1, .inl (Y 0, 5, .inl (upd pa np v0))), (p2, .inl (Y 0, 5, .inl (upd fl np v1)))]) ⟨hx, hb, hml, hown, hts⟩ (kX3_setUp l D Y _ pu p1 p2 np pa fl v0 v1 (by first | assumption | omega)) (cwV 2 hts gX5_pump_X3_setUp rfl rfl rfl (by decide +kernel) ⟨Nat.le_of_ble_eq_true rfl, Nat.le_of_ble_eq_true rfl⟩) hKN hP hD hS hA [1, 2, 3] [0] [0, 1, 2, 3] rfl (by decide) rfl rfl 1 3 rfl rfl rfl rfl hl.1 (Nat.le_of_ble_eq_true rfl) dX5_pump_67 ⟨Nat.le_of_ble_eq_true rfl, Nat.le_of_ble_eq_true rfl⟩ (fun H locs hP hD hS => ?_)
  exact eI hx hb hr hlk hP hD hS (by rfl) (by rfl) (by exact Nat.le_of_ble_eq_true rfl) (by exact Nat.le_of_ble_eq_true rfl) dX5_pump_70
abbrev rm_kX5_pump_bad : Room := { frames := 6, cells := 1, slots := 6, locals := 82 }
set_option maxHeartbeats 4000000 in
set_option maxRecDepth 100000 in
theorem kX5_pump_bad (l : Launch) (hl0 : l.stackTraces = false) (D : va_G) (Y : Nat → ClassId) (sz : Nat) (x : Nat) (w : Nat) (pu : Nat) (p1 : Nat) (p2 : Nat) (h : Nat) (a : Nat) (j : Nat) (u : Nat) (pa : fN) (fl : fN) (np : Nat) (v0 : Int32) (v1 : Int32) (ht : ¬ tPump v0 v1 np = 0) (hnp : np ≤ 5) : MX l yX5_pump wsX5_pump rm_kX5_pump_bad D Y [.ref x, .int v0, .int v1] sz [(x, .inr (5, [.ref w, .ref pu, .ref h, .ref a, .ref j, .ref u])), (pu, .inr (3, [.ref p1, .ref p2, .int (nI np)])), (p1, .inl (Y 0, 5, .inl pa)), (p2, .inl (Y 0, 5, .inl fl))] (exn (tPump v0 v1 np) ["java/lang/IndexOutOfBoundsException", "java/lang/IllegalArgumentException", "java/lang/IllegalStateException"]) 1 6 := by
  refine pcX_start (cc := cX5_pump) (maxL := 3) (ret := (some .int)) (Qc := fun A => va_Qi (fun (_ : Int32) (_ : Unit) => False) (fun _ _ => True) A) (XC := fun A => vx_X (fun (_ : Unit) => True) (fun E' _ t => E' = (exn (tPump v0 v1 np) ["java/lang/IndexOutOfBoundsException", "java/lang/IllegalArgumentException", "java/lang/IllegalStateException"]) ∧ va_P D vwCl [(x, .inr (5, [.ref w, .ref pu, .ref h, .ref a, .ref j, .ref u])), (pu, .inr (3, [.ref p1, .ref p2, .int (nI np)])), (p1, .inl (Y 0, 5, .inl pa)), (p2, .inl (Y 0, 5, .inl fl))] t.heap ∧ va_D A [(x, .inr (5, [.ref w, .ref pu, .ref h, .ref a, .ref j, .ref u])), (pu, .inr (3, [.ref p1, .ref p2, .int (nI np)])), (p1, .inl (Y 0, 5, .inl pa)), (p2, .inl (Y 0, 5, .inl fl))]) A) (by decide) rfl (Nat.le_of_ble_eq_true rfl) ?_
  intro p e s m below meth c A ls hE hKN hA hP hD hl hEX hZX htab
  obtain ⟨hx, hb, hr, hml, hown, hts, hlk, hin⟩ := hE
  have hown : s.vm.findClass RX5 = some m.cls := hown
  have hS : va_S A s.heap s.heap [] := va_S.rf
  have hi3 : ∀ w ∈ wsX30, w ∈ wsX5_pump := by decide +kernel
  have hi5 : ∀ w ∈ wsX50, w ∈ wsX5_pump := by decide +kernel
  have hl : lv_has ls 3 [(0, .ref x), (1, .int v0), (2, .int v1)] := hl
  refine lv_iload_n hx hb dX5_pump_0 rfl (lv_at hl 1 rfl) ?_
  refine lv_iconst (v := (0 : Int32)) hx hb dX5_pump_1 (by decide) ?_
  refine lv_bipush (v := (19 : Int32)) hx hb dX5_pump_2 (by decide) ?_
  refine cSi (As := [.int v0, .int (0 : Int32), .int (19 : Int32)]) (rest := []) (ws' := [(x, .inr (5, [.ref w, .ref pu, .ref h, .ref a, .ref j, .ref u])), (pu, .inr (3, [.ref p1, .ref p2, .int (nI np)])), (p1, .inl (Y 0, 5, .inl pa)), (p2, .inl (Y 0, 5, .inl fl))]) ⟨hx, hb, hml, hown, hts⟩ (kX5_isOutside l D Y _ v0 (0 : Int32) (19 : Int32) ) (va_cwS 3 hts gX5_pump_X5_isOutside rfl rfl rfl (by decide +kernel) ⟨Nat.le_of_ble_eq_true rfl, Nat.le_of_ble_eq_true rfl⟩) hKN hP hD hS hA [] [0, 1, 2, 3] [0, 1, 2, 3] rfl (by decide) rfl rfl rfl rfl hl.1 (Nat.le_of_ble_eq_true rfl) dX5_pump_4 ⟨Nat.le_of_ble_eq_true rfl, Nat.le_of_ble_eq_true rfl⟩ (fun H locs hP hD hS => ?_)
  refine lv_if_eq (tgt := 20) hx hb dX5_pump_7 (by decide) (fun c_7 => ?_) (fun c_7 => ?_)
  · have n1 : ¬ (v0 < 0 ∨ 19 < v0) := bi_0 c_7
    refine lv_iload_n hx hb dX5_pump_20 rfl (lv_at hl 2 rfl) ?_
    refine lv_iconst (v := (1 : Int32)) hx hb dX5_pump_21 (by decide) ?_
    refine lv_bipush (v := (9 : Int32)) hx hb dX5_pump_22 (by decide) ?_
    refine cSi (As := [.int v1, .int (1 : Int32), .int (9 : Int32)]) (rest := []) (ws' := [(x, .inr (5, [.ref w, .ref pu, .ref h, .ref a, .ref j, .ref u])), (pu, .inr (3, [.ref p1, .ref p2, .int (nI np)])), (p1, .inl (Y 0, 5, .inl pa)), (p2, .inl (Y 0, 5, .inl fl))]) ⟨hx, hb, hml, hown, hts⟩ (kX5_isOutside l D Y _ v1 (1 : Int32) (9 : Int32) ) (va_cwS 3 hts gX5_pump_X5_isOutside rfl rfl rfl (by decide +kernel) ⟨Nat.le_of_ble_eq_true rfl, Nat.le_of_ble_eq_true rfl⟩) hKN hP hD hS hA [] [0, 1, 2, 3] [0, 1, 2, 3] rfl (by decide) rfl rfl rfl rfl hl.1 (Nat.le_of_ble_eq_true rfl) dX5_pump_24 ⟨Nat.le_of_ble_eq_true rfl, Nat.le_of_ble_eq_true rfl⟩ (fun H locs hP hD hS => ?_)
    refine lv_if_eq (tgt := 40) hx hb dX5_pump_27 (by decide) (fun c_27 => ?_) (fun c_27 => ?_)
    · have n2 : ¬ (v1 < 1 ∨ 9 < v1) := bi_0 c_27
      refine lv_aload_n hx hb dX5_pump_40 rfl (lv_at hl 0 rfl) ?_
      refine va_get (D := D) (ci := 5) (v := .ref pu) (C := RX5) (T := TX5) (N := 6) hx hb hts hi5 hown hKN.1 hP 0 rfl rfl 1 (by decide) (hts (.fieldLink RX5 19 "SnowPumps" "pumps" "LSnowPumps$Pumps;") (by decide +kernel)) (fun _ h9 => h9) rfl dX5_pump_41 ?_
      refine va_get (D := D) (ci := 3) (v := .int (nI np)) (C := RX3) (T := TX3) (N := 3) hx hb hts hi3 hown hKN.1 hP 1 rfl rfl 2 (by decide) (hts (.fieldLink RX5 87 "SnowPumps$Pumps" "count" "I") (by decide +kernel)) (fun _ h9 => h9) rfl dX5_pump_44 ?_
      refine lv_iconst (v := (5 : Int32)) hx hb dX5_pump_47 (by decide) ?_
      refine lv_icmp_lt (tgt := 61) hx hb dX5_pump_48 (by decide) (fun c_48 => ?_) (fun c_48 => ?_)
      · exfalso
        exact ht (by unfold tPump; rw [if_neg n1, if_neg n2, if_neg (Nat.not_le.mpr (ngt (N := np) (i := 5) (by omega) (by omega) c_48))])
      · exact thS (cls := "java/lang/IllegalStateException") (text := "there are 5 pumps") (is := 93) (ic := 95) (ik := 91) hx hb hl0 hown (by decide +kernel) hts (by decide +kernel) (by decide +kernel) (by decide +kernel) (by decide +kernel) hEX hZX hP hD hS hl.1 hml htab dX5_pump_51 dX5_pump_54 dX5_pump_55 dX5_pump_57 dX5_pump_60 (Nat.le_of_ble_eq_true rfl) (Nat.le_of_ble_eq_true rfl) (Nat.le_of_ble_eq_true rfl) (Nat.le_of_ble_eq_true rfl) hlk (by have e9 : tPump v0 v1 np = 3 := (by unfold tPump; rw [if_neg n1, if_neg n2, if_pos (nngt (N := np) (i := 5) (by omega) (by omega) c_48)]); rw [e9]; first | done | rfl) (Nat.le_of_ble_eq_true rfl) (Nat.le_of_ble_eq_true rfl)
    · exact thS (cls := "java/lang/IllegalArgumentException") (text := "flow is not 1 to 9") (is := 85) (ic := 64) (ik := 60) hx hb hl0 hown (by decide +kernel) hts (by decide +kernel) (by decide +kernel) (by decide +kernel) (by decide +kernel) hEX hZX hP hD hS hl.1 hml htab dX5_pump_30 dX5_pump_33 dX5_pump_34 dX5_pump_36 dX5_pump_39 (Nat.le_of_ble_eq_true rfl) (Nat.le_of_ble_eq_true rfl) (Nat.le_of_ble_eq_true rfl) (Nat.le_of_ble_eq_true rfl) hlk (by have e9 : tPump v0 v1 np = 2 := (by unfold tPump; rw [if_neg n1, if_pos (bi_n c_27)]); rw [e9]; first | done | rfl) (Nat.le_of_ble_eq_true rfl) (Nat.le_of_ble_eq_true rfl)
  · exact thS (cls := "java/lang/IndexOutOfBoundsException") (text := "part is not 0 to 19") (is := 83) (ic := 57) (ik := 53) hx hb hl0 hown (by decide +kernel) hts (by decide +kernel) (by decide +kernel) (by decide +kernel) (by decide +kernel) hEX hZX hP hD hS hl.1 hml htab dX5_pump_10 dX5_pump_13 dX5_pump_14 dX5_pump_16 dX5_pump_19 (Nat.le_of_ble_eq_true rfl) (Nat.le_of_ble_eq_true rfl) (Nat.le_of_ble_eq_true rfl) (Nat.le_of_ble_eq_true rfl) hlk (by have e9 : tPump v0 v1 np = 1 := (by unfold tPump; rw [if_pos (bi_n c_7)]); rw [e9]; first | done | rfl) (Nat.le_of_ble_eq_true rfl) (Nat.le_of_ble_eq_true rfl)
abbrev rm_kX5_run : Room := { frames := 1, cells := 0, slots := 0, locals := 22 }
set_option maxHeartbeats 4000000 in
set_option maxRecDepth 100000 in
theorem kX5_run (l : Launch) (D : va_G) (Y : Nat → ClassId) (sz : Nat) (x : Nat) (w : Nat) (pu : Nat) (p1 : Nat) (p2 : Nat) (h : Nat) (h1 : Nat) (h2 : Nat) (h3 : Nat) (a : Nat) (j : Nat) (u : Nat) (ru : fN) (wt : Int32) (tm : Nat) (np : Nat) (v0 : Int32) (ht : tRun v0 np = 0) (hnp : np ≤ 5) : MI l yX5_run wsX5_run rm_kX5_run D Y [.ref x, .int v0] sz [(x, .inr (5, [.ref w, .ref pu, .ref h, .ref a, .ref j, .ref u])), (pu, .inr (3, [.ref p1, .ref p2, .int (nI np)])), (h, .inr (0, [.ref w, .ref pu, .ref h1, .ref h2, .ref h3, .int wt, .int (nI tm)])), (h3, .inl (Y 1, 5, .inl ru))] (bi (ru (ix v0) = 0)) [(x, .inr (5, [.ref w, .ref pu, .ref h, .ref a, .ref j, .ref u])), (pu, .inr (3, [.ref p1, .ref p2, .int (nI np)])), (h, .inr (0, [.ref w, .ref pu, .ref h1, .ref h2, .ref h3, .int wt, .int (nI tm)])), (h3, .inl (Y 1, 5, .inl (upd ru (ix v0) (bi (ru (ix v0) = 0)))))] 0 0 := by
  refine pcW_start (cc := cX5_run) (maxL := 2) (ret := (some .boolean)) (Qc := fun A => va_Qi (fun (r : Int32) (_ : Unit) => r = (bi (ru (ix v0) = 0))) (qW D A [(x, .inr (5, [.ref w, .ref pu, .ref h, .ref a, .ref j, .ref u])), (pu, .inr (3, [.ref p1, .ref p2, .int (nI np)])), (h, .inr (0, [.ref w, .ref pu, .ref h1, .ref h2, .ref h3, .int wt, .int (nI tm)])), (h3, .inl (Y 1, 5, .inl (upd ru (ix v0) (bi (ru (ix v0) = 0)))))]) A) (by decide) rfl (Nat.le_of_ble_eq_true rfl) ?_
  intro p e s m below meth c A ls hE hKN hA hP hD hl
  obtain ⟨hx, hb, hr, hml, hown, hts, hlk, hin⟩ := hE
  have hown : s.vm.findClass RX5 = some m.cls := hown
  have hS : va_S A s.heap s.heap [] := va_S.rf
  have hi0 : ∀ w ∈ wsX00, w ∈ wsX5_run := by decide +kernel
  have hi3 : ∀ w ∈ wsX30, w ∈ wsX5_run := by decide +kernel
  have hi5 : ∀ w ∈ wsX50, w ∈ wsX5_run := by decide +kernel
  have hl : lv_has ls 2 [(0, .ref x), (1, .int v0)] := hl
  have n1 := tRun_0 ht
  obtain ⟨e1, b1⟩ := rngm (x := v0) (n := np) (by omega) n1
  refine lv_iload_n hx hb dX5_run_0 rfl (lv_at hl 1 rfl) ?_
  refine lv_iconst (v := (0 : Int32)) hx hb dX5_run_1 (by decide) ?_
  refine lv_aload_n hx hb dX5_run_2 rfl (lv_at hl 0 rfl) ?_
  refine va_get (D := D) (ci := 5) (v := .ref pu) (C := RX5) (T := TX5) (N := 6) hx hb hts hi5 hown hKN.1 hP 0 rfl rfl 1 (by decide) (hts (.fieldLink RX5 19 "SnowPumps" "pumps" "LSnowPumps$Pumps;") (by decide +kernel)) (fun _ h9 => h9) rfl dX5_run_3 ?_
  refine va_get (D := D) (ci := 3) (v := .int (nI np)) (C := RX3) (T := TX3) (N := 3) hx hb hts hi3 hown hKN.1 hP 1 rfl rfl 2 (by decide) (hts (.fieldLink RX5 87 "SnowPumps$Pumps" "count" "I") (by decide +kernel)) (fun _ h9 => h9) rfl dX5_run_6 ?_
  refine lv_iconst (v := (1 : Int32)) hx hb dX5_run_9 (by decide) ?_
  refine lv_isub hx hb dX5_run_10 ?_
  refine cSi (As := [.int v0, .int (0 : Int32), .int ((nI np) - (1 : Int32))]) (rest := []) (ws' := [(x, .inr (5, [.ref w, .ref pu, .ref h, .ref a, .ref j, .ref u])), (pu, .inr (3, [.ref p1, .ref p2, .int (nI np)])), (h, .inr (0, [.ref w, .ref pu, .ref h1, .ref h2, .ref h3, .int wt, .int (nI tm)])), (h3, .inl (Y 1, 5, .inl ru))]) ⟨hx, hb, hml, hown, hts⟩ (kX5_isOutside l D Y _ v0 (0 : Int32) ((nI np) - (1 : Int32)) ) (va_cwS 3 hts gX5_run_X5_isOutside rfl rfl rfl (by decide +kernel) ⟨Nat.le_of_ble_eq_true rfl, Nat.le_of_ble_eq_true rfl⟩) hKN hP hD hS hA [] [0, 1, 2, 3] [0, 1, 2, 3] rfl (by decide) rfl rfl rfl rfl hl.1 (Nat.le_of_ble_eq_true rfl) dX5_run_11 ⟨Nat.le_of_ble_eq_true rfl, Nat.le_of_ble_eq_true rfl⟩ (fun H locs hP hD hS => ?_)
  refine lv_eqi (y := (0 : Int32)) (by exact bi_f n1) ?_
  refine lv_if_eq (tgt := 27) hx hb dX5_run_14 (by decide) (fun c_14 => ?_) (fun c_14 => by exfalso; revert c_14; decide)
  have ec_1 : v0 = (nI (ix v0)) := by exact e1
  have hl : lv_has ls 2 [(0, .ref x), (1, .int (nI (ix v0)))] := (congrArg (fun zz9 => lv_has ls 2 [(0, .ref x), (1, .int zz9)]) ec_1).mp hl
  refine lv_aload_n hx hb dX5_run_27 rfl (lv_at hl 0 rfl) ?_
  refine va_get (D := D) (ci := 5) (v := .ref h) (C := RX5) (T := TX5) (N := 6) hx hb hts hi5 hown hKN.1 hP 0 rfl rfl 2 (by decide) (hts (.fieldLink RX5 28 "SnowPumps" "hill" "LSnowPumps$Hill;") (by decide +kernel)) (fun _ h9 => h9) rfl dX5_run_28 ?_
  refine va_get (D := D) (ci := 0) (v := .ref h3) (C := RX0) (T := TX0) (N := 7) hx hb hts hi0 hown hKN.1 hP 2 rfl rfl 4 (by decide) (hts (.fieldLink RX5 102 "SnowPumps$Hill" "runs" "[Z") (by decide +kernel)) (fun _ h9 => h9) rfl dX5_run_31 ?_
  refine lv_iload_n hx hb dX5_run_34 rfl (lv_at hl 1 rfl) ?_
  refine lv_aload_n hx hb dX5_run_35 rfl (lv_at hl 0 rfl) ?_
  refine va_get (D := D) (ci := 5) (v := .ref h) (C := RX5) (T := TX5) (N := 6) hx hb hts hi5 hown hKN.1 hP 0 rfl rfl 2 (by decide) (hts (.fieldLink RX5 28 "SnowPumps" "hill" "LSnowPumps$Hill;") (by decide +kernel)) (fun _ h9 => h9) rfl dX5_run_36 ?_
  refine va_get (D := D) (ci := 0) (v := .ref h3) (C := RX0) (T := TX0) (N := 7) hx hb hts hi0 hown hKN.1 hP 2 rfl rfl 4 (by decide) (hts (.fieldLink RX5 102 "SnowPumps$Hill" "runs" "[Z") (by decide +kernel)) (fun _ h9 => h9) rfl dX5_run_39 ?_
  refine lv_iload_n hx hb dX5_run_42 rfl (lv_at hl 1 rfl) ?_
  refine za hx hb hKN.1 hP 3 1 rfl rfl (ix v0) (by rfl) (by omega) (by first | decide | assumption | omega) dX5_run_43 ?_
  refine JT (jp := 52) (r' := [.int (nI (ix v0)), .ref h3]) (E := bi (ru (ix v0) = 0)) (fun K_2 => ?_) ?_
  · refine lv_if_ne (tgt := 51) hx hb dX5_run_44 (by decide) (fun c_44 => ?_) (fun c_44 => ?_)
    · refine lv_iconst (v := (0 : Int32)) hx hb dX5_run_51 (by decide) ?_
      exact K_2 _ (by first | exact (bi_f c_44).symm | exact (bi_t c_44).symm)
    · refine lv_iconst (v := (1 : Int32)) hx hb dX5_run_47 (by decide) ?_
      refine lv_goto (tgt := 52) hx hb dX5_run_48 (by decide) ?_
      exact K_2 _ (by first | exact (bi_f c_44).symm | exact (bi_t c_44).symm)
  refine zs hx hb hKN.1 hP hD hS 3 1 rfl rfl (ix v0) (by rfl) (by omega) (by first | decide | assumption | omega) (by exact nar01 (bi_01 _)) dX5_run_52 (fun H locs hP hD hS => ?_)
  have hP : va_P D vwCl [(x, .inr (5, [.ref w, .ref pu, .ref h, .ref a, .ref j, .ref u])), (pu, .inr (3, [.ref p1, .ref p2, .int (nI np)])), (h, .inr (0, [.ref w, .ref pu, .ref h1, .ref h2, .ref h3, .int wt, .int (nI tm)])), (h3, .inl (Y 1, 5, .inl (upd ru (ix v0) (bi (ru (ix v0) = 0)))))] _ := hP
  have hD : va_D A [(x, .inr (5, [.ref w, .ref pu, .ref h, .ref a, .ref j, .ref u])), (pu, .inr (3, [.ref p1, .ref p2, .int (nI np)])), (h, .inr (0, [.ref w, .ref pu, .ref h1, .ref h2, .ref h3, .int wt, .int (nI tm)])), (h3, .inl (Y 1, 5, .inl (upd ru (ix v0) (bi (ru (ix v0) = 0)))))] := hD
  refine lv_aload_n hx hb dX5_run_53 rfl (lv_at hl 0 rfl) ?_
  refine va_get (D := D) (ci := 5) (v := .ref h) (C := RX5) (T := TX5) (N := 6) hx hb hts hi5 hown hKN.1 hP 0 rfl rfl 2 (by decide) (hts (.fieldLink RX5 28 "SnowPumps" "hill" "LSnowPumps$Hill;") (by decide +kernel)) (fun _ h9 => h9) rfl dX5_run_54 ?_
  refine va_get (D := D) (ci := 0) (v := .ref h3) (C := RX0) (T := TX0) (N := 7) hx hb hts hi0 hown hKN.1 hP 2 rfl rfl 4 (by decide) (hts (.fieldLink RX5 102 "SnowPumps$Hill" "runs" "[Z") (by decide +kernel)) (fun _ h9 => h9) rfl dX5_run_57 ?_
  refine lv_iload_n hx hb dX5_run_60 rfl (lv_at hl 1 rfl) ?_
  refine za hx hb hKN.1 hP 3 1 rfl rfl (ix v0) (by rfl) (by omega) (by first | decide | assumption | omega) dX5_run_61 ?_
  refine lv_eqi (y := bi (ru (ix v0) = 0)) (by exact upd_s _ _ _) ?_
  exact eI hx hb hr hlk hP hD hS (by first | rfl | exact narZ _) (by rfl) (by exact Nat.le_of_ble_eq_true rfl) (by exact Nat.le_of_ble_eq_true rfl) dX5_run_62
abbrev rm_kX5_groom : Room := { frames := 1, cells := 0, slots := 0, locals := 27 }
set_option maxHeartbeats 4000000 in
set_option maxRecDepth 100000 in
theorem kX5_groom (l : Launch) (D : va_G) (Y : Nat → ClassId) (sz : Nat) (x : Nat) (w : Nat) (pu : Nat) (h : Nat) (h1 : Nat) (h2 : Nat) (h3 : Nat) (a : Nat) (j : Nat) (u : Nat) (sn : fN) (ic : fN) (wt : Int32) (tm : Nat) (v0 : Int32) (v1 : Int32) (ht : tGroom v0 v1 = 0) : MI l yX5_groom wsX5_groom rm_kX5_groom D Y [.ref x, .int v0, .int v1] sz [(x, .inr (5, [.ref w, .ref pu, .ref h, .ref a, .ref j, .ref u])), (h, .inr (0, [.ref w, .ref pu, .ref h1, .ref h2, .ref h3, .int wt, .int (nI tm)])), (h1, .inl (Y 0, 20, .inl sn)), (h2, .inl (Y 0, 20, .inl ic))] (sumR sn (ix v0) (ix v1 - ix v0 + 1)) [(x, .inr (5, [.ref w, .ref pu, .ref h, .ref a, .ref j, .ref u])), (h, .inr (0, [.ref w, .ref pu, .ref h1, .ref h2, .ref h3, .int wt, .int (nI tm)])), (h1, .inl (Y 0, 20, .inl (grU sn (ix v0) (ix v1 - ix v0 + 1) (ix v1 - ix v0 + 1)))), (h2, .inl (Y 0, 20, .inl (icZ ic (ix v0) (ix v1 - ix v0 + 1))))] 0 0 := by
  refine pcW_start (cc := cX5_groom) (maxL := 3) (ret := (some .int)) (Qc := fun A => va_Qi (fun (r : Int32) (_ : Unit) => r = (sumR sn (ix v0) (ix v1 - ix v0 + 1))) (qW D A [(x, .inr (5, [.ref w, .ref pu, .ref h, .ref a, .ref j, .ref u])), (h, .inr (0, [.ref w, .ref pu, .ref h1, .ref h2, .ref h3, .int wt, .int (nI tm)])), (h1, .inl (Y 0, 20, .inl (grU sn (ix v0) (ix v1 - ix v0 + 1) (ix v1 - ix v0 + 1)))), (h2, .inl (Y 0, 20, .inl (icZ ic (ix v0) (ix v1 - ix v0 + 1))))]) A) (by decide) rfl (Nat.le_of_ble_eq_true rfl) ?_
  intro p e s m below meth c A ls hE hKN hA hP hD hl
  obtain ⟨hx, hb, hr, hml, hown, hts, hlk, hin⟩ := hE
  have hown : s.vm.findClass RX5 = some m.cls := hown
  have hS : va_S A s.heap s.heap [] := va_S.rf
  have hi5 : ∀ w ∈ wsX50, w ∈ wsX5_groom := by decide +kernel
  have hl : lv_has ls 3 [(0, .ref x), (1, .int v0), (2, .int v1)] := hl
  have n0 := tGroom_0 ht
  obtain ⟨n1, n2, n3⟩ := n0
  obtain ⟨e1, b1⟩ := rng (x := v0) (n := 19) (by decide) n1
  obtain ⟨e2, b2⟩ := rng (x := v1) (n := 19) (by decide) n2
  have hab9 := ix_le (n := 19) (by decide) e1 e2 b1 b2 n3
  refine lv_iload_n hx hb dX5_groom_0 rfl (lv_at hl 1 rfl) ?_
  refine lv_iconst (v := (0 : Int32)) hx hb dX5_groom_1 (by decide) ?_
  refine lv_bipush (v := (19 : Int32)) hx hb dX5_groom_2 (by decide) ?_
  refine cSi (As := [.int v0, .int (0 : Int32), .int (19 : Int32)]) (rest := []) (ws' := [(x, .inr (5, [.ref w, .ref pu, .ref h, .ref a, .ref j, .ref u])), (h, .inr (0, [.ref w, .ref pu, .ref h1, .ref h2, .ref h3, .int wt, .int (nI tm)])), (h1, .inl (Y 0, 20, .inl sn)), (h2, .inl (Y 0, 20, .inl ic))]) ⟨hx, hb, hml, hown, hts⟩ (kX5_isOutside l D Y _ v0 (0 : Int32) (19 : Int32) ) (va_cwS 3 hts gX5_groom_X5_isOutside rfl rfl rfl (by decide +kernel) ⟨Nat.le_of_ble_eq_true rfl, Nat.le_of_ble_eq_true rfl⟩) hKN hP hD hS hA [] [0, 1, 2, 3] [0, 1, 2, 3] rfl (by decide) rfl rfl rfl rfl hl.1 (Nat.le_of_ble_eq_true rfl) dX5_groom_4 ⟨Nat.le_of_ble_eq_true rfl, Nat.le_of_ble_eq_true rfl⟩ (fun H locs hP hD hS => ?_)
  refine lv_eqi (y := (0 : Int32)) (by exact bi_f n1) ?_
  refine lv_if_eq (tgt := 20) hx hb dX5_groom_7 (by decide) (fun c_7 => ?_) (fun c_7 => by exfalso; revert c_7; decide)
  refine lv_iload_n hx hb dX5_groom_20 rfl (lv_at hl 2 rfl) ?_
  refine lv_iconst (v := (0 : Int32)) hx hb dX5_groom_21 (by decide) ?_
  refine lv_bipush (v := (19 : Int32)) hx hb dX5_groom_22 (by decide) ?_
  refine cSi (As := [.int v1, .int (0 : Int32), .int (19 : Int32)]) (rest := []) (ws' := [(x, .inr (5, [.ref w, .ref pu, .ref h, .ref a, .ref j, .ref u])), (h, .inr (0, [.ref w, .ref pu, .ref h1, .ref h2, .ref h3, .int wt, .int (nI tm)])), (h1, .inl (Y 0, 20, .inl sn)), (h2, .inl (Y 0, 20, .inl ic))]) ⟨hx, hb, hml, hown, hts⟩ (kX5_isOutside l D Y _ v1 (0 : Int32) (19 : Int32) ) (va_cwS 3 hts gX5_groom_X5_isOutside rfl rfl rfl (by decide +kernel) ⟨Nat.le_of_ble_eq_true rfl, Nat.le_of_ble_eq_true rfl⟩) hKN hP hD hS hA [] [0, 1, 2, 3] [0, 1, 2, 3] rfl (by decide) rfl rfl rfl rfl hl.1 (Nat.le_of_ble_eq_true rfl) dX5_groom_24 ⟨Nat.le_of_ble_eq_true rfl, Nat.le_of_ble_eq_true rfl⟩ (fun H locs hP hD hS => ?_)
  refine lv_eqi (y := (0 : Int32)) (by exact bi_f n2) ?_
  refine lv_if_eq (tgt := 40) hx hb dX5_groom_27 (by decide) (fun c_27 => ?_) (fun c_27 => by exfalso; revert c_27; decide)
  refine lv_iload_n hx hb dX5_groom_40 rfl (lv_at hl 1 rfl) ?_
  refine lv_iload_n hx hb dX5_groom_41 rfl (lv_at hl 2 rfl) ?_
  refine lv_icmp_le (tgt := 55) hx hb dX5_groom_42 (by decide) (fun c_42 => ?_) (fun c_42 => by exfalso; exact n3 (Int32.not_le.mp c_42))
  have ec_1 : v0 = (nI (ix v0)) := by exact e1
  have hl : lv_has ls 3 [(0, .ref x), (1, .int (nI (ix v0))), (2, .int v1)] := (congrArg (fun zz9 => lv_has ls 3 [(0, .ref x), (1, .int zz9), (2, .int v1)]) ec_1).mp hl
  have ec_2 : v1 = (nI (ix v1)) := by exact e2
  have hl : lv_has ls 3 [(0, .ref x), (1, .int (nI (ix v0))), (2, .int (nI (ix v1)))] := (congrArg (fun zz9 => lv_has ls 3 [(0, .ref x), (1, .int (nI (ix v0))), (2, .int zz9)]) ec_2).mp hl
  refine lv_aload_n hx hb dX5_groom_55 rfl (lv_at hl 0 rfl) ?_
  refine va_get (D := D) (ci := 5) (v := .ref h) (C := RX5) (T := TX5) (N := 6) hx hb hts hi5 hown hKN.1 hP 0 rfl rfl 2 (by decide) (hts (.fieldLink RX5 28 "SnowPumps" "hill" "LSnowPumps$Hill;") (by decide +kernel)) (fun _ h9 => h9) rfl dX5_groom_56 ?_
  refine lv_iload_n hx hb dX5_groom_59 rfl (lv_at hl 1 rfl) ?_
  refine lv_iload_n hx hb dX5_groom_60 rfl (lv_at hl 2 rfl) ?_
  refine cVi (As := [.int (nI (ix v0)), .int (nI (ix v1))]) (rest := []) (ws' := [(x, .inr (5, [.ref w, .ref pu, .ref h, .ref a, .ref j, .ref u])), (h, .inr (0, [.ref w, .ref pu, .ref h1, .ref h2, .ref h3, .int wt, .int (nI tm)])), (h1, .inl (Y 0, 20, .inl (grU sn (ix v0) ((ix v1) - (ix v0) + 1) ((ix v1) - (ix v0) + 1)))), (h2, .inl (Y 0, 20, .inl (icZ ic (ix v0) ((ix v1) - (ix v0) + 1))))]) ⟨hx, hb, hml, hown, hts⟩ (kX0_spreadSnow l D Y _ h h1 h2 h3 w pu sn ic wt (nI tm) (ix v0) (ix v1) (by first | assumption | omega) (by first | assumption | omega)) (cwV 2 hts gX5_groom_X0_spreadSnow rfl rfl rfl (by decide +kernel) ⟨Nat.le_of_ble_eq_true rfl, Nat.le_of_ble_eq_true rfl⟩) hKN hP hD hS hA [1, 2, 3] [0] [0, 1, 2, 3] rfl (by decide) rfl rfl 1 0 rfl rfl rfl rfl hl.1 (Nat.le_of_ble_eq_true rfl) dX5_groom_61 ⟨Nat.le_of_ble_eq_true rfl, Nat.le_of_ble_eq_true rfl⟩ (fun H locs hP hD hS => ?_)
  exact eI hx hb hr hlk hP hD hS (by rfl) (by rfl) (by exact Nat.le_of_ble_eq_true rfl) (by exact Nat.le_of_ble_eq_true rfl) dX5_groom_64
abbrev rm_kX5_told : Room := { frames := 1, cells := 0, slots := 0, locals := 22 }
set_option maxHeartbeats 4000000 in
set_option maxRecDepth 100000 in
theorem kX5_told (l : Launch) (D : va_G) (Y : Nat → ClassId) (sz : Nat) (x : Nat) (w : Nat) (pu : Nat) (h : Nat) (a : Nat) (j : Nat) (u : Nat) (u1 : Nat) (u2 : Nat) (u3 : Nat) (u4 : Nat) (u5 : Nat) (jr : fN) (ln : fN) (pt : fN) (fa : fN) (ho : fN) (nj : Nat) (v0 : Int32) (v1 : Int32) (ht : tTold v0 v1 nj = 0) (hnj : nj ≤ 30) : MI l yX5_told wsX5_told rm_kX5_told D Y [.ref x, .int v0, .int v1] sz [(x, .inr (5, [.ref w, .ref pu, .ref h, .ref a, .ref j, .ref u])), (u, .inr (1, [.ref u1, .ref u2, .ref u3, .ref u4, .ref u5, .int (nI nj)])), (u1, .inl (Y 0, 30, .inl jr)), (u2, .inl (Y 0, 30, .inl ln)), (u3, .inl (Y 0, 30, .inl pt)), (u4, .inl (Y 0, 30, .inl fa)), (u5, .inl (Y 0, 30, .inl ho))] (tellU jr ln pt fa ho (ix v0) (ix v1)) [(x, .inr (5, [.ref w, .ref pu, .ref h, .ref a, .ref j, .ref u])), (u, .inr (1, [.ref u1, .ref u2, .ref u3, .ref u4, .ref u5, .int (nI nj)])), (u1, .inl (Y 0, 30, .inl jr)), (u2, .inl (Y 0, 30, .inl ln)), (u3, .inl (Y 0, 30, .inl pt)), (u4, .inl (Y 0, 30, .inl fa)), (u5, .inl (Y 0, 30, .inl ho))] 0 0 := by
  refine pcW_start (cc := cX5_told) (maxL := 3) (ret := (some .int)) (Qc := fun A => va_Qi (fun (r : Int32) (_ : Unit) => r = (tellU jr ln pt fa ho (ix v0) (ix v1))) (qW D A [(x, .inr (5, [.ref w, .ref pu, .ref h, .ref a, .ref j, .ref u])), (u, .inr (1, [.ref u1, .ref u2, .ref u3, .ref u4, .ref u5, .int (nI nj)])), (u1, .inl (Y 0, 30, .inl jr)), (u2, .inl (Y 0, 30, .inl ln)), (u3, .inl (Y 0, 30, .inl pt)), (u4, .inl (Y 0, 30, .inl fa)), (u5, .inl (Y 0, 30, .inl ho))]) A) (by decide) rfl (Nat.le_of_ble_eq_true rfl) ?_
  intro p e s m below meth c A ls hE hKN hA hP hD hl
  obtain ⟨hx, hb, hr, hml, hown, hts, hlk, hin⟩ := hE
  have hown : s.vm.findClass RX5 = some m.cls := hown
  have hS : va_S A s.heap s.heap [] := va_S.rf
  have hi1 : ∀ w ∈ wsX10, w ∈ wsX5_told := by decide +kernel
  have hi5 : ∀ w ∈ wsX50, w ∈ wsX5_told := by decide +kernel
  have hl : lv_has ls 3 [(0, .ref x), (1, .int v0), (2, .int v1)] := hl
  have n0 := tTold_0 ht
  obtain ⟨n1, n2⟩ := n0
  obtain ⟨e1, b1⟩ := rngm (x := v0) (n := nj) (by omega) n1
  obtain ⟨e2, b2⟩ := rng (x := v1) (n := 4) (by decide) n2
  refine lv_iload_n hx hb dX5_told_0 rfl (lv_at hl 1 rfl) ?_
  refine lv_iconst (v := (0 : Int32)) hx hb dX5_told_1 (by decide) ?_
  refine lv_aload_n hx hb dX5_told_2 rfl (lv_at hl 0 rfl) ?_
  refine va_get (D := D) (ci := 5) (v := .ref u) (C := RX5) (T := TX5) (N := 6) hx hb hts hi5 hown hKN.1 hP 0 rfl rfl 5 (by decide) (hts (.fieldLink RX5 45 "SnowPumps" "jumps" "LSnowPumps$Jumps;") (by decide +kernel)) (fun _ h9 => h9) rfl dX5_told_3 ?_
  refine va_get (D := D) (ci := 1) (v := .int (nI nj)) (C := RX1) (T := TX1) (N := 6) hx hb hts hi1 hown hKN.1 hP 1 rfl rfl 5 (by decide) (hts (.fieldLink RX5 138 "SnowPumps$Jumps" "count" "I") (by decide +kernel)) (fun _ h9 => h9) rfl dX5_told_6 ?_
  refine lv_iconst (v := (1 : Int32)) hx hb dX5_told_9 (by decide) ?_
  refine lv_isub hx hb dX5_told_10 ?_
  refine cSi (As := [.int v0, .int (0 : Int32), .int ((nI nj) - (1 : Int32))]) (rest := []) (ws' := [(x, .inr (5, [.ref w, .ref pu, .ref h, .ref a, .ref j, .ref u])), (u, .inr (1, [.ref u1, .ref u2, .ref u3, .ref u4, .ref u5, .int (nI nj)])), (u1, .inl (Y 0, 30, .inl jr)), (u2, .inl (Y 0, 30, .inl ln)), (u3, .inl (Y 0, 30, .inl pt)), (u4, .inl (Y 0, 30, .inl fa)), (u5, .inl (Y 0, 30, .inl ho))]) ⟨hx, hb, hml, hown, hts⟩ (kX5_isOutside l D Y _ v0 (0 : Int32) ((nI nj) - (1 : Int32)) ) (va_cwS 3 hts gX5_told_X5_isOutside rfl rfl rfl (by decide +kernel) ⟨Nat.le_of_ble_eq_true rfl, Nat.le_of_ble_eq_true rfl⟩) hKN hP hD hS hA [] [0, 1, 2, 3, 4, 5, 6] [0, 1, 2, 3, 4, 5, 6] rfl (by decide) rfl rfl rfl rfl hl.1 (Nat.le_of_ble_eq_true rfl) dX5_told_11 ⟨Nat.le_of_ble_eq_true rfl, Nat.le_of_ble_eq_true rfl⟩ (fun H locs hP hD hS => ?_)
  refine lv_eqi (y := (0 : Int32)) (by exact bi_f n1) ?_
  refine lv_if_eq (tgt := 27) hx hb dX5_told_14 (by decide) (fun c_14 => ?_) (fun c_14 => by exfalso; revert c_14; decide)
  refine lv_iload_n hx hb dX5_told_27 rfl (lv_at hl 2 rfl) ?_
  refine lv_iconst (v := (0 : Int32)) hx hb dX5_told_28 (by decide) ?_
  refine lv_iconst (v := (4 : Int32)) hx hb dX5_told_29 (by decide) ?_
  refine cSi (As := [.int v1, .int (0 : Int32), .int (4 : Int32)]) (rest := []) (ws' := [(x, .inr (5, [.ref w, .ref pu, .ref h, .ref a, .ref j, .ref u])), (u, .inr (1, [.ref u1, .ref u2, .ref u3, .ref u4, .ref u5, .int (nI nj)])), (u1, .inl (Y 0, 30, .inl jr)), (u2, .inl (Y 0, 30, .inl ln)), (u3, .inl (Y 0, 30, .inl pt)), (u4, .inl (Y 0, 30, .inl fa)), (u5, .inl (Y 0, 30, .inl ho))]) ⟨hx, hb, hml, hown, hts⟩ (kX5_isOutside l D Y _ v1 (0 : Int32) (4 : Int32) ) (va_cwS 3 hts gX5_told_X5_isOutside rfl rfl rfl (by decide +kernel) ⟨Nat.le_of_ble_eq_true rfl, Nat.le_of_ble_eq_true rfl⟩) hKN hP hD hS hA [] [0, 1, 2, 3, 4, 5, 6] [0, 1, 2, 3, 4, 5, 6] rfl (by decide) rfl rfl rfl rfl hl.1 (Nat.le_of_ble_eq_true rfl) dX5_told_30 ⟨Nat.le_of_ble_eq_true rfl, Nat.le_of_ble_eq_true rfl⟩ (fun H locs hP hD hS => ?_)
  refine lv_eqi (y := (0 : Int32)) (by exact bi_f n2) ?_
  refine lv_if_eq (tgt := 46) hx hb dX5_told_33 (by decide) (fun c_33 => ?_) (fun c_33 => by exfalso; revert c_33; decide)
  have ec_1 : v0 = (nI (ix v0)) := by exact e1
  have hl : lv_has ls 3 [(0, .ref x), (1, .int (nI (ix v0))), (2, .int v1)] := (congrArg (fun zz9 => lv_has ls 3 [(0, .ref x), (1, .int zz9), (2, .int v1)]) ec_1).mp hl
  have ec_2 : v1 = (nI (ix v1)) := by exact e2
  have hl : lv_has ls 3 [(0, .ref x), (1, .int (nI (ix v0))), (2, .int (nI (ix v1)))] := (congrArg (fun zz9 => lv_has ls 3 [(0, .ref x), (1, .int (nI (ix v0))), (2, .int zz9)]) ec_2).mp hl
  refine lv_aload_n hx hb dX5_told_46 rfl (lv_at hl 0 rfl) ?_
  refine va_get (D := D) (ci := 5) (v := .ref u) (C := RX5) (T := TX5) (N := 6) hx hb hts hi5 hown hKN.1 hP 0 rfl rfl 5 (by decide) (hts (.fieldLink RX5 45 "SnowPumps" "jumps" "LSnowPumps$Jumps;") (by decide +kernel)) (fun _ h9 => h9) rfl dX5_told_47 ?_
  refine lv_iload_n hx hb dX5_told_50 rfl (lv_at hl 1 rfl) ?_
  refine lv_iload_n hx hb dX5_told_51 rfl (lv_at hl 2 rfl) ?_
  refine cVi (As := [.int (nI (ix v0)), .int (nI (ix v1))]) (rest := []) (ws' := [(x, .inr (5, [.ref w, .ref pu, .ref h, .ref a, .ref j, .ref u])), (u, .inr (1, [.ref u1, .ref u2, .ref u3, .ref u4, .ref u5, .int (nI nj)])), (u1, .inl (Y 0, 30, .inl jr)), (u2, .inl (Y 0, 30, .inl ln)), (u3, .inl (Y 0, 30, .inl pt)), (u4, .inl (Y 0, 30, .inl fa)), (u5, .inl (Y 0, 30, .inl ho))]) ⟨hx, hb, hml, hown, hts⟩ (kX1_tell l D Y _ u u1 u2 u3 u4 u5 nj jr ln pt fa ho (ix v0) (ix v1) (by first | assumption | omega) (by first | assumption | omega)) (cwV 2 hts gX5_told_X1_tell rfl rfl rfl (by decide +kernel) ⟨Nat.le_of_ble_eq_true rfl, Nat.le_of_ble_eq_true rfl⟩) hKN hP hD hS hA [1, 2, 3, 4, 5, 6] [0] [0, 1, 2, 3, 4, 5, 6] rfl (by decide) rfl rfl 1 1 rfl rfl rfl rfl hl.1 (Nat.le_of_ble_eq_true rfl) dX5_told_52 ⟨Nat.le_of_ble_eq_true rfl, Nat.le_of_ble_eq_true rfl⟩ (fun H locs hP hD hS => ?_)
  exact eI hx hb hr hlk hP hD hS (by rfl) (by rfl) (by exact Nat.le_of_ble_eq_true rfl) (by exact Nat.le_of_ble_eq_true rfl) dX5_told_55
abbrev rm_kX5_score : Room := { frames := 2, cells := 0, slots := 0, locals := 38 }
set_option maxHeartbeats 4000000 in
set_option maxRecDepth 100000 in
theorem kX5_score (l : Launch) (D : va_G) (Y : Nat → ClassId) (sz : Nat) (x : Nat) (w : Nat) (pu : Nat) (h : Nat) (a : Nat) (j : Nat) (u : Nat) (u1 : Nat) (u2 : Nat) (u3 : Nat) (u4 : Nat) (u5 : Nat) (jr : fN) (ln : fN) (pt : fN) (fa : fN) (ho : fN) (nj : Nat) (v0 : Int32) (ht : tScore v0 = 0) (hnj : nj ≤ 30) : MI l yX5_score wsX5_score rm_kX5_score D Y [.ref x, .int v0] sz [(x, .inr (5, [.ref w, .ref pu, .ref h, .ref a, .ref j, .ref u])), (u, .inr (1, [.ref u1, .ref u2, .ref u3, .ref u4, .ref u5, .int (nI nj)])), (u1, .inl (Y 0, 30, .inl jr)), (u2, .inl (Y 0, 30, .inl ln)), (u3, .inl (Y 0, 30, .inl pt)), (u4, .inl (Y 0, 30, .inl fa)), (u5, .inl (Y 0, 30, .inl ho))] (scU jr pt nj v0) [(x, .inr (5, [.ref w, .ref pu, .ref h, .ref a, .ref j, .ref u])), (u, .inr (1, [.ref u1, .ref u2, .ref u3, .ref u4, .ref u5, .int (nI nj)])), (u1, .inl (Y 0, 30, .inl jr)), (u2, .inl (Y 0, 30, .inl ln)), (u3, .inl (Y 0, 30, .inl pt)), (u4, .inl (Y 0, 30, .inl fa)), (u5, .inl (Y 0, 30, .inl ho))] 0 0 := by
  refine pcW_start (cc := cX5_score) (maxL := 2) (ret := (some .int)) (Qc := fun A => va_Qi (fun (r : Int32) (_ : Unit) => r = (scU jr pt nj v0)) (qW D A [(x, .inr (5, [.ref w, .ref pu, .ref h, .ref a, .ref j, .ref u])), (u, .inr (1, [.ref u1, .ref u2, .ref u3, .ref u4, .ref u5, .int (nI nj)])), (u1, .inl (Y 0, 30, .inl jr)), (u2, .inl (Y 0, 30, .inl ln)), (u3, .inl (Y 0, 30, .inl pt)), (u4, .inl (Y 0, 30, .inl fa)), (u5, .inl (Y 0, 30, .inl ho))]) A) (by decide) rfl (Nat.le_of_ble_eq_true rfl) ?_
  intro p e s m below meth c A ls hE hKN hA hP hD hl
  obtain ⟨hx, hb, hr, hml, hown, hts, hlk, hin⟩ := hE
  have hown : s.vm.findClass RX5 = some m.cls := hown
  have hS : va_S A s.heap s.heap [] := va_S.rf
  have hi5 : ∀ w ∈ wsX50, w ∈ wsX5_score := by decide +kernel
  have hl : lv_has ls 2 [(0, .ref x), (1, .int v0)] := hl
  have n1 := tScore_0 ht
  refine lv_iload_n hx hb dX5_score_0 rfl (lv_at hl 1 rfl) ?_
  refine lv_iconst (v := (0 : Int32)) hx hb dX5_score_1 (by decide) ?_
  refine lv_bipush (v := (9 : Int32)) hx hb dX5_score_2 (by decide) ?_
  refine cSi (As := [.int v0, .int (0 : Int32), .int (9 : Int32)]) (rest := []) (ws' := [(x, .inr (5, [.ref w, .ref pu, .ref h, .ref a, .ref j, .ref u])), (u, .inr (1, [.ref u1, .ref u2, .ref u3, .ref u4, .ref u5, .int (nI nj)])), (u1, .inl (Y 0, 30, .inl jr)), (u2, .inl (Y 0, 30, .inl ln)), (u3, .inl (Y 0, 30, .inl pt)), (u4, .inl (Y 0, 30, .inl fa)), (u5, .inl (Y 0, 30, .inl ho))]) ⟨hx, hb, hml, hown, hts⟩ (kX5_isOutside l D Y _ v0 (0 : Int32) (9 : Int32) ) (va_cwS 3 hts gX5_score_X5_isOutside rfl rfl rfl (by decide +kernel) ⟨Nat.le_of_ble_eq_true rfl, Nat.le_of_ble_eq_true rfl⟩) hKN hP hD hS hA [] [0, 1, 2, 3, 4, 5, 6] [0, 1, 2, 3, 4, 5, 6] rfl (by decide) rfl rfl rfl rfl hl.1 (Nat.le_of_ble_eq_true rfl) dX5_score_4 ⟨Nat.le_of_ble_eq_true rfl, Nat.le_of_ble_eq_true rfl⟩ (fun H locs hP hD hS => ?_)
  refine lv_eqi (y := (0 : Int32)) (by exact bi_f n1) ?_
  refine lv_if_eq (tgt := 20) hx hb dX5_score_7 (by decide) (fun c_7 => ?_) (fun c_7 => by exfalso; revert c_7; decide)
  refine lv_aload_n hx hb dX5_score_20 rfl (lv_at hl 0 rfl) ?_
  refine va_get (D := D) (ci := 5) (v := .ref u) (C := RX5) (T := TX5) (N := 6) hx hb hts hi5 hown hKN.1 hP 0 rfl rfl 5 (by decide) (hts (.fieldLink RX5 45 "SnowPumps" "jumps" "LSnowPumps$Jumps;") (by decide +kernel)) (fun _ h9 => h9) rfl dX5_score_21 ?_
  refine lv_iload_n hx hb dX5_score_24 rfl (lv_at hl 1 rfl) ?_
  refine cVi (As := [.int v0]) (rest := []) (ws' := [(x, .inr (5, [.ref w, .ref pu, .ref h, .ref a, .ref j, .ref u])), (u, .inr (1, [.ref u1, .ref u2, .ref u3, .ref u4, .ref u5, .int (nI nj)])), (u1, .inl (Y 0, 30, .inl jr)), (u2, .inl (Y 0, 30, .inl ln)), (u3, .inl (Y 0, 30, .inl pt)), (u4, .inl (Y 0, 30, .inl fa)), (u5, .inl (Y 0, 30, .inl ho))]) ⟨hx, hb, hml, hown, hts⟩ (kX1_bestTwo l D Y _ u u1 u2 u3 u4 u5 nj jr ln pt fa ho v0 (by first | assumption | omega)) (cwV 1 hts gX5_score_X1_bestTwo rfl rfl rfl (by decide +kernel) ⟨Nat.le_of_ble_eq_true rfl, Nat.le_of_ble_eq_true rfl⟩) hKN hP hD hS hA [1, 2, 3, 4, 5, 6] [0] [0, 1, 2, 3, 4, 5, 6] rfl (by decide) rfl rfl 1 1 rfl rfl rfl rfl hl.1 (Nat.le_of_ble_eq_true rfl) dX5_score_25 ⟨Nat.le_of_ble_eq_true rfl, Nat.le_of_ble_eq_true rfl⟩ (fun H locs hP hD hS => ?_)
  exact eI hx hb hr hlk hP hD hS (by rfl) (by rfl) (by exact Nat.le_of_ble_eq_true rfl) (by exact Nat.le_of_ble_eq_true rfl) dX5_score_28
