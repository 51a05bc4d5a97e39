set_option maxHeartbeats 8000000 in
set_option maxRecDepth 100000 in
theorem kL_act (l : Launch) (hl0 : l.stackTraces = false) (D : va_G) (Y : Nat → ClassId) (sz : Nat) (ad : Nat → Nat) (z : Nat) (z1 : Nat) (z2 : Nat) (z3 : Nat) (z4 : Nat) (z5 : Nat) (z6 : Nat) (wa : fN) (da : fN) (gu : fN) (pa : fN) (fl : fN) (sn : fN) (ic : fN) (ru : fN) (st : fN) (jr : fN) (ln : fN) (pt : fN) (fa : fN) (ho : fN) (sq : fN) (iq : fN) (rq : fN) (wt : Int32) (wb : Int32) (tbI : Int32) (tm : Nat) (np : Nat) (nj : Nat) (k9 : Nat) (L : List Nat) (N : Nat → Nat) (F : Nat → fN) (wr : Nat → Option Nat) (pr : Nat → Option Nat) (jw : Nat → Option Nat) (v : Int32) (hI : LINV wa da gu pa fl sn ic ru st jr pt fa wt tm np nj k9) (hPI : PINV L N F wr pr jw wa da gu pa fl ru jr ln pt fa ho np nj) (hk9 : k9 ≤ 1000) : Met l yL_act wsL_act rm_kL_act (pcX D Y [.ref (ad 0), .ref z, .int v] sz (wp (CW Y ad wa da gu pa fl sn ic ru st jr ln pt fa ho sq iq rq wt wb (nI np) (nI tm) tbI (nI nj)) (wp [(z, .inr (6, [.int (nI tm), .int wt, .ref z1, .ref z2, .ref z3, .ref z4, .int (nI np), .ref z5, .ref z6, .int (nI nj)])), (z1, .inl (Y 0, 20, .inl sn)), (z2, .inl (Y 0, 20, .inl ic)), (z3, .inl (Y 2, 24, .inr (.inr (.inr (.inr wr))))), (z4, .inl (Y 2, 5, .inr (.inr (.inr (.inr pr))))), (z5, .inl (Y 0, 5, .inl st)), (z6, .inl (Y 2, 30, .inr (.inr (.inr (.inr jw)))))] (pl Y L N F)))) (va_Qi (fun (r : Int32) (_ : Unit) => r = (1 : Int32)) (fun _ t => (ACTP D Y ad z z1 z2 z3 z4 z5 z6 jr ln pt fa ho nj tm k9) (va_A (wp (CW Y ad wa da gu pa fl sn ic ru st jr ln pt fa ho sq iq rq wt wb (nI np) (nI tm) tbI (nI nj)) (wp [(z, .inr (6, [.int (nI tm), .int wt, .ref z1, .ref z2, .ref z3, .ref z4, .int (nI np), .ref z5, .ref z6, .int (nI nj)])), (z1, .inl (Y 0, 20, .inl sn)), (z2, .inl (Y 0, 20, .inl ic)), (z3, .inl (Y 2, 24, .inr (.inr (.inr (.inr wr))))), (z4, .inl (Y 2, 5, .inr (.inr (.inr (.inr pr))))), (z5, .inl (Y 0, 5, .inl st)), (z6, .inl (Y 2, 30, .inr (.inr (.inr (.inr jw)))))] (pl Y L N F))) sz) t.heap) (va_A (wp (CW Y ad wa da gu pa fl sn ic ru st jr ln pt fa ho sq iq rq wt wb (nI np) (nI tm) tbI (nI nj)) (wp [(z, .inr (6, [.int (nI tm), .int wt, .ref z1, .ref z2, .ref z3, .ref z4, .int (nI np), .ref z5, .ref z6, .int (nI nj)])), (z1, .inl (Y 0, 20, .inl sn)), (z2, .inl (Y 0, 20, .inl ic)), (z3, .inl (Y 2, 24, .inr (.inr (.inr (.inr wr))))), (z4, .inl (Y 2, 5, .inr (.inr (.inr (.inr pr))))), (z5, .inl (Y 0, 5, .inl st)), (z6, .inl (Y 2, 30, .inr (.inr (.inr (.inr jw)))))] (pl Y L N F))) sz)) 2 10 (va_A (wp (CW Y ad wa da gu pa fl sn ic ru st jr ln pt fa ho sq iq rq wt wb (nI np) (nI tm) tbI (nI nj)) (wp [(z, .inr (6, [.int (nI tm), .int wt, .ref z1, .ref z2, .ref z3, .ref z4, .int (nI np), .ref z5, .ref z6, .int (nI nj)])), (z1, .inl (Y 0, 20, .inl sn)), (z2, .inl (Y 0, 20, .inl ic)), (z3, .inl (Y 2, 24, .inr (.inr (.inr (.inr wr))))), (z4, .inl (Y 2, 5, .inr (.inr (.inr (.inr pr))))), (z5, .inl (Y 0, 5, .inl st)), (z6, .inl (Y 2, 30, .inr (.inr (.inr (.inr jw)))))] (pl Y L N F))) sz) := by
  refine pcX_startW (cc := cL_act) (maxL := 9) (ret := (some .boolean)) (Qc := fun A => va_Qi (fun (r : Int32) (_ : Unit) => r = (1 : Int32)) (fun _ t => (ACTP D Y ad z z1 z2 z3 z4 z5 z6 jr ln pt fa ho nj tm k9) A t.heap) A) (by decide) rfl (Nat.le_of_ble_eq_true rfl) ?_
  intro p e s m below meth c A ls hE hKN hA hP hD hl hEX hZX htab
  obtain ⟨hx, hb, hr, hml, hown, hts, hlk, hin⟩ := id hE
  have hown : s.vm.findClass RL = some m.cls := hown
  have hS : va_S A s.heap s.heap [] := va_S.rf
  have hl : lv_has ls 9 [(0, .ref (ad 0)), (1, .ref z), (2, .int v)] := hl
  refine lv_iload_n hx hb dL_act_0 rfl (lv_at hl 2 rfl) ?_
  refine lv_bipush (v := (14 : Int32)) hx hb dL_act_1 (by decide) ?_
  refine gS0i (As := [.int v, .int (14 : Int32)]) (rest := []) ⟨hx, hb, hml, hown, hts⟩ (kL_below l D Y _ v 14 (by decide) (by decide)) (va_cwS 2 hts gL_act_L_below rfl rfl rfl (by decide +kernel) ⟨Nat.le_of_ble_eq_true rfl, Nat.le_of_ble_eq_true rfl⟩) hKN hP hD hS hA rfl rfl hl.1 (Nat.le_of_ble_eq_true rfl) dL_act_3 ⟨Nat.le_of_ble_eq_true rfl, Nat.le_of_ble_eq_true rfl⟩ (fun H locs hP hD hS => ?_)
  obtain ⟨j, hj, ej⟩ : ∃ j, j < 14 ∧ bw v 14 = j := ⟨_, bw_lt _ (by decide), rfl⟩
  refine lv_eqi (y := nI j) (by rw [ej]) ?_
  by_cases h9 : 9 ≤ j
  · refine lv_tableOut (x := nI j) (tgt := 657) hx hb dL_act_6 (Or.inr (by rw [nI_toInt (by omega)]; omega)) (by decide) ?_
    exact ac_jump hl0 hE hKN hEX hZX hA htab hI hPI hk9 hP hD hS hl
  · rcases (show j = 0 ∨ j = 1 ∨ j = 2 ∨ j = 3 ∨ j = 4 ∨ j = 5 ∨ j = 6 ∨ j = 7 ∨ j = 8 by omega) with rfl | rfl | rfl | rfl | rfl | rfl | rfl | rfl | rfl
    · refine lv_tableIn (x := nI 0) (off := 50) (tgt := 56) hx hb dL_act_6 (by decide) (by decide) rfl (by decide) ?_
      exact ac_wea hl0 hE hKN hEX hZX hA htab hI hPI hk9 hP hD hS hl
    · refine lv_tableIn (x := nI 1) (off := 50) (tgt := 56) hx hb dL_act_6 (by decide) (by decide) rfl (by decide) ?_
      exact ac_wea hl0 hE hKN hEX hZX hA htab hI hPI hk9 hP hD hS hl
    · refine lv_tableIn (x := nI 2) (off := 50) (tgt := 56) hx hb dL_act_6 (by decide) (by decide) rfl (by decide) ?_
      exact ac_wea hl0 hE hKN hEX hZX hA htab hI hPI hk9 hP hD hS hl
    · refine lv_tableIn (x := nI 3) (off := 201) (tgt := 207) hx hb dL_act_6 (by decide) (by decide) rfl (by decide) ?_
      exact ac_pump hl0 hE hKN hEX hZX hA htab hI hPI hk9 hP hD hS hl
    · refine lv_tableIn (x := nI 4) (off := 314) (tgt := 320) hx hb dL_act_6 (by decide) (by decide) rfl (by decide) ?_
      exact ac_run hl0 hE hKN hEX hZX hA htab hI hPI hk9 hP hD hS hl
    · refine lv_tableIn (x := nI 5) (off := 314) (tgt := 320) hx hb dL_act_6 (by decide) (by decide) rfl (by decide) ?_
      exact ac_run hl0 hE hKN hEX hZX hA htab hI hPI hk9 hP hD hS hl
    · refine lv_tableIn (x := nI 6) (off := 386) (tgt := 392) hx hb dL_act_6 (by decide) (by decide) rfl (by decide) ?_
      exact ac_fill hl0 hE hKN hEX hZX hA htab hI hPI hk9 hP hD hS hl
    · refine lv_tableIn (x := nI 7) (off := 451) (tgt := 457) hx hb dL_act_6 (by decide) (by decide) rfl (by decide) ?_
      exact ac_groom hl0 hE hKN hEX hZX hA htab hI hPI hk9 hP hD hS hl
    · refine lv_tableIn (x := nI 8) (off := 594) (tgt := 600) hx hb dL_act_6 (by decide) (by decide) rfl (by decide) ?_
      exact ac_judge hl0 hE hKN hEX hZX hA htab hI hPI hk9 hP hD hS hl
