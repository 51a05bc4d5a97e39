/-! THE LAW'S LOOP -/
theorem lw_more {L k : Nat} (hL : L ≤ 2560) (hk : 5 * k ≤ L) (h : ¬ nI L - 5 < nI (5 * k)) : 5 * k + 5 ≤ L := by
  have h5 : (5 : Int32).toInt = 5 := by decide
  rw [i_lt, Int32.toInt_sub, nI_toInt (by omega), nI_toInt (by omega), h5, bm32 (by omega) (by omega)] at h
  omega
set_option maxHeartbeats 8000000 in
set_option maxRecDepth 100000 in
theorem law_loop {p : Program} {l : Launch} {e : Env} {s : State} {m : MethodId} {below : List Frame} {meth : Method} {c : Code} {A : Nat → Prop} {D : va_G} {Y : Nat → ClassId} {b L : Nat} {xs : Nat → Int32} {ad : Nat → Nat} (F0 : LF p l s m c s.heap A D Y b L xs) (hAs : ∀ q, A q → s.heap.size ≤ q) (hr : meth.sig.returnType = ret) (hlocks : meth.locks = false) : ∀ n k : Nat, 513 - k < n → 5 * k ≤ L → ∀ d0 : Drawn, s.drawn.sameBut d0 lw_cs → LK p l e (s.setDrawn d0) m below meth c (lw_Z below #[Value.ref b] s) s.heap A D Y b ad (5 * k) k 23 (41 + 12 * k) (710 + 130 * k) := by
  intro n
  induction n with
  | zero => intro k h; exact absurd h (Nat.not_lt_zero _)
  | succ n ih =>
    intro k hn hk d0 hd0
    obtain ⟨hl0, hx, hb, hml, hown, hts, hKN, hEX, hZX, hX, hbl, hbA, hA, hL⟩ := F0.drawn d0
    have hk9 : k ≤ 512 := by omega
    have K : ∀ d1 : Drawn, s.drawn.sameBut d1 lw_cs → 5 * k + 5 ≤ L → LK p l e (s.setDrawn d1) m below meth c (lw_Z below #[Value.ref b] s) s.heap A D Y b ad (5 * k) (k + 1) 1243 (41 + 12 * k + 12) (710 + 130 * k + 130) := by
      intro d1 hd1 h5 wa da gu pa fl sn ic ru st jr ln pt fa ho sq iq rq wt wb tb th tm np nj og H locs ls hI hP hD hS hl
      obtain ⟨hl0, hx, hb, hml, hown, hts, hKN, hEX, hZX, hX, hbl, hbA, hA, hL⟩ := F0.drawn d1
      refine lv_iinc (v := nI (5 * (k + 1))) (lv' := [(4, .int (nI (5 * (k + 1)))), (0, .ref b), (1, .ref (ad 0)), (2, .ref (ad 24)), (3, .ref (ad 40))]) hx hb dL_law_1243 hl (k := 4) rfl (by exact nI_add (5 * k) 5) (by decide) rfl (fun ls hl => ?_)
      refine lv_goto (tgt := 23) hx hb dL_law_1246 (by decide) ?_
      refine W.widen (k := 41 + 12 * (k + 1)) (n := 710 + 130 * (k + 1)) (by omega) (by omega) ?_
      exact ih (k + 1) (by omega) (by omega) d1 hd1 wa da gu pa fl sn ic ru st jr ln pt fa ho sq iq rq wt wb tb th tm np nj og H locs ls hI hP hD hS (lv_sub hl [1, 2, 3, 4, 0] rfl)
    intro wa da gu pa fl sn ic ru st jr ln pt fa ho sq iq rq wt wb tb th tm np nj og H locs ls hI hP hD hS hl
    refine lv_iload hx hb dL_law_23 (lv_at hl 4 rfl) ?_
    refine lv_aload_n hx hb dL_law_25 rfl (lv_at hl 0 rfl) ?_
    refine va_slen hx hb hX hbl hbA hS dL_law_26 ?_
    refine lv_eqi (y := nI L) rfl ?_
    refine lv_iconst (v := (5 : Int32)) hx hb dL_law_27 (by decide) ?_
    refine lv_isub hx hb dL_law_28 ?_
    refine lv_icmp_gt (tgt := 1249) hx hb dL_law_29 (by decide) (fun c_29 => ?_) (fun c_29 => ?_)
    · refine lv_iconst (v := (1 : Int32)) hx hb dL_law_1249 (by decide) ?_
      refine va_forget (fun q hq => hAs _ (hS.2.2 q hq)) ?_
      refine W.widen (k := 601024) (n := 7293034) (by omega) (by omega) ?_
      exact lw_ret hd0 hx hb hr hlocks dL_law_1250
    · have h5 : 5 * k + 5 ≤ L := lw_more hL hk c_29
      refine lv_aload_n hx hb dL_law_32 rfl (lv_at hl 0 rfl) ?_
      refine lv_iload hx hb dL_law_33 (lv_at hl 4 rfl) ?_
      refine sl hx hb hX hbl hbA hS (5 * k) rfl (by omega) (by omega) dL_law_35 ?_
      refine lv_bipush (v := (31 : Int32)) hx hb dL_law_36 (by decide) ?_
      refine lv_iand hx hb dL_law_38 ?_
      obtain ⟨j, hj, ej⟩ := pk_andE (xs (5 * k)) (m := (31 : Int32)) 5 (by decide)
      refine lv_eqi ej ?_
      have hj : j < 32 := hj
      by_cases h19 : 19 ≤ j
      · refine lv_tableOut (x := nI j) (tgt := 1243) hx hb dL_law_39 (Or.inr (by rw [nI_toInt (by omega)]; omega)) (by decide) ?_
        refine W.widen (k := 41 + 12 * k + 12) (n := 710 + 130 * k + 130) (by omega) (by omega) ?_
        exact K d0 hd0 h5 wa da gu pa fl sn ic ru st jr ln pt fa ho sq iq rq wt wb tb th tm np nj og H locs ls hI.next hP hD hS hl
      · rcases (show j = 0 ∨ j = 1 ∨ j = 2 ∨ j = 3 ∨ j = 4 ∨ j = 5 ∨ j = 6 ∨ j = 7 ∨ j = 8 ∨ j = 9 ∨ j = 10 ∨ j = 11 ∨ j = 12 ∨ j = 13 ∨ j = 14 ∨ j = 15 ∨ j = 16 ∨ j = 17 ∨ j = 18 by omega) with rfl | rfl | rfl | rfl | rfl | rfl | rfl | rfl | rfl | rfl | rfl | rfl | rfl | rfl | rfl | rfl | rfl | rfl | rfl
        · refine lv_tableIn (x := nI 0) (off := 89) (tgt := 128) hx hb dL_law_39 (by decide) (by decide) rfl (by decide) ?_
          exact lc_setWeather (F0.drawn d0) h5 (by omega) (by omega) (K d0 hd0 h5) wa da gu pa fl sn ic ru st jr ln pt fa ho sq iq rq wt wb tb th tm np nj og H locs ls hI hP hD hS hl
        · refine lv_tableIn (x := nI 1) (off := 181) (tgt := 220) hx hb dL_law_39 (by decide) (by decide) rfl (by decide) ?_
          exact lc_pump (F0.drawn d0) h5 (by omega) (by omega) (K d0 hd0 h5) wa da gu pa fl sn ic ru st jr ln pt fa ho sq iq rq wt wb tb th tm np nj og H locs ls hI hP hD hS hl
        · refine lv_tableIn (x := nI 2) (off := 249) (tgt := 288) hx hb dL_law_39 (by decide) (by decide) rfl (by decide) ?_
          exact lc_run (F0.drawn d0) h5 (by omega) (by omega) (K d0 hd0 h5) wa da gu pa fl sn ic ru st jr ln pt fa ho sq iq rq wt wb tb th tm np nj og H locs ls hI hP hD hS hl
        · refine lv_tableIn (x := nI 3) (off := 312) (tgt := 351) hx hb dL_law_39 (by decide) (by decide) rfl (by decide) ?_
          exact lc_fill (F0.drawn d0) h5 (by omega) (by omega) (K d0 hd0 h5) wa da gu pa fl sn ic ru st jr ln pt fa ho sq iq rq wt wb tb th tm np nj og H locs ls hI hP hD hS hl
        · refine lv_tableIn (x := nI 4) (off := 368) (tgt := 407) hx hb dL_law_39 (by decide) (by decide) rfl (by decide) ?_
          exact lc_groom (F0.drawn d0) h5 (by omega) (by omega) (K d0 hd0 h5) wa da gu pa fl sn ic ru st jr ln pt fa ho sq iq rq wt wb tb th tm np nj og H locs ls hI hP hD hS hl
        · refine lv_tableIn (x := nI 5) (off := 436) (tgt := 475) hx hb dL_law_39 (by decide) (by decide) rfl (by decide) ?_
          exact lc_judge (F0.drawn d0) h5 (by omega) (by omega) (K d0 hd0 h5) wa da gu pa fl sn ic ru st jr ln pt fa ho sq iq rq wt wb tb th tm np nj og H locs ls hI hP hD hS hl
        · refine lv_tableIn (x := nI 6) (off := 504) (tgt := 543) hx hb dL_law_39 (by decide) (by decide) rfl (by decide) ?_
          exact lc_jump (F0.drawn d0) h5 (by omega) (by omega) (K d0 hd0 h5) wa da gu pa fl sn ic ru st jr ln pt fa ho sq iq rq wt wb tb th tm np nj og H locs ls hI hP hD hS hl
        · refine lv_tableIn (x := nI 7) (off := 584) (tgt := 623) hx hb dL_law_39 (by decide) (by decide) rfl (by decide) ?_
          exact lc_told (F0.drawn d0) h5 (by omega) (by omega) (K d0 hd0 h5) wa da gu pa fl sn ic ru st jr ln pt fa ho sq iq rq wt wb tb th tm np nj og H locs ls hI hP hD hS hl
        · refine lv_tableIn (x := nI 8) (off := 652) (tgt := 691) hx hb dL_law_39 (by decide) (by decide) rfl (by decide) ?_
          exact lc_score (F0.drawn d0) h5 (by omega) (by omega) (K d0 hd0 h5) wa da gu pa fl sn ic ru st jr ln pt fa ho sq iq rq wt wb tb th tm np nj og H locs ls hI hP hD hS hl
        · refine lv_tableIn (x := nI 9) (off := 708) (tgt := 747) hx hb dL_law_39 (by decide) (by decide) rfl (by decide) ?_
          exact lc_leader (F0.drawn d0) h5 (by omega) (by omega) (K d0 hd0 h5) wa da gu pa fl sn ic ru st jr ln pt fa ho sq iq rq wt wb tb th tm np nj og H locs ls hI hP hD hS hl
        · refine lv_tableIn (x := nI 10) (off := 721) (tgt := 760) hx hb dL_law_39 (by decide) (by decide) rfl (by decide) ?_
          exact lc_part (F0.drawn d0) h5 (by omega) (by omega) (K d0 hd0 h5) wa da gu pa fl sn ic ru st jr ln pt fa ho sq iq rq wt wb tb th tm np nj og H locs ls hI hP hD hS hl
        · refine lv_tableIn (x := nI 11) (off := 789) (tgt := 828) hx hb dL_law_39 (by decide) (by decide) rfl (by decide) ?_
          exact lc_count (F0.drawn d0) h5 (by omega) (by omega) (K d0 hd0 h5) wa da gu pa fl sn ic ru st jr ln pt fa ho sq iq rq wt wb tb th tm np nj og H locs ls hI hP hD hS hl
        · refine lv_tableIn (x := nI 12) (off := 845) (tgt := 884) hx hb dL_law_39 (by decide) (by decide) rfl (by decide) ?_
          exact lc_pass (F0.drawn d0) h5 (by omega) (by omega) (K d0 hd0 h5) wa da gu pa fl sn ic ru st jr ln pt fa ho sq iq rq wt wb tb th tm np nj og H locs ls hI hP hD hS hl
        · refine lv_tableIn (x := nI 13) (off := 901) (tgt := 940) hx hb dL_law_39 (by decide) (by decide) rfl (by decide) ?_
          exact lc_enough (F0.drawn d0) h5 (by omega) (by omega) (K d0 hd0 h5) wa da gu pa fl sn ic ru st jr ln pt fa ho sq iq rq wt wb tb th tm np nj og H locs ls hI hP hD hS hl
        · refine lv_tableIn (x := nI 14) (off := 969) (tgt := 1008) hx hb dL_law_39 (by decide) (by decide) rfl (by decide) ?_
          exact lc_foresee (F0.drawn d0) h5 (by omega) (by omega) (K d0 hd0 h5) wa da gu pa fl sn ic ru st jr ln pt fa ho sq iq rq wt wb tb th tm np nj og H locs ls hI hP hD hS hl
        · refine lv_tableIn (x := nI 15) (off := 1037) (tgt := 1076) hx hb dL_law_39 (by decide) (by decide) rfl (by decide) ?_
          exact lc_gate (F0.drawn d0) h5 (by omega) (by omega) (K d0 hd0 h5) wa da gu pa fl sn ic ru st jr ln pt fa ho sq iq rq wt wb tb th tm np nj og H locs ls hI hP hD hS hl
        · refine lv_tableIn (x := nI 16) (off := 1093) (tgt := 1132) hx hb dL_law_39 (by decide) (by decide) rfl (by decide) ?_
          exact lc_advise (F0.drawn d0) h5 (by omega) (by omega) (K d0 hd0 h5) wa da gu pa fl sn ic ru st jr ln pt fa ho sq iq rq wt wb tb th tm np nj og H locs ls hI hP hD hS hl
        · refine lv_tableIn (x := nI 17) (off := 1149) (tgt := 1188) hx hb dL_law_39 (by decide) (by decide) rfl (by decide) ?_
          exact lc_mean hd0 F0 h5 (by omega) (by omega) (fun d1 hd1 => K d1 hd1 h5) wa da gu pa fl sn ic ru st jr ln pt fa ho sq iq rq wt wb tb th tm np nj og H locs ls hI hP hD hS hl
        · refine lv_tableIn (x := nI 18) (off := 1190) (tgt := 1229) hx hb dL_law_39 (by decide) (by decide) rfl (by decide) ?_
          exact lc_digest (F0.drawn d0) h5 (by omega) (by omega) (K d0 hd0 h5) wa da gu pa fl sn ic ru st jr ln pt fa ho sq iq rq wt wb tb th tm np nj og H locs ls hI hP hD hS hl
