/-! THE LAW: its loop, its start -/
section
variable {p : Program} {l : Launch} {e : Env} {R : Room} {s : State} {m : MethodId} {args : Array Value} {below : List Frame} {meth : Method} {c : Code} {H H0 : Heap} {locs : List Loc} {cells slots : Nat} {Q : State → Prop} {ls : Array Slot} {rest : List Value} {cc : ByteArray} {pc : Nat} {D : va_G} {Y : Nat → ClassId} {A : Nat → Prop} {y : MethodName} {bytes : ByteArray} {maxL nL mc ms index : Nat} {ret : Option FieldType} {rm : Room} {Ts wsY : List Cond} {own : String} {b Ls : Nat} {xs : Nat → Int32} {ad : Nat → Nat} {st : List Value}
/-- the call of build -/
theorem gSB (S : CallFix p m c cc nL s args Ts own) (hM : Met l y wsY rm (pcB D Y ad b Ls xs H.size) (va_Qr (fun (_ : Unit) => True) (fun _ a t => BLDP D Y ad (va_A (wp (CW Y ad (fun _ => -5) (fun _ => 50) (fun _ => 0) (fun _ => 0) (fun _ => 0) (fun _ => 0) (fun _ => 0) (fun _ => 0) nI (fun _ => 0) (fun _ => 0) (fun _ => 0) (fun _ => 0) (fun _ => 0) (fun _ => 0) (fun _ => 0) (fun _ => 0) (0 : Int32) (0 : Int32) (0 : Int32) (0 : Int32) (0 : Int32) (0 : Int32)) []) H.size) a t.heap) (va_A (wp (CW Y ad (fun _ => -5) (fun _ => 50) (fun _ => 0) (fun _ => 0) (fun _ => 0) (fun _ => 0) (fun _ => 0) (fun _ => 0) nI (fun _ => 0) (fun _ => 0) (fun _ => 0) (fun _ => 0) (fun _ => 0) (fun _ => 0) (fun _ => 0) (fun _ => 0) (0 : Int32) (0 : Int32) (0 : Int32) (0 : Int32) (0 : Int32) (0 : Int32)) []) H.size)) mc ms (va_A (wp (CW Y ad (fun _ => -5) (fun _ => 50) (fun _ => 0) (fun _ => 0) (fun _ => 0) (fun _ => 0) (fun _ => 0) (fun _ => 0) nI (fun _ => 0) (fun _ => 0) (fun _ => 0) (fun _ => 0) (fun _ => 0) (fun _ => 0) (fun _ => 0) (fun _ => 0) (0 : Int32) (0 : Int32) (0 : Int32) (0 : Int32) (0 : Int32) (0 : Int32)) []) H.size)) (cw : CallB R s args own index y bytes maxL ret wsY rm mc ms 2 ∧ (Cond.static y).before args s = true) (hKN : KN D Y s) (hEX : EX s) (hZX : ZX A s H0) (hX : va_X b Ls xs s H0) (hbl : b < H0.size) (hbA : ¬ A b) (hP : va_P D vwCl (wp (CW Y ad (fun _ => -5) (fun _ => 50) (fun _ => 0) (fun _ => 0) (fun _ => 0) (fun _ => 0) (fun _ => 0) (fun _ => 0) nI (fun _ => 0) (fun _ => 0) (fun _ => 0) (fun _ => 0) (fun _ => 0) (fun _ => 0) (fun _ => 0) (fun _ => 0) (0 : Int32) (0 : Int32) (0 : Int32) (0 : Int32) (0 : Int32) (0 : Int32)) []) H) (hD : va_D A (wp (CW Y ad (fun _ => -5) (fun _ => 50) (fun _ => 0) (fun _ => 0) (fun _ => 0) (fun _ => 0) (fun _ => 0) (fun _ => 0) nI (fun _ => 0) (fun _ => 0) (fun _ => 0) (fun _ => 0) (fun _ => 0) (fun _ => 0) (fun _ => 0) (fun _ => 0) (0 : Int32) (0 : Int32) (0 : Int32) (0 : Int32) (0 : Int32) (0 : Int32)) [])) (hS : va_S A H0 H locs) (hA : ∀ q, H0.size ≤ q → A q)
    (hst : st = .ref b :: .ref (ad 0) :: rest) (hsz : ls.size = nL) (hW : (rest.map fun v => v.category).sum ≤ 8) (hdg : decode cc pc = .ok (.invokestatic index, 3)) (hf : cells + mc ≤ R.cells ∧ slots + ms ≤ R.slots)
    (kk : ∀ (a : Nat) (H1 : Heap) (locs1 : List Loc), BLDP D Y ad (va_A (wp (CW Y ad (fun _ => -5) (fun _ => 50) (fun _ => 0) (fun _ => 0) (fun _ => 0) (fun _ => 0) (fun _ => 0) (fun _ => 0) nI (fun _ => 0) (fun _ => 0) (fun _ => 0) (fun _ => 0) (fun _ => 0) (fun _ => 0) (fun _ => 0) (fun _ => 0) (0 : Int32) (0 : Int32) (0 : Int32) (0 : Int32) (0 : Int32) (0 : Int32)) []) H.size) a H1 → (∀ w1, va_D (va_A (wp (CW Y ad (fun _ => -5) (fun _ => 50) (fun _ => 0) (fun _ => 0) (fun _ => 0) (fun _ => 0) (fun _ => 0) (fun _ => 0) nI (fun _ => 0) (fun _ => 0) (fun _ => 0) (fun _ => 0) (fun _ => 0) (fun _ => 0) (fun _ => 0) (fun _ => 0) (0 : Int32) (0 : Int32) (0 : Int32) (0 : Int32) (0 : Int32) (0 : Int32)) []) H.size) w1 → va_D A w1) → va_S A H0 H1 locs1 → W p l e R s m args below meth c H1 locs1 (cells + mc) (slots + ms) Q (F0 m (pc + 3) ls (.ref a :: rest))) : W p l e R s m args below meth c H locs cells slots Q (F0 m pc ls st) := by
  subst hst
  have hp : ((wp (CW Y ad (fun _ => -5) (fun _ => 50) (fun _ => 0) (fun _ => 0) (fun _ => 0) (fun _ => 0) (fun _ => 0) (fun _ => 0) nI (fun _ => 0) (fun _ => 0) (fun _ => 0) (fun _ => 0) (fun _ => 0) (fun _ => 0) (fun _ => 0) (fun _ => 0) (0 : Int32) (0 : Int32) (0 : Int32) (0 : Int32) (0 : Int32) (0 : Int32)) []) : va_W).Perm ((wp (CW Y ad (fun _ => -5) (fun _ => 50) (fun _ => 0) (fun _ => 0) (fun _ => 0) (fun _ => 0) (fun _ => 0) (fun _ => 0) nI (fun _ => 0) (fun _ => 0) (fun _ => 0) (fun _ => 0) (fun _ => 0) (fun _ => 0) (fun _ => 0) (fun _ => 0) (0 : Int32) (0 : Int32) (0 : Int32) (0 : Int32) (0 : Int32) (0 : Int32)) []) ++ []) := List.Perm.of_eq (List.append_nil _).symm
  have hFc := va_freeG hD hS hA hp
  have hX1 : va_X b Ls xs s H := hX.kept (hS.2.1 b hbl hbA)
  have hpre : PreS s H (pcB D Y ad b Ls xs H.size) [.ref (ad 0), .ref b] := by
    refine ⟨pcB_blind, fun U hU hW => ?_⟩
    obtain ⟨-, h2⟩ := pSG (Y := Y) (As := [.ref (ad 0), .ref b]) hKN hP hD hp
    obtain ⟨q0, q1, q2, q3, q4⟩ := h2 U hU hW
    refine ⟨q0, q1, q2, q3, q4, hEX.warm hW, ?_, ?_, ?_, fun h => hbA (hFc b h)⟩
    · rw [hU]
      exact ZX.moved hW.alike ((hZX.kept hS.2.1).narrow hFc)
    · rw [hU]; exact hX1.moved hW.alike
    · rw [hU]; exact Nat.lt_of_lt_of_le hbl hS.1
  refine va_callr (va_runS (As := [.ref (ad 0), .ref b]) (rest := rest) S hM cw hpre rfl rfl hsz rfl (lv_room hW) hdg hf) hS (fun q _ h => hFc q h) hFc (fun u ra t H1 locs ht hvm hw hB hz1 hk1 hS => ?_)
  rw [ht] at hB
  exact kk ra H1 locs hB (fun w1 h => h.weaken (fun k q _ hq => hFc q.1 hq)) hS
end
set_option maxHeartbeats 16000000 in
set_option maxRecDepth 100000 in
theorem law_loop {p : Program} {l : Launch} {e : Env} {s : State} {m : MethodId} {below : List Frame} {meth : Method} {c : Code} {A : Nat → Prop} {D : va_G} {Y : Nat → ClassId} {b Ls : Nat} {xs : Nat → Int32} {ad : Nat → Nat} {z z1 z2 z3 z4 z5 z6 : Nat} (hLF : LF p l s m #[Value.ref b] meth c A D Y b Ls xs) (hAs : ∀ q, A q → s.heap.size ≤ q) : ∀ n k : Nat, 51 - k < n → k ≤ 50 → LK22 p l e s m #[Value.ref b] below meth c (lw_Z below #[Value.ref b] s) A D Y ad z z1 z2 z3 z4 z5 z6 b k := by
  intro n
  induction n with
  | zero => intro k h; exact absurd h (Nat.not_lt_zero _)
  | succ n ih =>
    intro k hn hk wa da gu pa fl sn ic ru st jr ln pt fa ho sq iq rq wt wb tbI tm np nj L N F wr pr jw H locs ls hI hPI hP hD hS hl
    obtain ⟨hl0, hx, hb, hr, hml, hown, hts, hlk, hKN, hEX, hZX, hA, hX, hbl, hbA, hLs⟩ := id hLF
    refine lv_iload_n hx hb dL_law_22 rfl (lv_at hl 3 rfl) ?_
    refine lv_bipush (v := (50 : Int32)) hx hb dL_law_23 (by decide) ?_
    refine lv_icmp_ge (tgt := 1462) hx hb dL_law_25 (by decide) (fun c_25 => ?_) (fun c_25 => ?_)
    · refine lv_aload_n hx hb dL_law_1462 rfl (lv_at hl 2 rfl) ?_
      refine lv_aload_n hx hb dL_law_1463 rfl (lv_at hl 1 rfl) ?_
      refine gVi (As := [.ref (ad 0)]) (rest := []) (r := []) (ws' := (wp (CW Y ad wa da gu pa fl sn ic ru st jr ln pt fa ho sq iq rq wt wb (nI np) (nI tm) tbI (nI nj)) (wp [(z, .inr (6, [.int (nI tm), .int wt, .ref z1, .ref z2, .ref z3, .ref z4, .int (nI np), .ref z5, .ref z6, .int (nI nj)])), (z1, .inl (Y 0, 20, .inl sn)), (z2, .inl (Y 0, 20, .inl ic)), (z3, .inl (Y 2, 24, .inr (.inr (.inr (.inr wr))))), (z4, .inl (Y 2, 5, .inr (.inr (.inr (.inr pr))))), (z5, .inl (Y 0, 5, .inl st)), (z6, .inl (Y 2, 30, .inr (.inr (.inr (.inr jw)))))] (pl Y L N F)))) ⟨hx, hb, hml, hown, hts⟩ (kX6_isSame l D Y _ ad z z1 z2 z3 z4 z5 z6 _ _ _ _ _ _ _ _ _ _ _ _ _ _ _ _ _ _ _ _ _ _ _ _ _ _ _ _ _ _ hI hPI (by omega)) (cwV 1 hts gL_law_X6_isSame rfl rfl rfl (by decide +kernel) ⟨Nat.le_of_ble_eq_true rfl, Nat.le_of_ble_eq_true rfl⟩) hKN hP hD hS hA (List.Perm.of_eq (List.append_nil _).symm) (List.Perm.of_eq (List.append_nil _)) 24 6 rfl rfl rfl rfl hl.1 (Nat.le_of_ble_eq_true rfl) dL_law_1464 ⟨by show 115 + 6 * k + 51 ≤ 628943; omega, by show 846 + 64 * k + 1051 ≤ 7214794; omega⟩ (fun H locs hP hD hS => ?_)
      refine va_forget (fun q hq => hAs _ (hS.2.2 q hq)) ?_
      refine W.widen (k := 628943) (n := 7214794) (by omega) (by omega) ?_
      refine W.base ?_
      exact lw_ret (Drawn.sameBut.refl s.drawn lw_cs) hx hb hr hlk dL_law_1467
    · have hk50 : k < 50 := nge (N := 50) (by decide) (by omega) c_25
      exact lw_28 hLF hk50 (ih (k + 1) (by omega) (by omega)) hI hPI hP hD hS hl
set_option maxHeartbeats 16000000 in
set_option maxRecDepth 100000 in
/-- from where the hill is made -/
theorem law_built {p : Program} {l : Launch} {e : Env} {s : State} {m : MethodId} {below : List Frame} {meth : Method} {c : Code} {A : Nat → Prop} {D : va_G} {Y : Nat → ClassId} {b Ls : Nat} {xs : Nat → Int32} {ad : Nat → Nat} (hLF : LF p l s m #[Value.ref b] meth c A D Y b Ls xs) (hAs : ∀ q, A q → s.heap.size ≤ q) {H : Heap} {locs : List Loc} {ls : Array Slot} (hP : va_P D vwCl (wp (CW Y ad (fun _ => -5) (fun _ => 50) (fun _ => 0) (fun _ => 0) (fun _ => 0) (fun _ => 0) (fun _ => 0) (fun _ => 0) nI (fun _ => 0) (fun _ => 0) (fun _ => 0) (fun _ => 0) (fun _ => 0) (fun _ => 0) (fun _ => 0) (fun _ => 0) (0 : Int32) (0 : Int32) (0 : Int32) (0 : Int32) (0 : Int32) (0 : Int32)) []) H) (hD : va_D A (wp (CW Y ad (fun _ => -5) (fun _ => 50) (fun _ => 0) (fun _ => 0) (fun _ => 0) (fun _ => 0) (fun _ => 0) (fun _ => 0) nI (fun _ => 0) (fun _ => 0) (fun _ => 0) (fun _ => 0) (fun _ => 0) (fun _ => 0) (fun _ => 0) (fun _ => 0) (0 : Int32) (0 : Int32) (0 : Int32) (0 : Int32) (0 : Int32) (0 : Int32)) [])) (hS : va_S A s.heap H locs) (hl : lv_has ls 29 [(0, .ref b)]) : W p l e room_1 s m #[Value.ref b] below meth c H locs 24 360 (lw_Z below #[Value.ref b] s) (F0 m 7 ls [.ref (ad 0)]) := by
  obtain ⟨hl0, hx, hb, hr, hml, hown, hts, hlk, hKN, hEX, hZX, hA, hX, hbl, hbA, hLs⟩ := id hLF
  refine lv_astore_n (lv' := [(1, .ref (ad 0)), (0, .ref b)]) hx hb dL_law_7 rfl hl (by decide) rfl (fun ls hl => ?_)
  refine lv_aload_n hx hb dL_law_8 rfl (lv_at hl 0 rfl) ?_
  refine lv_aload_n hx hb dL_law_9 rfl (lv_at hl 1 rfl) ?_
  refine gSB (rest := []) ⟨hx, hb, hml, hown, hts⟩ (kL_build l hl0 D Y ad _ b Ls xs hLs) (va_cwS 2 hts gL_law_L_build rfl rfl rfl (by decide +kernel) ⟨Nat.le_of_ble_eq_true rfl, Nat.le_of_ble_eq_true rfl⟩) hKN hEX hZX hX hbl hbA hP hD hS hA rfl hl.1 (Nat.le_of_ble_eq_true rfl) dL_law_10 ⟨Nat.le_of_ble_eq_true rfl, Nat.le_of_ble_eq_true rfl⟩ (fun z H locs hB hF hS => ?_)
  obtain ⟨z1, z2, z3, z4, z5, z6, wa, da, gu, pa, fl, sn, ic, ru, st, jr, ln, pt, fa, ho, sq, iq, rq, wt, wb, tbI, tm, np, nj, L, N, F, wr, pr, jw, hI, hPI, hP, hD1⟩ := hB
  have hD := hF _ hD1
  refine lv_astore_n (lv' := [(2, .ref z), (1, .ref (ad 0)), (0, .ref b)]) hx hb dL_law_13 rfl hl (by decide) rfl (fun ls hl => ?_)
  refine lv_aload_n hx hb dL_law_14 rfl (lv_at hl 0 rfl) ?_
  refine lv_ifnonnull (tgt := 20) hx hb dL_law_15 (by decide) ?_
  refine lv_iconst (v := (0 : Int32)) hx hb dL_law_20 (by decide) ?_
  refine lv_istore_n (lv' := [(3, .int (0 : Int32)), (2, .ref z), (1, .ref (ad 0)), (0, .ref b)]) hx hb dL_law_21 rfl hl (by decide) rfl (fun ls hl => ?_)
  have hl : lv_has ls 29 [(0, .ref b), (1, .ref (ad 0)), (2, .ref z), (3, .int (nI 0))] := lv_sub hl [3, 2, 1, 0] rfl
  exact law_loop hLF hAs 52 0 (by omega) (by omega) wa da gu pa fl sn ic ru st jr ln pt fa ho sq iq rq wt wb tbI tm np nj L N F wr pr jw H locs ls hI hPI hP hD hS hl
