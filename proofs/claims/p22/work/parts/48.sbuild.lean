/-! SPEC of the beginning: hours, the fresh hills, calls of act -/
theorem ix1 : ix 1 = 1 := by decide
theorem hours_1 (wa da pa fl ru : fN) (tm : Nat) (σ : fN × fN × Int32) : hoursU wa da pa fl ru tm (ix 1) σ = hourU wa da pa fl ru (tm % 24) σ := by
  rw [ix1]
  rfl
theorem WB_work {pa fl cold : Int32} {σ : fN × fN × Int32} (h : WB σ.2.2) (hf : ¬ (fl < 1 ∨ 9 < fl)) : WB (workU pa fl cold σ).2.2 := by
  have key : ¬ σ.2.2 < fl → WB (σ.2.2 - fl) := fun c => by
    obtain ⟨q, hq, e⟩ := h
    obtain ⟨f, hf9, ef⟩ := flow_rng hf
    rw [e, ef] at c
    rw [e, ef]
    have h2 := mt (nI_ltI (a := q) (b := f) (by omega) (by omega)).mpr c
    rw [pk_sub (by omega)]
    exact ⟨q - f, by omega, rfl⟩
  unfold workU
  split
  · exact h
  · rename_i c
    split
    · exact key c
    · exact key c
theorem WB_pumps {pa fl ru : fN} {cold : Int32} {np : Nat} {σ : fN × fN × Int32} (h : WB σ.2.2) (hz : ∀ i, np ≤ i → ru i = 0) (hf : ∀ i, i < np → ¬ (fl i < 1 ∨ 9 < fl i)) : ∀ n, WB (pumpsU pa fl ru cold n σ).2.2 := by
  intro n
  induction n with
  | zero => exact h
  | succ n ih =>
    unfold pumpsU
    split
    · exact ih
    · rename_i c
      refine WB_work ih (hf n ?_)
      rcases Nat.lt_or_ge n np with q | q
      · exact q
      · exact absurd (hz n q) c
theorem LINV.pass {wa da gu pa fl sn ic ru st jr pt fa : fN} {tm np nj k : Nat} {wt : Int32} (h : LINV wa da gu pa fl sn ic ru st jr pt fa wt tm np nj k) : LINV wa da gu pa fl (hourU wa da pa fl ru (tm % 24) (sn, ic, wt)).1 (hourU wa da pa fl ru (tm % 24) (sn, ic, wt)).2.1 ru st jr pt fa (hourU wa da pa fl ru (tm % 24) (sn, ic, wt)).2.2 (tm + 1) np nj (k + 1) := by
  obtain ⟨⟨a1, a2, a3, a4, a5, a6, a7, a8, a9⟩, h2, h3, h4, h5, h6, h7, h8, h9, h10, h11⟩ := h
  refine ⟨⟨a1, a2, a3, a4, a5, a6, ?_, ?_, a9⟩, h2, h3, h4, by omega, h6, h7, h8, h9, h10, ?_⟩
  · exact SR_air (SR_pumps (σ := (sn, ic, wt)) a7 a6 a4 (wet_rng (a1 _) (a2 _)) 5) (a1 _)
  · exact IR_air (IR_pumps (σ := (sn, ic, wt)) a8 5)
  · unfold hourU
    rw [← air_3]
    exact WB_pumps (σ := (sn, ic, wt)) h11 a6 a4 5
theorem fill_0 {x : Nat} (h : x ≤ 9999) : mnI (0 + nI x) 9999 = nI x := by
  rw [Int32.zero_add]
  unfold mnI
  rw [if_neg (show ¬ (9999 : Int32) < nI x from nI_nlt (a := 9999) (b := x) h (by omega))]
theorem LINV_0 {wt : Int32} (hw : WB wt) : LINV (fun _ => -5) (fun _ => 50) (fun _ => 0) (fun _ => 0) (fun _ => 0) (fun _ => 0) (fun _ => 0) (fun _ => 0) nI (fun _ => 0) (fun _ => 0) (fun _ => 0) wt 0 0 0 0 :=
  ⟨⟨fun _ => (by decide : ¬ ((-5 : Int32) < -30 ∨ 20 < (-5 : Int32))), fun _ => (by decide : ¬ ((50 : Int32) < 0 ∨ 100 < (50 : Int32))), fun i h => absurd h (by omega), fun i h => absurd h (by omega), fun _ => Or.inl rfl, fun _ _ => rfl, fun i _ => ⟨0, by omega, rfl⟩, fun i _ => ⟨0, by omega, rfl⟩, by omega⟩, fun _ => (by decide : ¬ ((0 : Int32) < -9 ∨ 9 < (0 : Int32))), fun k hk => ⟨k, by omega, rfl⟩, by omega, by omega, fun _ _ => rfl, fun _ _ => rfl, fun i h => absurd h (by omega), fun i h => absurd h (by omega), fun _ => Or.inl rfl, hw⟩
theorem PINV_0 {L : List Nat} {N : Nat → Nat} {F : Nat → fN} {wr pr jw : Nat → Option Nat} {pa fl ru jr ln pt fa ho : fN} (h : WRn 24 L N F wr (fun _ => -5) (fun _ => 50) (fun _ => 0)) : PINV L N F wr pr jw (fun _ => -5) (fun _ => 50) (fun _ => 0) pa fl ru jr ln pt fa ho 0 0 :=
  ⟨h, fun k hk => absurd hk (by omega), fun k hk => absurd hk (by omega), fun i k hi => absurd hi (by omega), fun i j hi => absurd hi (by omega)⟩
section
variable {p : Program} {l : Launch} {e : Env} {R : Room} {s : State} {m : MethodId} {args : Array Value} {below : List Frame} {meth : Method} {c : Code} {H H0 : Heap} {locs : List Loc} {cells slots : Nat} {Q : State → Prop} {ls : Array Slot} {rest : List Value} {cc : ByteArray} {pc : Nat} {D : va_G} {Y : Nat → ClassId} {A : Nat → Prop}
variable {y : MethodName} {bytes : ByteArray} {maxL nL mc ms n index : Nat} {ret : Option FieldType} {rm : Room} {Ts wsY : List Cond} {own : String} {As : List Value} {ws : va_W} {st : List Value} {hh : List (Nat × Nat × Nat × Nat)}
/-- a static call that has the whole world, and leaves one that a predicate says -/
theorem gSX {E : Int32} {PW : (Nat → Prop) → Heap → Prop} (S : CallFix p m c cc nL s args Ts own) (hM : Met l y wsY rm (pcX D Y As H.size ws) (va_Qi (fun (r : Int32) (_ : Unit) => r = E) (fun _ t => PW (va_A ws H.size) t.heap) (va_A ws H.size)) mc ms (va_A ws H.size)) (cw : vx_CSW R s args own index y bytes maxL ret hh wsY rm mc ms n) (hKN : KN D Y s) (hEX : EX s) (hZX : ZX A s H0) (hP : va_P D vwCl ws H) (hD : va_D A ws) (hS : va_S A H0 H locs) (hA : ∀ q, H0.size ≤ q → A q)
    (hst : st = As.reverse ++ rest) (hln : As.length = n) (hsz : ls.size = nL) (hW : (rest.map fun v => v.category).sum ≤ 8) (hdg : decode cc pc = .ok (.invokestatic index, 3)) (hf : cells + mc ≤ R.cells ∧ slots + ms ≤ R.slots)
    (kk : ∀ (H1 : Heap) (locs1 : List Loc), PW (va_A ws H.size) H1 → (∀ w1, va_D (va_A ws H.size) w1 → va_D A w1) → va_S A H0 H1 locs1 → W p l e R s m args below meth c H1 locs1 (cells + mc) (slots + ms) Q (F0 m (pc + 3) ls (.int E :: rest))) : W p l e R s m args below meth c H locs cells slots Q (F0 m pc ls st) := by
  subst hst
  have hp : ws.Perm (ws ++ []) := by rw [List.append_nil]
  have hFc := va_freeG hD hS hA hp
  refine va_calli (vx_runSW (As := As) (rest := rest) S hM cw (pSXG hKN hEX hZX hP hD hS hA hp) rfl hln hsz rfl (lv_room hW) hdg hf) hS (fun q _ h => hFc q h) hFc (fun r u t H1 locs ht hvm hw hB hz1 hk1 hS => ?_)
  rw [ht] at hB
  subst hw
  exact kk H1 locs hB (fun w1 h => h.weaken (fun k q _ hq => hFc q.1 hq)) hS
end
