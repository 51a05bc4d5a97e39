set_option maxHeartbeats 8000000 in
set_option maxRecDepth 100000 in
theorem whole_start {p : Program} {e : Env} {s : State} {m : MethodId} {below : List Frame} {meth : Method} {c : Code} (l : Launch) (hflags : l.flags = flags0) {b L : Nat} {xs : Nat → Int32} (hL : L ≤ 260) (C0 : lw_At p s m meth c b L xs) : W p l e room_1 s m #[Value.ref b] below meth c s.heap [] 0 0 (lw_Z below #[Value.ref b] s) (entryFrame m ([Value.ref b] : List Value).toArray 29) := by
  obtain ⟨hx, hb, hr, hml, hown, hts0, hX, hbl, hlocks, hgv⟩ := id C0
  have hl0 : l.stackTraces = false := by
    show (!l.flags.contains noTraceFlag) = false
    rw [hflags]
    decide +kernel
  obtain ⟨D, Y, hKN⟩ := st_KN hts0
  have hLF : LF p l s m #[Value.ref b] meth c (fun q : Nat => s.heap.size ≤ q) D Y b L xs := ⟨hl0, hx, hb, hr, hml, hown, fun w hw => hts0 w (wsL_law_in w hw), hlocks, hKN, ⟨st_EX1 hts0, st_EX2 hts0 hgv, st_EX3 hgv⟩, st_ZX hts0 hgv, fun _ h9 => h9, hX, hbl, Nat.not_le.mpr hbl, hL⟩
  have hS : va_S (fun q : Nat => s.heap.size ≤ q) s.heap s.heap [] := va_S.rf
  obtain ⟨hl0, hx, hb, hr, hml, hown, hts, hlk, hKN, hEX, hZX, hA, hX, hbl, hbA, hLs⟩ := id hLF
  have hP : va_P D vwCl [] s.heap := fun k q h => by simp at h
  have hD : va_D (fun q : Nat => s.heap.size ≤ q) [] := ⟨fun i j p q h => by simp at h, fun k q h => by simp at h⟩
  have hl := lv_entry ([.ref b]) (n := 29) (Nat.le_of_ble_eq_true rfl)
  rw [lg_entry_eq]
  generalize (lg_sl ([.ref b]) ++ List.replicate (29 - (lg_sl ([.ref b])).length) Slot.unset).toArray = ls at hl ⊢
  have hl : lv_has ls 29 [(0, .ref b)] := hl
  have hi5 := inlX5
  refine va_new (ci := 5) (fs := [.null, .null, .null, .null, .null, .null]) (C := RX5) (T := TX5) (N := 6) hx hb hts hi5 tyX5 tyX5_ok hown (hts (.classLink RL 26 RX5) (by decide +kernel)) (hts (.instantiable RX5 6) (by decide +kernel)) (hts (.initialized RX5) (by decide +kernel)) hKN.1 hP hD hS hA rfl (fun j hj => by rcases (show j = 0 ∨ j = 1 ∨ j = 2 ∨ j = 3 ∨ j = 4 ∨ j = 5 by omega) with rfl | rfl | rfl | rfl | rfl | rfl <;> rfl) (by exact Nat.le_of_ble_eq_true rfl) (by exact Nat.le_of_ble_eq_true rfl) dL_law_0 (fun x H hP hD hS => ?_)
  have hP : va_P D vwCl [(x, .inr (5, [.null, .null, .null, .null, .null, .null]))] _ := hP
  have hD : va_D (fun q : Nat => s.heap.size ≤ q) [(x, .inr (5, [.null, .null, .null, .null, .null, .null]))] := hD
  refine lv_dup hx hb dL_law_3 rfl ?_
  refine cIa (As := []) (rest := [.ref x]) ⟨hx, hb, hml, hown, hts⟩ (kX5_init l D Y _ x ) (cwI 0 hts gL_law_X5_init rfl rfl rfl (hts (.initialized RX5) (by decide +kernel)) (hts (.methodLink RL 103 yX5_init) (by decide +kernel)) (hts (.instanceMethod yX5_init) (by decide +kernel)) rfl (by decide +kernel) ⟨Nat.le_of_ble_eq_true rfl, Nat.le_of_ble_eq_true rfl⟩) hKN hP hD hS hA [0] [] rfl (by decide) rfl rfl rfl hl.1 (Nat.le_of_ble_eq_true rfl) dL_law_4 ⟨Nat.le_of_ble_eq_true rfl, Nat.le_of_ble_eq_true rfl⟩ (fun z_1 H locs hP hD hS => ?_)
  have hP : va_P D vwCl [(x, .inr (5, [.ref (z_1 0), .ref (z_1 4), .ref (z_1 7), .ref (z_1 11), .ref (z_1 15), .ref (z_1 17)])), ((z_1 0), .inr (4, [.ref (z_1 1), .ref (z_1 2), .ref (z_1 3)])), ((z_1 1), .inl (Y 0, 24, .inl (fun _ => -5))), ((z_1 2), .inl (Y 0, 24, .inl (fun _ => 50))), ((z_1 3), .inl (Y 0, 24, .inl (fun _ => 0))), ((z_1 4), .inr (3, [.ref (z_1 5), .ref (z_1 6), .int (0 : Int32)])), ((z_1 5), .inl (Y 0, 5, .inl (fun _ => 0))), ((z_1 6), .inl (Y 0, 5, .inl (fun _ => 0))), ((z_1 7), .inr (0, [.ref (z_1 0), .ref (z_1 4), .ref (z_1 8), .ref (z_1 9), .ref (z_1 10), .int (0 : Int32), .int (0 : Int32)])), ((z_1 8), .inl (Y 0, 20, .inl (fun _ => 0))), ((z_1 9), .inl (Y 0, 20, .inl (fun _ => 0))), ((z_1 10), .inl (Y 1, 5, .inl (fun _ => 0))), ((z_1 11), .inr (0, [.ref (z_1 0), .ref (z_1 4), .ref (z_1 12), .ref (z_1 13), .ref (z_1 14), .int (0 : Int32), .int (0 : Int32)])), ((z_1 12), .inl (Y 0, 20, .inl (fun _ => 0))), ((z_1 13), .inl (Y 0, 20, .inl (fun _ => 0))), ((z_1 14), .inl (Y 1, 5, .inl (fun _ => 0))), ((z_1 15), .inr (2, [.ref (z_1 16)])), ((z_1 16), .inl (Y 0, 5, .inl nI)), ((z_1 17), .inr (1, [.ref (z_1 18), .ref (z_1 19), .ref (z_1 20), .ref (z_1 21), .ref (z_1 22), .int (0 : Int32)])), ((z_1 18), .inl (Y 0, 30, .inl (fun _ => 0))), ((z_1 19), .inl (Y 0, 30, .inl (fun _ => 0))), ((z_1 20), .inl (Y 0, 30, .inl (fun _ => 0))), ((z_1 21), .inl (Y 0, 30, .inl (fun _ => 0))), ((z_1 22), .inl (Y 0, 30, .inl (fun _ => 0)))] _ := hP
  have hD : va_D (fun q : Nat => s.heap.size ≤ q) [(x, .inr (5, [.ref (z_1 0), .ref (z_1 4), .ref (z_1 7), .ref (z_1 11), .ref (z_1 15), .ref (z_1 17)])), ((z_1 0), .inr (4, [.ref (z_1 1), .ref (z_1 2), .ref (z_1 3)])), ((z_1 1), .inl (Y 0, 24, .inl (fun _ => -5))), ((z_1 2), .inl (Y 0, 24, .inl (fun _ => 50))), ((z_1 3), .inl (Y 0, 24, .inl (fun _ => 0))), ((z_1 4), .inr (3, [.ref (z_1 5), .ref (z_1 6), .int (0 : Int32)])), ((z_1 5), .inl (Y 0, 5, .inl (fun _ => 0))), ((z_1 6), .inl (Y 0, 5, .inl (fun _ => 0))), ((z_1 7), .inr (0, [.ref (z_1 0), .ref (z_1 4), .ref (z_1 8), .ref (z_1 9), .ref (z_1 10), .int (0 : Int32), .int (0 : Int32)])), ((z_1 8), .inl (Y 0, 20, .inl (fun _ => 0))), ((z_1 9), .inl (Y 0, 20, .inl (fun _ => 0))), ((z_1 10), .inl (Y 1, 5, .inl (fun _ => 0))), ((z_1 11), .inr (0, [.ref (z_1 0), .ref (z_1 4), .ref (z_1 12), .ref (z_1 13), .ref (z_1 14), .int (0 : Int32), .int (0 : Int32)])), ((z_1 12), .inl (Y 0, 20, .inl (fun _ => 0))), ((z_1 13), .inl (Y 0, 20, .inl (fun _ => 0))), ((z_1 14), .inl (Y 1, 5, .inl (fun _ => 0))), ((z_1 15), .inr (2, [.ref (z_1 16)])), ((z_1 16), .inl (Y 0, 5, .inl nI)), ((z_1 17), .inr (1, [.ref (z_1 18), .ref (z_1 19), .ref (z_1 20), .ref (z_1 21), .ref (z_1 22), .int (0 : Int32)])), ((z_1 18), .inl (Y 0, 30, .inl (fun _ => 0))), ((z_1 19), .inl (Y 0, 30, .inl (fun _ => 0))), ((z_1 20), .inl (Y 0, 30, .inl (fun _ => 0))), ((z_1 21), .inl (Y 0, 30, .inl (fun _ => 0))), ((z_1 22), .inl (Y 0, 30, .inl (fun _ => 0)))] := hD
  generalize z_1 0 = w at hP hD
  generalize z_1 1 = w1 at hP hD
  generalize z_1 2 = w2 at hP hD
  generalize z_1 3 = w3 at hP hD
  generalize z_1 4 = pu at hP hD
  generalize z_1 5 = p1 at hP hD
  generalize z_1 6 = p2 at hP hD
  generalize z_1 7 = h at hP hD
  generalize z_1 8 = h1 at hP hD
  generalize z_1 9 = h2 at hP hD
  generalize z_1 10 = h3 at hP hD
  generalize z_1 11 = a at hP hD
  generalize z_1 12 = a1 at hP hD
  generalize z_1 13 = a2 at hP hD
  generalize z_1 14 = a3 at hP hD
  generalize z_1 15 = j at hP hD
  generalize z_1 16 = j1 at hP hD
  generalize z_1 17 = u at hP hD
  generalize z_1 18 = u1 at hP hD
  generalize z_1 19 = u2 at hP hD
  generalize z_1 20 = u3 at hP hD
  generalize z_1 21 = u4 at hP hD
  generalize z_1 22 = u5 at hP hD
  have hP : va_P D vwCl [(x, .inr (5, [.ref w, .ref pu, .ref h, .ref a, .ref j, .ref u])), (w, .inr (4, [.ref w1, .ref w2, .ref w3])), (w1, .inl (Y 0, 24, .inl (fun _ => -5))), (w2, .inl (Y 0, 24, .inl (fun _ => 50))), (w3, .inl (Y 0, 24, .inl (fun _ => 0))), (pu, .inr (3, [.ref p1, .ref p2, .int (0 : Int32)])), (p1, .inl (Y 0, 5, .inl (fun _ => 0))), (p2, .inl (Y 0, 5, .inl (fun _ => 0))), (h, .inr (0, [.ref w, .ref pu, .ref h1, .ref h2, .ref h3, .int (0 : Int32), .int (0 : Int32)])), (h1, .inl (Y 0, 20, .inl (fun _ => 0))), (h2, .inl (Y 0, 20, .inl (fun _ => 0))), (h3, .inl (Y 1, 5, .inl (fun _ => 0))), (a, .inr (0, [.ref w, .ref pu, .ref a1, .ref a2, .ref a3, .int (0 : Int32), .int (0 : Int32)])), (a1, .inl (Y 0, 20, .inl (fun _ => 0))), (a2, .inl (Y 0, 20, .inl (fun _ => 0))), (a3, .inl (Y 1, 5, .inl (fun _ => 0))), (j, .inr (2, [.ref j1])), (j1, .inl (Y 0, 5, .inl nI)), (u, .inr (1, [.ref u1, .ref u2, .ref u3, .ref u4, .ref u5, .int (0 : Int32)])), (u1, .inl (Y 0, 30, .inl (fun _ => 0))), (u2, .inl (Y 0, 30, .inl (fun _ => 0))), (u3, .inl (Y 0, 30, .inl (fun _ => 0))), (u4, .inl (Y 0, 30, .inl (fun _ => 0))), (u5, .inl (Y 0, 30, .inl (fun _ => 0)))] _ := hP
  have hD : va_D (fun q : Nat => s.heap.size ≤ q) [(x, .inr (5, [.ref w, .ref pu, .ref h, .ref a, .ref j, .ref u])), (w, .inr (4, [.ref w1, .ref w2, .ref w3])), (w1, .inl (Y 0, 24, .inl (fun _ => -5))), (w2, .inl (Y 0, 24, .inl (fun _ => 50))), (w3, .inl (Y 0, 24, .inl (fun _ => 0))), (pu, .inr (3, [.ref p1, .ref p2, .int (0 : Int32)])), (p1, .inl (Y 0, 5, .inl (fun _ => 0))), (p2, .inl (Y 0, 5, .inl (fun _ => 0))), (h, .inr (0, [.ref w, .ref pu, .ref h1, .ref h2, .ref h3, .int (0 : Int32), .int (0 : Int32)])), (h1, .inl (Y 0, 20, .inl (fun _ => 0))), (h2, .inl (Y 0, 20, .inl (fun _ => 0))), (h3, .inl (Y 1, 5, .inl (fun _ => 0))), (a, .inr (0, [.ref w, .ref pu, .ref a1, .ref a2, .ref a3, .int (0 : Int32), .int (0 : Int32)])), (a1, .inl (Y 0, 20, .inl (fun _ => 0))), (a2, .inl (Y 0, 20, .inl (fun _ => 0))), (a3, .inl (Y 1, 5, .inl (fun _ => 0))), (j, .inr (2, [.ref j1])), (j1, .inl (Y 0, 5, .inl nI)), (u, .inr (1, [.ref u1, .ref u2, .ref u3, .ref u4, .ref u5, .int (0 : Int32)])), (u1, .inl (Y 0, 30, .inl (fun _ => 0))), (u2, .inl (Y 0, 30, .inl (fun _ => 0))), (u3, .inl (Y 0, 30, .inl (fun _ => 0))), (u4, .inl (Y 0, 30, .inl (fun _ => 0))), (u5, .inl (Y 0, 30, .inl (fun _ => 0)))] := hD
  exact law_built (ad := lkp [x, w, w1, w2, w3, pu, p1, p2, h, h1, h2, h3, a, a1, a2, a3, j, j1, u, u1, u2, u3, u4, u5]) hLF (fun q h9 => h9) hP hD hS hl
