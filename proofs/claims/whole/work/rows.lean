section
-- ===== PART A: goes FIRST, ahead of the names: the tables' words, and 'selects' of the private methods out of them =====
/-- a private method of a class that the tables say can be made, by its rows of tables_1 -/
def lw_okq (q : MethodName × Nat) : Prop := (q.1.cls ≠ "java/lang/invoke/MethodHandle" ∧ q.1.cls ≠ "java/lang/invoke/VarHandle") ∧ Cond.instantiable q.1.cls q.2 ∈ tables_1 ∧ Cond.privateMethod q.1 ∈ tables_1 ∧ Cond.instanceMethod q.1 ∈ tables_1
theorem lw_p0 : lw_okq (⟨"SnowPumps", "tellCount", "(I)I"⟩, 6) := ⟨⟨by decide +kernel, by decide +kernel⟩, List.mem_of_getElem? (i := 18) (by decide +kernel), List.mem_of_getElem? (i := 189) (by decide +kernel), List.mem_of_getElem? (i := 190) (by decide +kernel)⟩
theorem lw_p1 : lw_okq (⟨"SnowPumps", "tellPart", "(II)I"⟩, 6) := ⟨⟨by decide +kernel, by decide +kernel⟩, List.mem_of_getElem? (i := 18) (by decide +kernel), List.mem_of_getElem? (i := 221) (by decide +kernel), List.mem_of_getElem? (i := 222) (by decide +kernel)⟩
theorem lw_p2 : lw_okq (⟨"SnowPumps", "addPumpsTo", "(J)J"⟩, 6) := ⟨⟨by decide +kernel, by decide +kernel⟩, List.mem_of_getElem? (i := 18) (by decide +kernel), List.mem_of_getElem? (i := 243) (by decide +kernel), List.mem_of_getElem? (i := 244) (by decide +kernel)⟩
theorem lw_p3 : lw_okq (⟨"java/lang/Throwable", "fillInStackTrace", "(I)Ljava/lang/Throwable;"⟩, 6) := ⟨⟨by decide +kernel, by decide +kernel⟩, List.mem_of_getElem? (i := 306) (by decide +kernel), List.mem_of_getElem? (i := 304) (by decide +kernel), List.mem_of_getElem? (i := 305) (by decide +kernel)⟩
theorem lw_p4 : lw_okq (⟨"SnowPumps", "snowWithPump", "(II)I"⟩, 6) := ⟨⟨by decide +kernel, by decide +kernel⟩, List.mem_of_getElem? (i := 18) (by decide +kernel), List.mem_of_getElem? (i := 566) (by decide +kernel), List.mem_of_getElem? (i := 567) (by decide +kernel)⟩
theorem lw_p5 : lw_okq (⟨"SnowPumpsModel", "no", "(I)I"⟩, 12) := ⟨⟨by decide +kernel, by decide +kernel⟩, List.mem_of_getElem? (i := 570) (by decide +kernel), List.mem_of_getElem? (i := 651) (by decide +kernel), List.mem_of_getElem? (i := 652) (by decide +kernel)⟩
theorem lw_p6 : lw_okq (⟨"SnowPumpsModel", "wet", "(I)I"⟩, 12) := ⟨⟨by decide +kernel, by decide +kernel⟩, List.mem_of_getElem? (i := 570) (by decide +kernel), List.mem_of_getElem? (i := 655) (by decide +kernel), List.mem_of_getElem? (i := 656) (by decide +kernel)⟩
theorem lw_p7 : lw_okq (⟨"SnowPumpsModel", "isPump", "(I)Z"⟩, 12) := ⟨⟨by decide +kernel, by decide +kernel⟩, List.mem_of_getElem? (i := 570) (by decide +kernel), List.mem_of_getElem? (i := 670) (by decide +kernel), List.mem_of_getElem? (i := 671) (by decide +kernel)⟩
theorem lw_p8 : lw_okq (⟨"SnowPumpsModel", "length", "(II)I"⟩, 12) := ⟨⟨by decide +kernel, by decide +kernel⟩, List.mem_of_getElem? (i := 570) (by decide +kernel), List.mem_of_getElem? (i := 691) (by decide +kernel), List.mem_of_getElem? (i := 692) (by decide +kernel)⟩
theorem lw_p9 : lw_okq (⟨"SnowPumpsModel", "gustNow", "()I"⟩, 12) := ⟨⟨by decide +kernel, by decide +kernel⟩, List.mem_of_getElem? (i := 570) (by decide +kernel), List.mem_of_getElem? (i := 695) (by decide +kernel), List.mem_of_getElem? (i := 696) (by decide +kernel)⟩
theorem lw_p10 : lw_okq (⟨"SnowPumpsModel", "scoreOf", "(I)I"⟩, 12) := ⟨⟨by decide +kernel, by decide +kernel⟩, List.mem_of_getElem? (i := 570) (by decide +kernel), List.mem_of_getElem? (i := 716) (by decide +kernel), List.mem_of_getElem? (i := 717) (by decide +kernel)⟩
theorem lw_p11 : lw_okq (⟨"SnowPumpsModel", "partTold", "(II)I"⟩, 12) := ⟨⟨by decide +kernel, by decide +kernel⟩, List.mem_of_getElem? (i := 570) (by decide +kernel), List.mem_of_getElem? (i := 728) (by decide +kernel), List.mem_of_getElem? (i := 729) (by decide +kernel)⟩
theorem lw_p12 : lw_okq (⟨"SnowPumpsModel", "counted", "(LSnowPumpsModel$State;I)I"⟩, 12) := ⟨⟨by decide +kernel, by decide +kernel⟩, List.mem_of_getElem? (i := 570) (by decide +kernel), List.mem_of_getElem? (i := 736) (by decide +kernel), List.mem_of_getElem? (i := 737) (by decide +kernel)⟩
theorem lw_p13 : lw_okq (⟨"SnowPumpsModel", "pass", "(LSnowPumpsModel$State;)V"⟩, 12) := ⟨⟨by decide +kernel, by decide +kernel⟩, List.mem_of_getElem? (i := 570) (by decide +kernel), List.mem_of_getElem? (i := 747) (by decide +kernel), List.mem_of_getElem? (i := 748) (by decide +kernel)⟩
theorem lw_p14 : lw_okq (⟨"SnowPumpsModel", "work", "(LSnowPumpsModel$State;II)V"⟩, 12) := ⟨⟨by decide +kernel, by decide +kernel⟩, List.mem_of_getElem? (i := 570) (by decide +kernel), List.mem_of_getElem? (i := 751) (by decide +kernel), List.mem_of_getElem? (i := 752) (by decide +kernel)⟩
theorem lw_p15 : lw_okq (⟨"SnowPumpsModel", "snowWith", "(II)I"⟩, 12) := ⟨⟨by decide +kernel, by decide +kernel⟩, List.mem_of_getElem? (i := 570) (by decide +kernel), List.mem_of_getElem? (i := 782) (by decide +kernel), List.mem_of_getElem? (i := 783) (by decide +kernel)⟩
def lw_privs_1 : List (MethodName × Nat) := [(⟨"SnowPumps", "tellCount", "(I)I"⟩, 6), (⟨"SnowPumps", "tellPart", "(II)I"⟩, 6), (⟨"SnowPumps", "addPumpsTo", "(J)J"⟩, 6), (⟨"java/lang/Throwable", "fillInStackTrace", "(I)Ljava/lang/Throwable;"⟩, 6), (⟨"SnowPumps", "snowWithPump", "(II)I"⟩, 6), (⟨"SnowPumpsModel", "no", "(I)I"⟩, 12), (⟨"SnowPumpsModel", "wet", "(I)I"⟩, 12), (⟨"SnowPumpsModel", "isPump", "(I)Z"⟩, 12), (⟨"SnowPumpsModel", "length", "(II)I"⟩, 12), (⟨"SnowPumpsModel", "gustNow", "()I"⟩, 12), (⟨"SnowPumpsModel", "scoreOf", "(I)I"⟩, 12), (⟨"SnowPumpsModel", "partTold", "(II)I"⟩, 12), (⟨"SnowPumpsModel", "counted", "(LSnowPumpsModel$State;I)I"⟩, 12), (⟨"SnowPumpsModel", "pass", "(LSnowPumpsModel$State;)V"⟩, 12), (⟨"SnowPumpsModel", "work", "(LSnowPumpsModel$State;II)V"⟩, 12), (⟨"SnowPumpsModel", "snowWith", "(II)I"⟩, 12)]
theorem lw_r1 : ∀ q ∈ lw_privs_1, lw_okq q := List.forall_mem_cons.mpr ⟨lw_p0, List.forall_mem_cons.mpr ⟨lw_p1, List.forall_mem_cons.mpr ⟨lw_p2, List.forall_mem_cons.mpr ⟨lw_p3, List.forall_mem_cons.mpr ⟨lw_p4, List.forall_mem_cons.mpr ⟨lw_p5, List.forall_mem_cons.mpr ⟨lw_p6, List.forall_mem_cons.mpr ⟨lw_p7, List.forall_mem_cons.mpr ⟨lw_p8, List.forall_mem_cons.mpr ⟨lw_p9, List.forall_mem_cons.mpr ⟨lw_p10, List.forall_mem_cons.mpr ⟨lw_p11, List.forall_mem_cons.mpr ⟨lw_p12, List.forall_mem_cons.mpr ⟨lw_p13, List.forall_mem_cons.mpr ⟨lw_p14, List.forall_mem_cons.mpr ⟨lw_p15, fun _ h => absurd h List.not_mem_nil⟩⟩⟩⟩⟩⟩⟩⟩⟩⟩⟩⟩⟩⟩⟩⟩
def lw_privs : List (MethodName × Nat) := lw_privs_1
def lw_tbl : List Cond := k2_sels lw_privs ++ tables_1
theorem lw_privs_ok : ∀ q ∈ lw_privs, lw_okq q := lw_r1
/-- the streams that the claim lets the run draw from -/
abbrev lw_cs : List Choice := [Jvm.Choice.named "NaN.bits"]
theorem lw_bits : nanBits ∈ lw_cs := by first | decide | exact List.mem_cons_self | simp [lw_cs, nanBits]
end
section
/-! ===== BEGIN words of one list among another's, by their places ===== -/
theorem goodIn_r {big : List Cond} (ws : List Cond) (ps : List Nat) (hp : ws = ps.filterMap (fun i => big[i]?)) (h : ws.all goodWord = true) : GoodIn big ws := by
  intro w hw
  have h1 := List.all_eq_true.mp h w hw
  rw [hp] at hw
  obtain ⟨i, -, hi⟩ := List.mem_filterMap.mp hw
  have hm : w ∈ big := by first | exact List.mem_of_getElem? hi | exact List.getElem?_mem hi
  exact ⟨hm, good_of_word h1⟩
theorem goodIn_app {big a b : List Cond} (ha : GoodIn big a) (hb : GoodIn big b) : GoodIn big (a ++ b) := fun w h => (List.mem_append.mp h).elim (ha w) (hb w)
theorem goodIn_ca {big a b : List Cond} {c : Cond} (ha : GoodIn big (c :: a)) (hb : GoodIn big b) : GoodIn big (c :: (a ++ b)) := fun w h => (List.mem_cons.mp h).elim (fun e => ha w (List.mem_cons.mpr (Or.inl e))) (fun h => (List.mem_append.mp h).elim (fun h => ha w (List.mem_cons.mpr (Or.inr h))) (hb w))
theorem goodIn_sub {big ws : List Cond} (hm : ∀ w ∈ ws, w ∈ big) (h : ws.all goodWord = true) : GoodIn big ws := fun w hw => ⟨hm w hw, good_of_word (List.all_eq_true.mp h w hw)⟩
/-! ===== END ===== -/

/-! ===== BEGIN exceptions that leave a method, and their catching by the caller (launches without stack traces) ===== -/
section VXA
/-! The laws vx_back, vx_callV, vx_callS, vx_callSW, vx_throw0, vx_throwS follow proofs of the library, with one case more: JvmDerived/Free/Laws.lean (Back.of_free), Shelf42/LK1.lean (callV, callS), Shelf/KitTraced.lean (throwNew0V, throwNewS). -/
/-- where a method has thrown q: the class by its name, the cell, what was written, the world -/
def vx_T (XC : String → State → State → Prop) (st : State) (q : Addr) (t : State) (mc ms : Nat) (free : Addr → Prop) : Prop :=
  ∃ (E : String) (ce : Cell) (L : List Loc), XC E st t ∧ t.heap[q]? = some ce ∧ ce.vm = .none ∧ st.vm.findClass E = some ce.cls ∧ st.WarmedH t.vm ∧ st.sameButNew ({ t with vm := st.vm } : State) L mc ms ∧ ∀ z ∈ L, free z.base
def vx_Q (Qc : Array Value → State → Outcome → State → Prop) (XC : String → State → State → Prop) (mc ms : Nat) (free : Addr → Prop) : Array Value → State → Outcome → State → Prop := fun a st o t =>
  (Qc a st o t ∧ ∃ L, FrameEnd st o t L mc ms ∧ ∀ q ∈ L, free q.base) ∨ ∃ q, o = .threw q ∧ vx_T XC st q t mc ms free
/-- a callee that returns or throws -/
def vx_Met (l : Launch) (y : MethodName) (ws : List Cond) (rm : Room) (Pc : Array Value → State → Prop) (Qc : Array Value → State → Outcome → State → Prop) (XC : String → State → State → Prop) (mc ms : Nat) (free : Addr → Prop) : Prop :=
  MetFree l y (headSpec ws rm) Pc (fun _ _ _ _ _ => True) (vx_Q Qc XC mc ms free)
def vx_Post (XC : String → State → State → Prop) (mc ms : Nat) (free : Addr → Prop) : Pt → Array Value → Addr → Pt → Prop := fun A a q B =>
  ∃ (g : JFrame) (mk : MethodId) (t : State) (L : List Loc) (E : String) (ce : Cell), B.U.heap = t.heap ∧ B.U.vm = t.vm ∧ XC E (A.U.calling g mk a) t ∧ t.heap[q]? = some ce ∧ ce.vm = .none ∧ A.U.vm.findClass E = some ce.cls ∧ B.locs = A.locs ++ L ∧ (∀ z ∈ L, free z.base) ∧ B.cells = A.cells + mc ∧ B.slots = A.slots + ms
def vx_Back (l : Launch) (R : Room) (p : Program) (e : Env) (below : List Frame) (s : State) (sargs : Array Value) (y : MethodName) (len W9 : Nat)
    (Pre : Pt → Array Value → Prop) (Post : Pt → Array Value → Option Value → Pt → Prop) (PostX : Pt → Array Value → Addr → Pt → Prop) : Prop :=
  ∀ (m : MethodId) (meth : Method) (c : Code) (A : Pt) (g : JFrame) (ig : Instr) (mk : MethodId) (a : Array Value),
    Stand p l e R s m sargs below meth c A.U A.locs A.cells A.slots → g.method = m → g.locals.size = c.maxLocals → decode c.code g.pc = .ok (ig, len) →
    2 * g.monitorRoom + (g.stack.map fun v => v.category).sum ≤ W9 → A.U.methodNamed? y = some mk → Pre A a →
    (∃ (v : Option Value) (B : Pt), Stand p l e R s m sargs below meth c B.U B.locs B.cells B.slots ∧ Post A a v B ∧
      Steps p.tables e below (doInvoke e (A.U.setTop g) [] mk a).1 (B.U.setTop { g with pc := g.pc + len, stack := v.toList ++ g.stack })) ∨
    (∃ (q : Addr) (B : Pt), Stand p l e R s m sargs below meth c B.U B.locs B.cells B.slots ∧ PostX A a q B ∧
      Steps p.tables e below (doInvoke e (A.U.setTop g) [] mk a).1 ((B.U.setTop g).pushFrame (.throwing q)))
section Payer
variable {l : Launch} {R : Room} {p : Program} {e : Env} {below : List Frame} {s : State} {sargs : Array Value} {y : MethodName} {len W9 : Nat}
theorem vx_back {ws : List Cond} {rm : Room} {Pc : Array Value → State → Prop} {Qc : Array Value → State → Outcome → State → Prop} {XC : String → State → State → Prop} {mc ms : Nat} {free : Addr → Prop} {bytes : ByteArray} {maxL : Nat} {ret : Option FieldType}
    (hM : vx_Met l y ws rm Pc Qc XC mc ms free) (hblind : FrameBlind Pc) (hrc : rm.cells = mc) (hrs : rm.slots = ms)
    (hframes : rm.frames + 1 ≤ R.frames) (hlocals : W9 + (maxL + 11) + rm.locals ≤ R.locals)
    (hws : ∀ w ∈ ws, ∀ a' U, s.WarmedH U.vm → w.before a' U = true) (hcode : Cond.code y bytes maxL ret ∈ ws) (hinit : ∀ a' U, s.WarmedH U.vm → (Cond.initialized y.cls).before a' U = true) :
    vx_Back l R p e below s sargs y len W9 (PreOf R mc ms Pc) (PostOf Qc mc ms free) (vx_Post XC mc ms free) := by
  intro m meth c A g ig mk a X hg hsize hdg hW hn hp
  have h1 : (headSpec ws rm).pre.before a A.U = true := atoms_intro fun w hw => hws w hw _ _ X.warmed
  have h2 : (Cond.code y bytes maxL ret).before a A.U = true := hws _ hcode _ _ X.warmed
  have h3 : (Cond.initialized y.cls).before a A.U = true := hinit _ _ X.warmed
  have h4 : A.cells + (headSpec ws rm).room.cells ≤ R.cells := by rw [show (headSpec ws rm).room.cells = mc from hrc]; exact hp.1
  have h5 : A.slots + (headSpec ws rm).room.slots ≤ R.slots := by rw [show (headSpec ws rm).room.slots = ms from hrs]; exact hp.2.1
  have hPc : Pc a (A.U.calling g mk a) := hblind _ _ _ _ hp.2.2
  obtain ⟨U, Ls, c0, s0⟩ := A
  dsimp only [Pt.U, Pt.locs, Pt.cells, Pt.slots] at h1 h2 h3 h4 h5 X hn hPc ⊢
  obtain ⟨methY, cY, hmY, hcY, -, hlY, -, -, -, -⟩ := Cond.code_spec hn h2
  obtain ⟨kY, hkY, -⟩ := className_of_methodNamed hn
  have hinitY : kY.init = .initialized := Cond.initialized_spec (findClass_of_methodNamed hn) hkY h3
  have h : At U g.method c below := by rw [hg]; exact X.here
  have hlocals9 : W9 + (maxL + 11) + (headSpec ws rm).room.locals ≤ R.locals := hlocals
  have happ : (headSpec ws rm).appliesLoose y e.platform (U.calling g mk a) = true :=
    Spec.appliesLoose_calling (g := g) h hdg hn hkY hinitY
      (X.room_calling (g := g) (R' := (headSpec ws rm).room) hsize hmY hcY hframes (by rw [hlY]; omega) h4 h5) h1
  obtain ⟨mid, hmid⟩ := h.above
  have hfr : (U.setTop g).frames = (.java g :: mid) ++ below := by rw [State.frames_setTop' g h.top, hmid]; rfl
  obtain ⟨o, s₂, hsteps, -, hend, hq⟩ := Steps.callFree hM p X.admits X.cas X.clock (acts := []) hfr happ hPc trivial
  have hq' : vx_Q Qc XC mc ms free a (U.calling g mk a) o s₂ := hq
  rw [State.frames_setTop' g h.top] at hend
  obtain ⟨g₀, hg0⟩ := Option.isSome_iff_exists.mp h.top
  obtain ⟨r, hr⟩ := State.topJava?_eq_some.mp hg0
  have hr' : (({ U with heap := s₂.heap, slotsUsed := s₂.slotsUsed } : State).setVm s₂.vm).frames = .java g₀ :: r := hr
  rcases hq' with ⟨hqc, L, hfe, hL⟩ | ⟨q, rfl, E, ce, L, hx, hce, hcv, hcl, hW₂, hsm, hL⟩
  · obtain ⟨⟨v, rfl⟩, hW₂, e2, q2, q3, q4, q5, q6⟩ := id hfe
    have e3 : s₂ = ({ (U.calling g mk a).setFrames s₂.frames with heap := s₂.heap, slotsUsed := s₂.slotsUsed } : State).setVm s₂.vm := by
      have : s₂ = ({ s₂ with vm := (U.calling g mk a).vm } : State).setVm s₂.vm := rfl
      rw [e2] at this
      exact this
    obtain ⟨c₂, i₂, len₂, hc₂, hd₂, hf₂⟩ := hend
    have hW' : U.WarmedH s₂.vm := hW₂
    have hcc : c₂ = c := by
      have h1 : s₂.code? g.method = U.code? g.method := by
        rw [State.code?_eq, State.code?_eq, hW'.alike.method?]
      exact Option.some.inj (hc₂.symm.trans (h1.trans h.code))
    subst hcc
    have hlen : len₂ = len := by rw [hdg] at hd₂; cases hd₂; rfl
    subst hlen
    have hs₂ : s₂ = (({ U with heap := s₂.heap, slotsUsed := s₂.slotsUsed } : State).setVm s₂.vm).setTop { g with pc := g.pc + len₂, stack := v.toList ++ g.stack } := by
      refine e3.trans ?_
      rw [hf₂, State.calling_eq h.top, State.setFrames_setFrames, State.setTop_of_frames _ hr', hr]
      rfl
    have hsame : U.sameButNew ({ U with heap := s₂.heap, slotsUsed := s₂.slotsUsed } : State) L mc ms := by
      refine ⟨?_, q2, q3, q4, q5, q6⟩
      obtain ⟨t, ht, -⟩ := State.frames_cons hr
      show ({ U with heap := s₂.heap, slotsUsed := s₂.slotsUsed } : State) = { U.setFrames U.frames with heap := s₂.heap, slotsUsed := s₂.slotsUsed }
      rw [State.setFrames_self ht]
    subst hg
    refine Or.inl ⟨v, ⟨(({ U with heap := s₂.heap, slotsUsed := s₂.slotsUsed } : State).setVm s₂.vm), Ls ++ L, c0 + mc, s0 + ms⟩,
      ⟨X.admits, X.cas, X.clock, X.frames, X.room, X.hears, X.method, X.code, (X.here.setHeapUsed s₂.heap s₂.slotsUsed).setVm hW'.alike, X.tail, State.WarmedH.trans X.warmed hW', X.limits, X.bytes, X.same.trans (hsame.setVm s.vm)⟩,
      ⟨g, mk, s₂, L, rfl, rfl, hqc, rfl, hL, rfl, rfl⟩, ?_⟩
    show Steps p.tables e below _ ((({ U with heap := s₂.heap, slotsUsed := s₂.slotsUsed } : State).setVm s₂.vm).setTop { g with pc := g.pc + len₂, stack := v.toList ++ g.stack })
    rw [← hs₂]
    exact hsteps
  · obtain ⟨e2, q2, q3, q4, q5, q6⟩ := id hsm
    have e3 : s₂ = ({ (U.calling g mk a).setFrames s₂.frames with heap := s₂.heap, slotsUsed := s₂.slotsUsed } : State).setVm s₂.vm := by
      have : s₂ = ({ s₂ with vm := (U.calling g mk a).vm } : State).setVm s₂.vm := rfl
      rw [e2] at this
      exact this
    have hf₂ : s₂.frames = .throwing q :: .java g :: U.frames.tail := hend
    have hW' : U.WarmedH s₂.vm := hW₂
    have hs₂ : s₂ = ((({ U with heap := s₂.heap, slotsUsed := s₂.slotsUsed } : State).setVm s₂.vm).setTop g).pushFrame (.throwing q) := by
      refine e3.trans ?_
      rw [hf₂, State.calling_eq h.top, State.setFrames_setFrames, State.pushFrame, State.frames_setTop _ hr', State.setTop_of_frames _ hr', State.setFrames_setFrames, hr]
      rfl
    have hsame : U.sameButNew ({ U with heap := s₂.heap, slotsUsed := s₂.slotsUsed } : State) L mc ms := by
      refine ⟨?_, q2, q3, q4, q5, q6⟩
      obtain ⟨t, ht, -⟩ := State.frames_cons hr
      show ({ U with heap := s₂.heap, slotsUsed := s₂.slotsUsed } : State) = { U.setFrames U.frames with heap := s₂.heap, slotsUsed := s₂.slotsUsed }
      rw [State.setFrames_self ht]
    subst hg
    refine Or.inr ⟨q, ⟨(({ U with heap := s₂.heap, slotsUsed := s₂.slotsUsed } : State).setVm s₂.vm), Ls ++ L, c0 + mc, s0 + ms⟩,
      ⟨X.admits, X.cas, X.clock, X.frames, X.room, X.hears, X.method, X.code, (X.here.setHeapUsed s₂.heap s₂.slotsUsed).setVm hW'.alike, X.tail, State.WarmedH.trans X.warmed hW', X.limits, X.bytes, X.same.trans (hsame.setVm s.vm)⟩,
      ⟨g, mk, s₂, L, E, ce, rfl, rfl, hx, hce, hcv, hcl, rfl, hL, rfl, rfl⟩, ?_⟩
    show Steps p.tables e below _ (((({ U with heap := s₂.heap, slotsUsed := s₂.slotsUsed } : State).setVm s₂.vm).setTop g).pushFrame (.throwing q))
    rw [← hs₂]
    exact hsteps
end Payer
section Calls
variable {p : Program} {l : Launch} {e : Env} {R : Room} {s : State} {m : MethodId} {args : Array Value} {below : List Frame} {meth : Method} {c : Code} {T : State} {locs : List Loc} {cells slots : Nat}
theorem vx_callV (X : Stand p l e R s m args below meth c T locs cells slots) (hexec : p.tables.exec = Jvm.exec) {own C : String} {index : Nat} {y : MethodName} {bytes : ByteArray} {maxL : Nat} {ret : Option FieldType}
    (hown : s.vm.findClass own = some m.cls) (hlink : (Cond.methodLink own index y).before args s = true) (hinst : (Cond.instanceMethod y).before args s = true) (hsel : (Cond.selects C y y).before args s = true)
    (hcode : (Cond.code y bytes maxL ret).before args s = true) (hy : y.cls ≠ "java/lang/invoke/MethodHandle" ∧ y.cls ≠ "java/lang/invoke/VarHandle")
    {W9 : Nat} {Pre : Pt → Array Value → Prop} {Post : Pt → Array Value → Option Value → Pt → Prop} {PostX : Pt → Array Value → Addr → Pt → Prop} (hK : vx_Back l R p e below s args y 3 W9 Pre Post PostX)
    {b : Addr} {cellB : Cell} (hcell : T.heap[b]? = some cellB) (hobj : cellB.vm.isStatics = false) (hcls : s.vm.findClass C = some cellB.cls)
    {g : JFrame} (hg : g.method = m) (hsize : g.locals.size = c.maxLocals) {argsL rest : List Value} (hlen : ∀ sig, parseMethodDescriptor y.desc = some sig → argsL.length = sig.parameters.length)
    (hstack : g.stack = argsL.reverse ++ .ref b :: rest) (hW : 2 * g.monitorRoom + (rest.map fun v => v.category).sum ≤ W9) (hdg : decode c.code g.pc = .ok (.invokevirtual index, 3))
    (hpre : ∀ vm₁, s.WarmedH vm₁ → Pre ⟨T.setVm vm₁, locs, cells, slots⟩ (Value.ref b :: argsL).toArray) :
    (∃ (v : Option Value) (vm₁ : Vm) (B : Pt), s.WarmedH vm₁ ∧ Stand p l e R s m args below meth c B.U B.locs B.cells B.slots ∧ Post ⟨T.setVm vm₁, locs, cells, slots⟩ (Value.ref b :: argsL).toArray v B ∧
      ∀ target, Steps p.tables e below (B.U.setTop { g with pc := g.pc + 3, stack := v.toList ++ rest }) target → Steps p.tables e below (T.setTop g) target) ∨
    (∃ (q : Addr) (vm₁ : Vm) (B : Pt), s.WarmedH vm₁ ∧ Stand p l e R s m args below meth c B.U B.locs B.cells B.slots ∧ PostX ⟨T.setVm vm₁, locs, cells, slots⟩ (Value.ref b :: argsL).toArray q B ∧
      Steps p.tables e below (T.setTop g) ((B.U.setTop { g with stack := rest }).pushFrame (.throwing q))) := by
  obtain ⟨mk, methM, hnamed, hmethM, hstM, habM⟩ := Cond.instanceMethod_spec hinst
  obtain ⟨methM', cM, hmethM', -, -, -, -, -, -, hsigM⟩ := Cond.code_spec hnamed hcode
  cases hmethM.symm.trans hmethM'
  obtain ⟨c2, r2, m2, q1, q2, q3, q4, kP, hkP, hkPi⟩ := Cond.selects_spec hsel
  cases hcls.symm.trans q1
  cases (State.methodFound?_of_named hnamed hy).symm.trans q2
  cases hnamed.symm.trans q3
  have hselP : selectMethod e.platform s.vm cellB.cls mk = .method mk := by rw [Launch.admits_selectMethod X.admits]; exact q4
  obtain ⟨vm₁, X₁, hstep₁⟩ := X.invokevirtual hexec hown hlink hnamed hmethM hstM hkP hkPi hy (a := b) (cell := cellB) hcell
    (fun z h => by rw [h] at hobj; cases hobj) hselP hmethM habM hkP hkPi (g := g) hg (argsL := argsL) (rest := rest) (hlen _ hsigM) hstack hdg
  rcases hK m meth c ⟨T.setVm vm₁, locs, cells, slots⟩ { g with stack := rest } (.invokevirtual index) mk (Value.ref b :: argsL).toArray X₁ hg hsize hdg hW (X₁.named hnamed) (hpre vm₁ X₁.warmed) with ⟨v, B, X', hpost, hsteps⟩ | ⟨q, B, X', hpost, hsteps⟩
  · exact Or.inl ⟨v, vm₁, B, X₁.warmed, X', hpost, fun target h => hstep₁ _ fun acts => by rw [doInvoke_state]; exact hsteps.trans h⟩
  · exact Or.inr ⟨q, vm₁, B, X₁.warmed, X', hpost, hstep₁ _ fun acts => by rw [doInvoke_state]; exact hsteps⟩
theorem vx_callS (X : Stand p l e R s m args below meth c T locs cells slots) (hexec : p.tables.exec = Jvm.exec) {own : String} {index : Nat} {y : MethodName} {bytes : ByteArray} {maxL : Nat} {ret : Option FieldType}
    (hown : s.vm.findClass own = some m.cls) (hlink : (Cond.methodLink own index y).before args s = true) (hstat : (Cond.static y).before args s = true) (hinit : (Cond.initialized y.cls).before args s = true)
    (hcode : (Cond.code y bytes maxL ret).before args s = true) (hy : y.cls ≠ "java/lang/invoke/MethodHandle" ∧ y.cls ≠ "java/lang/invoke/VarHandle")
    {W9 : Nat} {Pre : Pt → Array Value → Prop} {Post : Pt → Array Value → Option Value → Pt → Prop} {PostX : Pt → Array Value → Addr → Pt → Prop} (hK : vx_Back l R p e below s args y 3 W9 Pre Post PostX)
    {g : JFrame} (hg : g.method = m) (hsize : g.locals.size = c.maxLocals) {argsL rest : List Value} (hlen : ∀ sig, parseMethodDescriptor y.desc = some sig → argsL.length = sig.parameters.length)
    (hstack : g.stack = argsL.reverse ++ rest) (hW : 2 * g.monitorRoom + (rest.map fun v => v.category).sum ≤ W9) (hdg : decode c.code g.pc = .ok (.invokestatic index, 3))
    (hpre : ∀ vm₁, s.WarmedH vm₁ → Pre ⟨T.setVm vm₁, locs, cells, slots⟩ argsL.toArray) :
    (∃ (v : Option Value) (vm₁ : Vm) (B : Pt), s.WarmedH vm₁ ∧ Stand p l e R s m args below meth c B.U B.locs B.cells B.slots ∧ Post ⟨T.setVm vm₁, locs, cells, slots⟩ argsL.toArray v B ∧
      ∀ target, Steps p.tables e below (B.U.setTop { g with pc := g.pc + 3, stack := v.toList ++ rest }) target → Steps p.tables e below (T.setTop g) target) ∨
    (∃ (q : Addr) (vm₁ : Vm) (B : Pt), s.WarmedH vm₁ ∧ Stand p l e R s m args below meth c B.U B.locs B.cells B.slots ∧ PostX ⟨T.setVm vm₁, locs, cells, slots⟩ argsL.toArray q B ∧
      Steps p.tables e below (T.setTop g) ((B.U.setTop { g with stack := rest }).pushFrame (.throwing q))) := by
  obtain ⟨mk, hnamed⟩ := Cond.code_named hcode
  obtain ⟨methM, cM, hmethM, -, -, -, -, -, -, hsigM⟩ := Cond.code_spec hnamed hcode
  have hstatic : methM.isStatic = true := Cond.static_spec hnamed hmethM hstat
  obtain ⟨kP, hkP, -⟩ := className_of_methodNamed hnamed
  have hinitP : kP.init = .initialized := Cond.initialized_spec (findClass_of_methodNamed hnamed) hkP hinit
  obtain ⟨vm₁, X₁, hstep₁⟩ := X.invokestatic hexec hown hlink hnamed hmethM hstatic hkP hinitP hy (g := g) hg (argsL := argsL) (rest := rest) (hlen _ hsigM) hstack hdg
  rcases hK m meth c ⟨T.setVm vm₁, locs, cells, slots⟩ { g with stack := rest } (.invokestatic index) mk argsL.toArray X₁ hg hsize hdg hW (X₁.named hnamed) (hpre vm₁ X₁.warmed) with ⟨v, B, X', hpost, hsteps⟩ | ⟨q, B, X', hpost, hsteps⟩
  · exact Or.inl ⟨v, vm₁, B, X₁.warmed, X', hpost, fun target h => hstep₁ _ fun acts => by rw [doInvoke_state]; exact hsteps.trans h⟩
  · exact Or.inr ⟨q, vm₁, B, X₁.warmed, X', hpost, hstep₁ _ fun acts => by rw [doInvoke_state]; exact hsteps⟩
end Calls
theorem vx_cls {s : State} {T : State} {vm₁ : Vm} {E : String} {k : ClassId} (hW : s.WarmedH vm₁) (h : (T.setVm vm₁).vm.findClass E = some k) : s.vm.findClass E = some k := by
  have h1 : vm₁.findClass E = some k := h
  rw [hW.alike.findClass] at h1
  exact h1
/-- the method's frame g, with q thrown over it -/
def vx_W (p : Program) (l : Launch) (e : Env) (R : Room) (s : State) (m : MethodId) (args : Array Value) (below : List Frame) (meth : Method) (c : Code) (H : Heap) (locs : List Loc) (cells slots : Nat) (Q : State → Prop) (g : JFrame) (q : Addr) : Prop :=
  ∀ T : State, T.heap = H → Stand p l e R s m args below meth c T locs cells slots → ∃ t, Steps p.tables e below ((T.setTop g).pushFrame (.throwing q)) t ∧ Q t
def vx_Run (p : Program) (l : Launch) (e : Env) (R : Room) (s : State) (m : MethodId) (args : Array Value) (below : List Frame) (meth : Method) (c : Code) (H : Heap) (locs : List Loc) (cells slots mc ms : Nat) (g : JFrame) (rest : List Value) (Qa : State → Outcome → State → Prop) (XC : String → State → State → Prop) (free : Addr → Prop) : Prop :=
  ∀ T : State, T.heap = H → Stand p l e R s m args below meth c T locs cells slots →
    (∃ (v : Option Value) (st₀ t T' : State) (L : List Loc), st₀.heap = H ∧ Stand p l e R s m args below meth c T' (locs ++ L) (cells + mc) (slots + ms) ∧ (∀ q ∈ L, free q.base) ∧ T'.heap = t.heap ∧ T'.vm = t.vm ∧ Qa st₀ (.returned v) t ∧
      Goes p e below T g T' { g with pc := g.pc + 3, stack := v.toList ++ rest }) ∨
    (∃ (q : Addr) (st₀ t T' : State) (L : List Loc) (E : String) (ce : Cell), st₀.heap = H ∧ Stand p l e R s m args below meth c T' (locs ++ L) (cells + mc) (slots + ms) ∧ (∀ z ∈ L, free z.base) ∧ T'.heap = t.heap ∧ T'.vm = t.vm ∧ XC E st₀ t ∧ t.heap[q]? = some ce ∧ ce.vm = .none ∧ s.vm.findClass E = some ce.cls ∧
      Steps p.tables e below (T.setTop g) ((T'.setTop { g with stack := rest }).pushFrame (.throwing q)))
def vx_X {S : Type} (px : S → Prop) (B : String → S → State → Prop) (A : Nat → Prop) : String → State → State → Prop := fun E st t => ∃ u : S, px u ∧ B E u t ∧ va_F A st t
section Runs
variable {p : Program} {l : Launch} {e : Env} {R : Room} {s : State} {m : MethodId} {args : Array Value} {below : List Frame} {meth : Method} {c : Code} {H : Heap} {locs : List Loc} {cells slots : Nat}
variable {y : MethodName} {bytes cc : ByteArray} {maxL nL mc ms n index : Nat} {ret : Option FieldType} {ws : List Cond} {rm : Room} {Pc : Array Value → State → Prop} {Qc : Array Value → State → Outcome → State → Prop} {XC : String → State → State → Prop} {free : Addr → Prop} {Ts : List Cond} {own C : String} {b : Addr} {As rest : List Value} {g : JFrame}
theorem vx_callBack (cb : CallB R s args own index y bytes maxL ret ws rm mc ms n) (hM : vx_Met l y ws rm Pc Qc XC mc ms free) (hbl : FrameBlind Pc) : vx_Back l R p e below s args y 3 8 (PreOf R mc ms Pc) (PostOf Qc mc ms free) (vx_Post XC mc ms free) := by
  obtain ⟨hrc, hrs, hfr, hlo, hws, hcw, -, hini, -⟩ := cb
  exact vx_back (bytes := bytes) (maxL := maxL) (ret := ret) hM hbl hrc hrs hfr hlo hws hcw (fun a' U hW => word_at hW (Or.inl (by first | rfl | simp [Cond.onTables, Cond.keeps, Cond.steady])) hini)
theorem vx_runV (S : CallFix p m c cc nL s args Ts own) (hM : vx_Met l y ws rm Pc Qc XC mc ms free) (cw : CallW R s args own C index y bytes maxL ret ws rm mc ms n) (hp : PreV s H C b Pc As)
    (hg : g.method = m) (hn : As.length = n) (hsize : g.locals.size = nL) (hstack : g.stack = As.reverse ++ .ref b :: rest) (hW : 2 * g.monitorRoom + (rest.map fun v => v.category).sum ≤ 8) (hdg : decode cc g.pc = .ok (.invokevirtual index, 3)) (hf : cells + mc ≤ R.cells ∧ slots + ms ≤ R.slots) :
    vx_Run p l e R s m args below meth c H locs cells slots mc ms g rest (Qc (Value.ref b :: As).toArray) XC free := by
  have hK : vx_Back l R p e below s args y 3 8 (PreOf R mc ms Pc) (PostOf Qc mc ms free) (vx_Post XC mc ms free) := vx_callBack cw.1 hM hp.1
  obtain ⟨⟨-, -, -, -, -, -, hcode, -, hy, hlen, hl⟩, hin, hse⟩ := cw
  obtain ⟨hx, hb, hml, ho, -⟩ := S
  obtain ⟨-, ⟨cellB, hcB, hoB, hclB⟩, hPc⟩ := hp
  intro T hT X
  rcases vx_callV X hx (C := C) (bytes := bytes) (maxL := maxL) (ret := ret) ho hl hin hse hcode hy hK (by rw [hT]; exact hcB) hoB hclB hg (hsize.trans hml.symm) (argsL := As) (rest := rest) (fun sig h => hn.trans (hlen sig h)) hstack hW (by rw [hb]; exact hdg)
    (fun vm₁ hW₁ => ⟨hf.1, hf.2, hPc (T.setVm vm₁) hT hW₁⟩) with ⟨v, vm₁, ⟨U', l2, c2, s2⟩, hW₁, X', ⟨g', mk, t, L, e1, e2, hq, h1, hL, h2, h3⟩, st⟩ | ⟨q, vm₁, ⟨U', l2, c2, s2⟩, hW₁, X', ⟨g', mk, t, L, E, ce, e1, e2, hq, hce, hcv, hcl, h1, hL, h2, h3⟩, st⟩
  · dsimp only [Pt.U, Pt.locs, Pt.cells, Pt.slots] at X' e1 e2 h1 h2 h3 st
    subst h1; subst h2; subst h3
    exact Or.inl ⟨v, (T.setVm vm₁).calling g' mk (Value.ref b :: As).toArray, t, U', L, hT, X', hL, e1, e2, hq, st⟩
  · dsimp only [Pt.U, Pt.locs, Pt.cells, Pt.slots] at X' e1 e2 h1 h2 h3 st hcl
    subst h1; subst h2; subst h3
    exact Or.inr ⟨q, (T.setVm vm₁).calling g' mk (Value.ref b :: As).toArray, t, U', L, E, ce, hT, X', hL, e1, e2, hq, hce, hcv, vx_cls hW₁ hcl, st⟩
theorem vx_runS (S : CallFix p m c cc nL s args Ts own) (hM : vx_Met l y ws rm Pc Qc XC mc ms free) (cw : CallB R s args own index y bytes maxL ret ws rm mc ms n ∧ (Cond.static y).before args s = true) (hp : PreS s H Pc As)
    (hg : g.method = m) (hn : As.length = n) (hsize : g.locals.size = nL) (hstack : g.stack = As.reverse ++ rest) (hW : 2 * g.monitorRoom + (rest.map fun v => v.category).sum ≤ 8) (hdg : decode cc g.pc = .ok (.invokestatic index, 3)) (hf : cells + mc ≤ R.cells ∧ slots + ms ≤ R.slots) :
    vx_Run p l e R s m args below meth c H locs cells slots mc ms g rest (Qc As.toArray) XC free := by
  have hK : vx_Back l R p e below s args y 3 8 (PreOf R mc ms Pc) (PostOf Qc mc ms free) (vx_Post XC mc ms free) := vx_callBack cw.1 hM hp.1
  obtain ⟨⟨-, -, -, -, -, -, hcode, hini, hy, hlen, hl⟩, hstt⟩ := cw
  obtain ⟨hx, hb, hml, ho, -⟩ := S
  intro T hT X
  rcases vx_callS X hx (bytes := bytes) (maxL := maxL) (ret := ret) ho hl hstt hini hcode hy hK hg (hsize.trans hml.symm) (argsL := As) (rest := rest) (fun sig h => hn.trans (hlen sig h)) hstack hW (by rw [hb]; exact hdg)
    (fun vm₁ hW₁ => ⟨hf.1, hf.2, hp.2 (T.setVm vm₁) hT hW₁⟩) with ⟨v, vm₁, ⟨U', l2, c2, s2⟩, hW₁, X', ⟨g', mk, t, L, e1, e2, hq, h1, hL, h2, h3⟩, st⟩ | ⟨q, vm₁, ⟨U', l2, c2, s2⟩, hW₁, X', ⟨g', mk, t, L, E, ce, e1, e2, hq, hce, hcv, hcl, h1, hL, h2, h3⟩, st⟩
  · dsimp only [Pt.U, Pt.locs, Pt.cells, Pt.slots] at X' e1 e2 h1 h2 h3 st
    subst h1; subst h2; subst h3
    exact Or.inl ⟨v, (T.setVm vm₁).calling g' mk As.toArray, t, U', L, hT, X', hL, e1, e2, hq, st⟩
  · dsimp only [Pt.U, Pt.locs, Pt.cells, Pt.slots] at X' e1 e2 h1 h2 h3 st hcl
    subst h1; subst h2; subst h3
    exact Or.inr ⟨q, (T.setVm vm₁).calling g' mk As.toArray, t, U', L, E, ce, hT, X', hL, e1, e2, hq, hce, hcv, vx_cls hW₁ hcl, st⟩
end Runs
section Rows
variable {p : Program} {l : Launch} {e : Env} {R : Room} {s : State} {m : MethodId} {args : Array Value} {below : List Frame} {meth : Method} {c : Code} {H : Heap} {locs : List Loc} {cells slots : Nat} {Q : State → Prop}
variable {mc ms : Nat} {free : Addr → Prop} {A0 A1 : Nat → Prop} {H0 : Heap} {a : Array Value} {pc : Nat} {ls : Array Slot} {st0 rest : List Value}
theorem vx_keep {st₀ t T' : State} {L : List Loc} (h0 : st₀.heap = H) (e1 : T'.heap = t.heap) (hS : va_S A0 H0 H locs) (hA : ∀ q, q < H.size → A1 q → A0 q) (hf : ∀ q, free q → A0 q) (hL : ∀ q ∈ L, free q.base) (hF : va_F A1 st₀ t) :
    H.size ≤ T'.heap.size ∧ (∀ q : Nat, q < H.size → ¬ A1 q → T'.heap[q]? = H[q]?) ∧ va_S A0 H0 T'.heap (locs ++ L) := by
  obtain ⟨hz, hk⟩ := hF
  rw [h0] at hz hk
  exact ⟨by rw [e1]; exact hz, fun q h1 h2 => by rw [e1]; exact hk q h1 h2,
    ⟨Nat.le_trans hS.1 (by rw [e1]; exact hz), fun q h1 h2 => by rw [e1, hk q (Nat.lt_of_lt_of_le h1 hS.1) (fun z => h2 (hA q (Nat.lt_of_lt_of_le h1 hS.1) z))]; exact hS.2.1 q h1 h2, fun q hq => by
      rcases List.mem_append.mp hq with h | h
      · exact hS.2.2 q h
      · exact hf _ (hL q h)⟩⟩
theorem vx_calli {S SX : Type} {post : Int32 → S → Prop} {px : SX → Prop} {B : S → State → Prop} {BX : String → SX → State → Prop} {AX : Nat → Prop} (hr : vx_Run p l e R s m args below meth c H locs cells slots mc ms (F0 m pc ls st0) rest (va_Qi post B A1 a) (vx_X px BX AX) free) (hS : va_S A0 H0 H locs) (hA : ∀ q, q < H.size → A1 q → A0 q) (hf : ∀ q, free q → A0 q) (hAX : ∀ q, q < H.size → AX q → A0 q)
    (kx : ∀ (E : String) (ce : Cell) (q9 : Addr) (u : SX) (t : State) (H1 : Heap) (locs1 : List Loc), t.heap = H1 → s.vm.Alike t.vm → px u → BX E u t → H.size ≤ H1.size → (∀ q : Nat, q < H.size → ¬ AX q → H1[q]? = H[q]?) → va_S A0 H0 H1 locs1 → H1[q9]? = some ce → ce.vm = .none → s.vm.findClass E = some ce.cls → vx_W p l e R s m args below meth c H1 locs1 (cells + mc) (slots + ms) Q (F0 m pc ls rest) q9)
    (kk : ∀ (r : Int32) (u : S) (t : State) (H1 : Heap) (locs1 : List Loc), t.heap = H1 → s.vm.Alike t.vm → post r u → B u t → H.size ≤ H1.size → (∀ q : Nat, q < H.size → ¬ A1 q → H1[q]? = H[q]?) → va_S A0 H0 H1 locs1 → W p l e R s m args below meth c H1 locs1 (cells + mc) (slots + ms) Q (F0 m (pc + 3) ls (.int r :: rest))) : W p l e R s m args below meth c H locs cells slots Q (F0 m pc ls st0) := by
  intro T hT X
  rcases hr T hT X with ⟨v, st₀, t, T', L, h0, X', hL, e1, e2, ⟨⟨r, u, hv, hp, hb⟩, hF⟩, st⟩ | ⟨q, st₀, t, T', L, E, ce, h0, X', hL, e1, e2, ⟨u, hp, hb, hF⟩, hce, hcv, hcl, st⟩
  · cases hv
    obtain ⟨k1, k2, k3⟩ := vx_keep h0 e1 hS hA hf hL hF
    obtain ⟨t2, a1, b1⟩ := kk r u t T'.heap (locs ++ L) e1.symm (by rw [← e2]; exact X'.warmed.alike) hp hb k1 k2 k3 T' rfl X'
    exact ⟨t2, st t2 a1, b1⟩
  · obtain ⟨k1, k2, k3⟩ := vx_keep h0 e1 hS hAX hf hL hF
    obtain ⟨t2, a1, b1⟩ := kx E ce q u t T'.heap (locs ++ L) e1.symm (by rw [← e2]; exact X'.warmed.alike) hp hb k1 k2 k3 (by rw [e1]; exact hce) hcv hcl T' rfl X'
    exact ⟨t2, st.trans a1, b1⟩
theorem vx_calll {S SX : Type} {post : Int64 → S → Prop} {px : SX → Prop} {B : S → State → Prop} {BX : String → SX → State → Prop} {AX : Nat → Prop} (hr : vx_Run p l e R s m args below meth c H locs cells slots mc ms (F0 m pc ls st0) rest (va_Ql post B A1 a) (vx_X px BX AX) free) (hS : va_S A0 H0 H locs) (hA : ∀ q, q < H.size → A1 q → A0 q) (hf : ∀ q, free q → A0 q) (hAX : ∀ q, q < H.size → AX q → A0 q)
    (kx : ∀ (E : String) (ce : Cell) (q9 : Addr) (u : SX) (t : State) (H1 : Heap) (locs1 : List Loc), t.heap = H1 → s.vm.Alike t.vm → px u → BX E u t → H.size ≤ H1.size → (∀ q : Nat, q < H.size → ¬ AX q → H1[q]? = H[q]?) → va_S A0 H0 H1 locs1 → H1[q9]? = some ce → ce.vm = .none → s.vm.findClass E = some ce.cls → vx_W p l e R s m args below meth c H1 locs1 (cells + mc) (slots + ms) Q (F0 m pc ls rest) q9)
    (kk : ∀ (r : Int64) (u : S) (t : State) (H1 : Heap) (locs1 : List Loc), t.heap = H1 → s.vm.Alike t.vm → post r u → B u t → H.size ≤ H1.size → (∀ q : Nat, q < H.size → ¬ A1 q → H1[q]? = H[q]?) → va_S A0 H0 H1 locs1 → W p l e R s m args below meth c H1 locs1 (cells + mc) (slots + ms) Q (F0 m (pc + 3) ls (.long r :: rest))) : W p l e R s m args below meth c H locs cells slots Q (F0 m pc ls st0) := by
  intro T hT X
  rcases hr T hT X with ⟨v, st₀, t, T', L, h0, X', hL, e1, e2, ⟨⟨r, u, hv, hp, hb⟩, hF⟩, st⟩ | ⟨q, st₀, t, T', L, E, ce, h0, X', hL, e1, e2, ⟨u, hp, hb, hF⟩, hce, hcv, hcl, st⟩
  · cases hv
    obtain ⟨k1, k2, k3⟩ := vx_keep h0 e1 hS hA hf hL hF
    obtain ⟨t2, a1, b1⟩ := kk r u t T'.heap (locs ++ L) e1.symm (by rw [← e2]; exact X'.warmed.alike) hp hb k1 k2 k3 T' rfl X'
    exact ⟨t2, st t2 a1, b1⟩
  · obtain ⟨k1, k2, k3⟩ := vx_keep h0 e1 hS hAX hf hL hF
    obtain ⟨t2, a1, b1⟩ := kx E ce q u t T'.heap (locs ++ L) e1.symm (by rw [← e2]; exact X'.warmed.alike) hp hb k1 k2 k3 (by rw [e1]; exact hce) hcv hcl T' rfl X'
    exact ⟨t2, st.trans a1, b1⟩
theorem vx_callf {S SX : Type} {post : UInt32 → S → Prop} {px : SX → Prop} {B : S → State → Prop} {BX : String → SX → State → Prop} {AX : Nat → Prop} (hr : vx_Run p l e R s m args below meth c H locs cells slots mc ms (F0 m pc ls st0) rest (va_Qf post B A1 a) (vx_X px BX AX) free) (hS : va_S A0 H0 H locs) (hA : ∀ q, q < H.size → A1 q → A0 q) (hf : ∀ q, free q → A0 q) (hAX : ∀ q, q < H.size → AX q → A0 q)
    (kx : ∀ (E : String) (ce : Cell) (q9 : Addr) (u : SX) (t : State) (H1 : Heap) (locs1 : List Loc), t.heap = H1 → s.vm.Alike t.vm → px u → BX E u t → H.size ≤ H1.size → (∀ q : Nat, q < H.size → ¬ AX q → H1[q]? = H[q]?) → va_S A0 H0 H1 locs1 → H1[q9]? = some ce → ce.vm = .none → s.vm.findClass E = some ce.cls → vx_W p l e R s m args below meth c H1 locs1 (cells + mc) (slots + ms) Q (F0 m pc ls rest) q9)
    (kk : ∀ (r : UInt32) (u : S) (t : State) (H1 : Heap) (locs1 : List Loc), t.heap = H1 → s.vm.Alike t.vm → post r u → B u t → H.size ≤ H1.size → (∀ q : Nat, q < H.size → ¬ A1 q → H1[q]? = H[q]?) → va_S A0 H0 H1 locs1 → W p l e R s m args below meth c H1 locs1 (cells + mc) (slots + ms) Q (F0 m (pc + 3) ls (.float r :: rest))) : W p l e R s m args below meth c H locs cells slots Q (F0 m pc ls st0) := by
  intro T hT X
  rcases hr T hT X with ⟨v, st₀, t, T', L, h0, X', hL, e1, e2, ⟨⟨r, u, hv, hp, hb⟩, hF⟩, st⟩ | ⟨q, st₀, t, T', L, E, ce, h0, X', hL, e1, e2, ⟨u, hp, hb, hF⟩, hce, hcv, hcl, st⟩
  · cases hv
    obtain ⟨k1, k2, k3⟩ := vx_keep h0 e1 hS hA hf hL hF
    obtain ⟨t2, a1, b1⟩ := kk r u t T'.heap (locs ++ L) e1.symm (by rw [← e2]; exact X'.warmed.alike) hp hb k1 k2 k3 T' rfl X'
    exact ⟨t2, st t2 a1, b1⟩
  · obtain ⟨k1, k2, k3⟩ := vx_keep h0 e1 hS hAX hf hL hF
    obtain ⟨t2, a1, b1⟩ := kx E ce q u t T'.heap (locs ++ L) e1.symm (by rw [← e2]; exact X'.warmed.alike) hp hb k1 k2 k3 (by rw [e1]; exact hce) hcv hcl T' rfl X'
    exact ⟨t2, st.trans a1, b1⟩
theorem vx_calld {S SX : Type} {post : UInt64 → S → Prop} {px : SX → Prop} {B : S → State → Prop} {BX : String → SX → State → Prop} {AX : Nat → Prop} (hr : vx_Run p l e R s m args below meth c H locs cells slots mc ms (F0 m pc ls st0) rest (va_Qd post B A1 a) (vx_X px BX AX) free) (hS : va_S A0 H0 H locs) (hA : ∀ q, q < H.size → A1 q → A0 q) (hf : ∀ q, free q → A0 q) (hAX : ∀ q, q < H.size → AX q → A0 q)
    (kx : ∀ (E : String) (ce : Cell) (q9 : Addr) (u : SX) (t : State) (H1 : Heap) (locs1 : List Loc), t.heap = H1 → s.vm.Alike t.vm → px u → BX E u t → H.size ≤ H1.size → (∀ q : Nat, q < H.size → ¬ AX q → H1[q]? = H[q]?) → va_S A0 H0 H1 locs1 → H1[q9]? = some ce → ce.vm = .none → s.vm.findClass E = some ce.cls → vx_W p l e R s m args below meth c H1 locs1 (cells + mc) (slots + ms) Q (F0 m pc ls rest) q9)
    (kk : ∀ (r : UInt64) (u : S) (t : State) (H1 : Heap) (locs1 : List Loc), t.heap = H1 → s.vm.Alike t.vm → post r u → B u t → H.size ≤ H1.size → (∀ q : Nat, q < H.size → ¬ A1 q → H1[q]? = H[q]?) → va_S A0 H0 H1 locs1 → W p l e R s m args below meth c H1 locs1 (cells + mc) (slots + ms) Q (F0 m (pc + 3) ls (.double r :: rest))) : W p l e R s m args below meth c H locs cells slots Q (F0 m pc ls st0) := by
  intro T hT X
  rcases hr T hT X with ⟨v, st₀, t, T', L, h0, X', hL, e1, e2, ⟨⟨r, u, hv, hp, hb⟩, hF⟩, st⟩ | ⟨q, st₀, t, T', L, E, ce, h0, X', hL, e1, e2, ⟨u, hp, hb, hF⟩, hce, hcv, hcl, st⟩
  · cases hv
    obtain ⟨k1, k2, k3⟩ := vx_keep h0 e1 hS hA hf hL hF
    obtain ⟨t2, a1, b1⟩ := kk r u t T'.heap (locs ++ L) e1.symm (by rw [← e2]; exact X'.warmed.alike) hp hb k1 k2 k3 T' rfl X'
    exact ⟨t2, st t2 a1, b1⟩
  · obtain ⟨k1, k2, k3⟩ := vx_keep h0 e1 hS hAX hf hL hF
    obtain ⟨t2, a1, b1⟩ := kx E ce q u t T'.heap (locs ++ L) e1.symm (by rw [← e2]; exact X'.warmed.alike) hp hb k1 k2 k3 (by rw [e1]; exact hce) hcv hcl T' rfl X'
    exact ⟨t2, st.trans a1, b1⟩
theorem vx_callv {S SX : Type} {post : S → Prop} {px : SX → Prop} {B : S → State → Prop} {BX : String → SX → State → Prop} {AX : Nat → Prop} (hr : vx_Run p l e R s m args below meth c H locs cells slots mc ms (F0 m pc ls st0) rest (va_Qv post B A1 a) (vx_X px BX AX) free) (hS : va_S A0 H0 H locs) (hA : ∀ q, q < H.size → A1 q → A0 q) (hf : ∀ q, free q → A0 q) (hAX : ∀ q, q < H.size → AX q → A0 q)
    (kx : ∀ (E : String) (ce : Cell) (q9 : Addr) (u : SX) (t : State) (H1 : Heap) (locs1 : List Loc), t.heap = H1 → s.vm.Alike t.vm → px u → BX E u t → H.size ≤ H1.size → (∀ q : Nat, q < H.size → ¬ AX q → H1[q]? = H[q]?) → va_S A0 H0 H1 locs1 → H1[q9]? = some ce → ce.vm = .none → s.vm.findClass E = some ce.cls → vx_W p l e R s m args below meth c H1 locs1 (cells + mc) (slots + ms) Q (F0 m pc ls rest) q9)
    (kk : ∀ (u : S) (t : State) (H1 : Heap) (locs1 : List Loc), t.heap = H1 → s.vm.Alike t.vm → post u → B u t → H.size ≤ H1.size → (∀ q : Nat, q < H.size → ¬ A1 q → H1[q]? = H[q]?) → va_S A0 H0 H1 locs1 → W p l e R s m args below meth c H1 locs1 (cells + mc) (slots + ms) Q (F0 m (pc + 3) ls (rest))) : W p l e R s m args below meth c H locs cells slots Q (F0 m pc ls st0) := by
  intro T hT X
  rcases hr T hT X with ⟨v, st₀, t, T', L, h0, X', hL, e1, e2, ⟨⟨u, hv, hp, hb⟩, hF⟩, st⟩ | ⟨q, st₀, t, T', L, E, ce, h0, X', hL, e1, e2, ⟨u, hp, hb, hF⟩, hce, hcv, hcl, st⟩
  · cases hv
    obtain ⟨k1, k2, k3⟩ := vx_keep h0 e1 hS hA hf hL hF
    obtain ⟨t2, a1, b1⟩ := kk u t T'.heap (locs ++ L) e1.symm (by rw [← e2]; exact X'.warmed.alike) hp hb k1 k2 k3 T' rfl X'
    exact ⟨t2, st t2 a1, b1⟩
  · obtain ⟨k1, k2, k3⟩ := vx_keep h0 e1 hS hAX hf hL hF
    obtain ⟨t2, a1, b1⟩ := kx E ce q u t T'.heap (locs ++ L) e1.symm (by rw [← e2]; exact X'.warmed.alike) hp hb k1 k2 k3 (by rw [e1]; exact hce) hcv hcl T' rfl X'
    exact ⟨t2, st.trans a1, b1⟩
/-- caught by the row x of this method's table; the rows ahead don't take it -/
theorem vx_catch {own name : String} {E : String} {ce : Cell} {q : Addr} (hown : s.vm.findClass own = some m.cls) (pre : List ExceptionTableEntry) (x : ExceptionTableEntry) (suf : List ExceptionTableEntry) (hsplit : c.exceptionTable.toList = pre ++ x :: suf)
    (hpass : ∀ z ∈ pre, covers z pc = false ∨ (z.catchType ≠ 0 ∧ ∃ nm : String, (Cond.classLink own z.catchType nm).before args s = true ∧ va_Nc E nm s)) (hx : covers x pc = true) (h0 : x.catchType ≠ 0)
    (hlink : (Cond.classLink own x.catchType name).before args s = true) (hcast : (Cond.castable E name).before args s = true) (hcell : H[q]? = some ce) (hv : ce.vm = .none) (hcl : s.vm.findClass E = some ce.cls)
    (kk : W p l e R s m args below meth c H locs cells slots Q (F0 m x.handlerPc ls [.ref q])) : vx_W p l e R s m args below meth c H locs cells slots Q (F0 m pc ls rest) q := by
  intro T hT X
  have hpl : e.platform.magicAccessors = ({} : Platform).magicAccessors := by rw [X.admits.platform]
  obtain ⟨c3, c4, hc3, hc4, hasg⟩ := Cond.castable_spec hcast
  cases Option.some.inj (hc3.symm.trans hcl)
  obtain ⟨c5, hc5, hcl5⟩ := Cond.classLink_spec hown hlink e.platform hpl
  cases Option.some.inj (hc4.symm.trans hc5)
  obtain ⟨vm', X', st⟩ := X.thenCaughtThrough q (g := F0 m pc ls rest) rfl (Steps.refl _) (by rw [hT]; exact hcell) (by rw [hv]; rfl) (by obtain ⟨k9, h9, -⟩ := Vm.findClass_spec hcl; exact ⟨k9, h9⟩) pre x suf hsplit
    (fun z hz => by
      rcases hpass z hz with h | ⟨hz0, nm, hl1, hn1⟩
      · exact Or.inl h
      · obtain ⟨c6, hc6, hcl6⟩ := Cond.classLink_spec hown hl1 e.platform hpl
        obtain ⟨a8, b8, h1, h2, h3⟩ := hn1
        cases Option.some.inj (h1.symm.trans hcl)
        cases Option.some.inj (h2.symm.trans hc6)
        exact Or.inr ⟨hz0, _, hcl6, h3⟩) hx (Or.inr ⟨h0, c4, hcl5, hasg⟩)
  obtain ⟨t, a1, b1⟩ := kk (T.setVm vm') hT X'
  exact ⟨t, st.trans a1, b1⟩
end Rows
section Ends
variable {p : Program} {l : Launch} {e : Env} {R : Room} {s : State} {m : MethodId} {args : Array Value} {below : List Frame} {meth : Method} {c : Code} {H : Heap} {locs : List Loc} {cells slots : Nat} {Q : State → Prop}
variable {mc ms : Nat} {free : Addr → Prop} {A0 A1 : Nat → Prop} {H0 : Heap} {a : Array Value} {ls : Array Slot} {st0 rest : List Value}
variable {Qc : Array Value → State → Outcome → State → Prop} {XC : String → State → State → Prop}
/-- what a body that may throw owes at its end -/
def vx_MQ (below : List Frame) (Qc : Array Value → State → Outcome → State → Prop) (XC : String → State → State → Prop) (a : Array Value) (s : State) (mc ms : Nat) (free : Addr → Prop) : State → Prop := fun t =>
  ∃ o, t.status = .running ∧ Ended t below o ∧ vx_Q Qc XC mc ms free a s o t
theorem vx_ret {g : JFrame} {mc ms : Nat} (k : W p l e R s m args below meth c H locs cells slots (MQ below Qc args s mc ms free) g) : W p l e R s m args below meth c H locs cells slots (vx_MQ below Qc XC args s mc ms free) g := by
  intro T hT X
  obtain ⟨t, a1, o, b1, b2, b3, b4⟩ := k T hT X
  exact ⟨t, a1, o, b1, b2, Or.inl ⟨b3, b4⟩⟩
/-- not caught here: it goes on to the caller -/
theorem vx_widen {g : JFrame} {q : Addr} {k n : Nat} (h1 : cells ≤ k) (h2 : slots ≤ n) (kk : vx_W p l e R s m args below meth c H locs k n Q g q) : vx_W p l e R s m args below meth c H locs cells slots Q g q := fun T hT X => kk T hT (stand_widen X h1 h2)
theorem vx_out {pc : Nat} {E : String} {ce : Cell} {q : Addr} {mc ms : Nat} (hout : ∀ x ∈ c.exceptionTable.toList, covers x pc = false) (hlocks : meth.locks = false) (hcell : H[q]? = some ce) (hv : ce.vm = .none) (hcl : s.vm.findClass E = some ce.cls)
    (hx : ∀ t : State, t.heap = H → s.vm.Alike t.vm → XC E s t) (hf : ∀ z ∈ locs, free z.base) (hc : cells ≤ mc) (hs : slots ≤ ms) :
    vx_W p l e R s m args below meth c H locs cells slots (vx_MQ below Qc XC args s mc ms free) (F0 m pc ls rest) q := by
  intro T hT X
  obtain ⟨st1, hrun, hend, hW, hsm⟩ := X.leaveThrown q (g := F0 m pc ls rest) rfl rfl rfl hout hlocks
  have hcell9 : (T.setFrames (.throwing q :: below)).heap[q]? = some ce := by
    show T.heap[q]? = some ce
    rw [hT]; exact hcell
  exact ⟨_, st1, .threw q, hrun, hend, Or.inr ⟨q, rfl, E, ce, locs, hx _ hT hW.alike, hcell9, hv, hcl, hW, hsm.mono hc hs, hf⟩⟩
theorem vx_frame {U : State} {k n : Nat} (h : s.sameButNew ({ U with vm := s.vm } : State) locs k n) : s.heap.size ≤ U.heap.size ∧ ∀ q : Nat, q < s.heap.size → (∀ z ∈ locs, z.base ≠ q) → U.heap[q]? = s.heap[q]? := by
  obtain ⟨-, h2, -, -, -, h6⟩ := h
  refine ⟨h2, fun q hq hz => ?_⟩
  obtain ⟨c9, e1, e2, e3, e4⟩ := h6 q _ (Array.getElem?_eq_getElem hq)
  have hs : c9.slots = (s.heap[q]).slots := Array.ext_getElem? fun i => e4 i fun hm => hz _ hm rfl
  have h9 : c9 = s.heap[q] := by
    rw [hs] at e2
    exact e2
  have e5 : U.heap[q]? = some c9 := e1
  rw [e5, h9, Array.getElem?_eq_getElem hq]
/-- the words of a throw but the four that speak of the heap -/
def vx_no (w : Cond) : Bool := decide (w ≠ .isRef (.static Bundle.tN "UNASSIGNED_STACK" Bundle.steD)) && decide (w ≠ .isRef (.static Bundle.tN "SUPPRESSED_SENTINEL" Bundle.listD)) && decide (w ≠ .laysStatic Bundle.tN "UNASSIGNED_STACK" Bundle.steD) && decide (w ≠ .laysStatic Bundle.tN "SUPPRESSED_SENTINEL" Bundle.listD)
def vx_at0 (own : String) (ic : Nat) (X : String) (names : List String) : List Cond := (Bundle.ownAtoms0 own ic X names).filter vx_no
def vx_atS (own : String) (ic : Nat) (X : String) (names : List String) : List Cond := (Bundle.ownAtoms own ic X names).filter vx_no
/-- a word that the tables alone decide, or a good one -/
def vx_ot (w : Cond) : Bool := w.onTables || goodWord w
theorem vx_ot_at {args a' : Array Value} {s U : State} {w : Cond} (hW : s.WarmedH U.vm) (hvm : s.vm = U.vm) (hg : vx_ot w = true) (h : w.before args s = true) : w.before a' U = true := by
  simp only [vx_ot, Bool.or_eq_true] at hg
  rcases hg with hg | hg
  · exact va_tabs hg hvm h
  · exact word_at hW (good_of_word hg) h
/-- a list's words: the good ones out of the method's own list, the others by premises of their own -/
theorem vx_hat {args : Array Value} {s : State} {L B : List Cond} (h1 : ∀ w ∈ L.filter goodWord, w.before args s = true) (h2 : ∀ w ∈ L.filter (fun w => !goodWord w), w ∈ B) (h3 : ∀ w ∈ B, w.before args s = true) : ∀ w ∈ L, w.before args s = true := by
  intro w hw
  by_cases g : goodWord w = true
  · exact h1 w (List.mem_filter.mpr ⟨hw, g⟩)
  · refine h3 w (h2 w (List.mem_filter.mpr ⟨hw, ?_⟩))
    show (!goodWord w) = true
    cases hgw : goodWord w
    · rfl
    · exact absurd hgw g
theorem vx_c {args : Array Value} {s : State} {w : Cond} {B : List Cond} (h : w.before args s = true) (t : ∀ w ∈ B, w.before args s = true) : ∀ w' ∈ w :: B, w'.before args s = true := fun w' h' => (List.mem_cons.mp h').elim (fun e => by rw [e]; exact h) (t w')
theorem vx_n {args : Array Value} {s : State} : ∀ w ∈ ([] : List Cond), w.before args s = true := fun _ h => nomatch h
theorem vx_own {args : Array Value} {s : State} {L : List Cond} (h1 : ∀ w ∈ L.filter vx_no, w.before args s = true)
    (hU : (Cond.isRef (.static Bundle.tN "UNASSIGNED_STACK" Bundle.steD)).before args s = true) (hN : (Cond.isRef (.static Bundle.tN "SUPPRESSED_SENTINEL" Bundle.listD)).before args s = true)
    (lU : (Cond.laysStatic Bundle.tN "UNASSIGNED_STACK" Bundle.steD).before args s = true) (lN : (Cond.laysStatic Bundle.tN "SUPPRESSED_SENTINEL" Bundle.listD).before args s = true) : ∀ w ∈ L, w.before args s = true := by
  intro w hw
  by_cases e1 : w = .isRef (.static Bundle.tN "UNASSIGNED_STACK" Bundle.steD)
  · rw [e1]; exact hU
  · by_cases e2 : w = .isRef (.static Bundle.tN "SUPPRESSED_SENTINEL" Bundle.listD)
    · rw [e2]; exact hN
    · by_cases e3 : w = .laysStatic Bundle.tN "UNASSIGNED_STACK" Bundle.steD
      · rw [e3]; exact lU
      · by_cases e4 : w = .laysStatic Bundle.tN "SUPPRESSED_SENTINEL" Bundle.listD
        · rw [e4]; exact lN
        · exact h1 w (List.mem_filter.mpr ⟨hw, by unfold vx_no; rw [decide_eq_true e1, decide_eq_true e2, decide_eq_true e3, decide_eq_true e4]; rfl⟩)
/-- where a static field lies, its class's statics cell in H -/
def vx_L (C n d : String) (A : Nat → Prop) (U : State) (H : Heap) : Prop := ∃ (c : ClassId) (k : Class) (i : Nat) (f : Field) (a : Nat) (cell : Cell), U.vm.findClass C = some c ∧ U.fieldFound? C n d = some (c, k, i, f) ∧ f.isStatic = true ∧ k.statics = some a ∧ H[a]? = some cell ∧ cell.vm.isStatics = true ∧ cell.cls = c ∧ f.slot < cell.slots.size ∧ k.staticTypes[f.slot]? = some f.type ∧ ¬ A a
theorem vx_L.moved {C n d : String} {A : Nat → Prop} {u U : State} {H : Heap} (hvm : u.vm.Alike U.vm) (h : vx_L C n d A u H) : vx_L C n d A U H := by
  obtain ⟨c, k, i, f, a, cell, h1, h2, h3, h4, h5, h6, h7, h8, h9, h10⟩ := h
  obtain ⟨k', hi', he⟩ := State.fieldFound?_setVm hvm h2
  exact ⟨c, k', i, f, a, cell, by rw [hvm.findClass]; exact h1, hi', h3, by rw [he]; exact h4, h5, h6, h7, h8, by rw [he]; exact h9, h10⟩
theorem vx_L.kept {C n d : String} {A : Nat → Prop} {U : State} {H H1 : Heap} (h : vx_L C n d A U H) (hq : ∀ a : Nat, a < H.size → ¬ A a → H1[a]? = H[a]?) : vx_L C n d A U H1 := by
  obtain ⟨c, k, i, f, a, cell, h1, h2, h3, h4, h5, h6, h7, h8, h9, h10⟩ := h
  exact ⟨c, k, i, f, a, cell, h1, h2, h3, h4, by rw [hq a (Array.getElem?_eq_some_iff.mp h5).1 h10]; exact h5, h6, h7, h8, h9, h10⟩
theorem vx_L.narrow {C n d : String} {A B : Nat → Prop} {U : State} {H : Heap} (h : vx_L C n d A U H) (hAB : ∀ q, B q → A q) : vx_L C n d B U H := by
  obtain ⟨c, k, i, f, a, cell, h1, h2, h3, h4, h5, h6, h7, h8, h9, h10⟩ := h
  exact ⟨c, k, i, f, a, cell, h1, h2, h3, h4, h5, h6, h7, h8, h9, fun z => h10 (hAB _ z)⟩
theorem vx_L.word {C n d : String} {A : Nat → Prop} {s : State} {args : Array Value} (h : vx_L C n d A s s.heap) : (Cond.laysStatic C n d).before args s = true := by
  obtain ⟨c, k, i, f, a, cell, h1, h2, h3, h4, h5, h6, h7, h8, h9, -⟩ := h
  show (Cond.laysStatic C n d).holds args s none s [] = true
  exact Cond.laysStatic_of h1 h2 h3 h4 h5 h6 h7 h8 h9
/-- .. and what it holds: null or some reference -/
def vx_Zq (C n d : String) (A : Nat → Prop) (U : State) (H : Heap) : Prop := va_Zq C n d A U H ∧ vx_L C n d A U H
theorem vx_Zq.moved {C n d : String} {A : Nat → Prop} {u U : State} {H : Heap} (hvm : u.vm.Alike U.vm) (h : vx_Zq C n d A u H) : vx_Zq C n d A U H := ⟨va_Zq.moved hvm h.1, vx_L.moved hvm h.2⟩
theorem vx_Zq.kept {C n d : String} {A : Nat → Prop} {U : State} {H H1 : Heap} (h : vx_Zq C n d A U H) (hq : ∀ a : Nat, a < H.size → ¬ A a → H1[a]? = H[a]?) : vx_Zq C n d A U H1 := ⟨va_Zq.kept h.1 hq, vx_L.kept h.2 hq⟩
theorem vx_Zq.narrow {C n d : String} {A B : Nat → Prop} {U : State} {H : Heap} (h : vx_Zq C n d A U H) (hAB : ∀ q, B q → A q) : vx_Zq C n d B U H := ⟨va_Zq.narrow h.1 hAB, vx_L.narrow h.2 hAB⟩
theorem vx_Zqof {args : Array Value} {s : State} {C n d : String} {A : Nat → Prop} (hl : (Cond.laysStatic C n d).before args s = true) (hini : (Cond.initialized C).before args s = true) (h : (Cond.isRef (.static C n d)).before args s = true) (hA : ∀ a : Nat, a < s.heap.size → ¬ A a) : vx_Zq C n d A s s.heap := by
  refine ⟨va_Zqof hl hini h hA, ?_⟩
  obtain ⟨c, k, i, f, a, cell, h1, h2, h3, h4, h5, h6, h7, h8, h9⟩ := Cond.laysStatic_spec hl
  exact ⟨c, k, i, f, a, cell, h1, h2, h3, h4, h5, h6, h7, h8, h9, hA a (Array.getElem?_eq_some_iff.mp h5).1⟩
theorem vx_isRef {C n d : String} {v : Value} {A : Nat → Prop} {s : State} {args : Array Value} (h : va_Z C n d v A s s.heap) (hv : v.isRef = true) : (Cond.isRef (.static C n d)).before args s = true := by
  obtain ⟨cf, kf, fi, f, a, cell, h1, h2, h3, h4, h5, h6, h7, -⟩ := h
  have he : (Term.static C n d).eval args s none [] s = some v := by
    simp [Term.eval, State.fieldNamed?, h1, h2, h4, h5, h6, h7]
  simp only [Cond.before, Cond.holds, Cond.value, he]
  cases v <;> simp_all [Value.isRef]
theorem vx_isRefq {C n d : String} {A : Nat → Prop} {s : State} {args : Array Value} (h : va_Zq C n d A s s.heap) : (Cond.isRef (.static C n d)).before args s = true := by
  rcases h with h | ⟨t, h⟩
  · exact vx_isRef h rfl
  · exact vx_isRef h rfl
/-- the same frame, seen from here: as if the method were called anew in this heap -/
theorem vx_rebase {T : State} (X : Stand p l e R s m args below meth c T locs cells slots) {R' : Room} (hf : R'.frames ≤ R.frames) (hl : R'.locals ≤ R.locals) (hc : cells + R'.cells ≤ R.cells) (hs : slots + R'.slots ≤ R.slots) :
    Stand p l e R' ((T.setVm s.vm).setFrames (.invoking m args :: below)) m args below meth c T [] 0 0 := by
  have htop : (T.setVm s.vm).topJava?.isSome := X.here.top
  have hF : ((T.setVm s.vm).setFrames (.invoking m args :: below)).frames = .invoking m args :: below := State.frames_setFrames _ (State.cur_lt_of_top htop)
  obtain ⟨g₀, hg0⟩ := Option.isSome_iff_exists.mp htop
  obtain ⟨r, hr⟩ := State.topJava?_eq_some.mp hg0
  have hl9 : e.platform.stackLimits (T.setVm s.vm).me = e.platform.stackLimits s.me := X.limits
  have hb9 : (T.setVm s.vm).me.stackBytes = s.me.stackBytes := X.bytes
  refine ⟨X.admits, X.cas, X.clock, hF, ?_, X.hears, X.method, X.code, X.here, X.tail, X.warmed, ?_, ?_, ?_⟩
  · have h := X.room
    have hU : ((T.setVm s.vm).setFrames (.invoking m args :: below)).localsInUse = s.localsInUse := by
      rw [State.localsInUse_invoking hF (meth := meth) (c := c) X.method X.code, State.localsInUse_invoking X.frames X.method X.code]
    simp only [State.hasRoom, Bool.and_eq_true, decide_eq_true_eq] at h ⊢
    obtain ⟨⟨⟨⟨h1, h2, h3, h4, h5, h6⟩, h7⟩, h8⟩, h9⟩ := h
    rw [X.frames, List.length_cons] at h2 h3
    have q1 := X.heapSize
    have q2 := X.used
    simp only [hF, hU, List.length_cons, State.stackLimits_setFrames, State.stackBytes_setFrames, hl9, hb9]
    refine ⟨⟨⟨⟨by omega, by omega, by omega, by omega, by omega, h6⟩, ?_⟩, ?_⟩, X.book⟩
    · show T.heap.size + R'.cells ≤ e.platform.maxCells
      omega
    · show T.slotsUsed + R'.slots ≤ e.platform.maxSlots
      omega
  · rw [State.stackLimits_setFrames]; rfl
  · rw [State.stackBytes_setFrames]; rfl
  · refine ⟨?_, Nat.le_refl _, Nat.le_refl _, ?_, ?_, fun a c9 h9 => ⟨c9, h9, rfl, rfl, fun _ _ => rfl⟩⟩
    · obtain ⟨t, ht, -⟩ := State.frames_cons hr
      show T.setVm s.vm = { ((T.setVm s.vm).setFrames (.invoking m args :: below)).setFrames (T.setVm s.vm).frames with heap := T.heap, slotsUsed := T.slotsUsed }
      rw [State.setFrames_setFrames, State.setFrames_self ht]
      rfl
    · show T.slotsUsed = T.slotsUsed + ((T.heap.toList.drop T.heap.size).map (·.slots.size)).sum
      rw [List.drop_eq_nil_of_le (Nat.le_of_eq Array.length_toList)]
      rfl
    · show ((T.heap.toList.drop T.heap.size).map (·.slots.size)).sum ≤ 0
      rw [List.drop_eq_nil_of_le (Nat.le_of_eq Array.length_toList)]
      exact Nat.le_refl _
/-- 'throw new E()': new; dup; invokespecial; athrow -/
theorem vx_throw0 {cc : ByteArray} {pc : Nat} (hexec : p.tables.exec = Jvm.exec) (hb : c.code = cc) (hl : l.stackTraces = false) {own cls : String} {names : List String} {ik ic mc ms : Nat} {A : Nat → Prop}
    (hown : s.vm.findClass own = some m.cls) (hcls : Bundle.fit cls = true) (hnames : ∀ n ∈ names, Bundle.fit n = true)
    (hk : (Cond.classLink own ik cls).before args s = true) (hini : (Cond.initialized cls).before args s = true) (hat : ∀ w ∈ vx_at0 own ic cls names, w.before args s = true)
    (hgood : ∀ w ∈ Cond.classLink own ik cls :: Cond.initialized cls :: vx_at0 own ic cls names, vx_ot w = true)
    (hU : vx_Zq Bundle.tN "UNASSIGNED_STACK" Bundle.steD A s s.heap) (hN : vx_Zq Bundle.tN "SUPPRESSED_SENTINEL" Bundle.listD A s s.heap) (hS : va_S A s.heap H locs) (hsize : ls.size = c.maxLocals)
    (d0 : decode cc pc = .ok (.new ik, 3)) (d3 : decode cc (pc + 3) = .ok (.dup, 1)) (d4 : decode cc (pc + 4) = .ok (.invokespecial ic, 3)) (d7 : decode cc (pc + 7) = .ok (.athrow, 1))
    (hout : ∀ x ∈ c.exceptionTable.toList, covers x (pc + 7) = false)
    (hRframes : names.length + 3 < R.frames) (hRlocals : (rest.map fun v => v.category).sum + (13 * (names.length + 1) + 42) ≤ R.locals) (hRcells : cells + 1 ≤ R.cells) (hRslots : slots + 6 ≤ R.slots) (hlocks : meth.locks = false)
    (hx : ∀ t : State, s.vm.Alike t.vm → H.size ≤ t.heap.size → (∀ q : Nat, q < H.size → t.heap[q]? = H[q]?) → XC cls s t)
    (hf : ∀ z ∈ locs, free z.base) (hc : cells + 1 ≤ mc) (hs : slots + 6 ≤ ms) :
    W p l e R s m args below meth c H locs cells slots (vx_MQ below Qc XC args s mc ms free) (F0 m pc ls rest) := by
  intro T hT X
  have htr : e.platform.stackTraces = false := (show e.platform.stackTraces = l.stackTraces by rw [X.admits.platform]).trans hl
  have Y := vx_rebase X (R' := { frames := R.frames, locals := R.locals, cells := 1, slots := 6 }) (Nat.le_refl _) (Nat.le_refl _) hRcells hRslots
  obtain ⟨s', hA⟩ : ∃ z, z = (T.setVm s.vm).setFrames (.invoking m args :: below) := ⟨_, rfl⟩
  rw [← hA] at Y
  have hvm : s'.vm = s.vm := by rw [hA]; rfl
  have hhp : s'.heap = H := by rw [hA]; exact hT
  have hW0 : s.WarmedH s'.vm := by rw [hvm]; exact State.WarmedH.refl s
  have hat' : ∀ w ∈ vx_at0 own ic cls names, w.before args s' = true := fun w hw => vx_ot_at hW0 hvm.symm (hgood w (List.mem_cons_of_mem _ (List.mem_cons_of_mem _ hw))) (hat w hw)
  have hk' : (Cond.classLink own ik cls).before args s' = true := vx_ot_at hW0 hvm.symm (hgood _ List.mem_cons_self) hk
  have hini' : (Cond.initialized cls).before args s' = true := vx_ot_at hW0 hvm.symm (hgood _ (List.mem_cons_of_mem _ List.mem_cons_self)) hini
  have hU' : vx_Zq Bundle.tN "UNASSIGNED_STACK" Bundle.steD A s' s'.heap := by rw [hhp]; exact vx_Zq.moved hW0.alike (hU.kept hS.2.1)
  have hN' : vx_Zq Bundle.tN "SUPPRESSED_SENTINEL" Bundle.listD A s' s'.heap := by rw [hhp]; exact vx_Zq.moved hW0.alike (hN.kept hS.2.1)
  have h : ∀ w ∈ Bundle.ownAtoms0 own ic cls names, w.before args s' = true := vx_own hat' (vx_isRefq hU'.1) (vx_isRefq hN'.1) hU'.2.word hN'.2.word
  have hown' : s'.vm.findClass own = some m.cls := by rw [hvm]; exact hown
  have hins : (Cond.instantiable cls 6).before args s' = true := h _ (by simp [Bundle.ownAtoms0])
  obtain ⟨vm₁, cX, kX, hfX, hkX, -, -, X₁, st1⟩ := Y.newCold hexec (own := own) (C := cls) (index := ik) (n := 6) hown' hk' hins hini'
    (g := F0 m pc ls rest) rfl (by rw [hb]; exact d0) (Nat.le_refl _) (Nat.le_refl _)
  generalize hT1 : (T.setVm vm₁).pushCell { cls := cX, slots := kX.instanceTypes.map defaultValue, vm := .none } = T1 at X₁ st1
  have hcat : (Value.ref T.heap.size).category = 1 := rfl
  have hcellA : T1.heap[T.heap.size]? = some (freshCell cX kX) := by rw [← hT1]; exact State.heap_pushCell_size _ _
  have d3' : decode c.code (pc + 3) = .ok (.dup, 1) := by rw [hb]; exact d3
  obtain ⟨U, hsteps, hrun, hend, hW, hsame, ce, hce, hO⟩ := X₁.ctorThrow0 hexec htr (own := own) (cls := cls) (names := names) (ic := ic) hown' hcls hnames h (fun x hx => nomatch hx) hfX hkX hcellA (by rw [hhp, hT]; exact Nat.le_refl _)
    (g := { method := m, pc := pc + 4, locals := ls, stack := .ref T.heap.size :: .ref T.heap.size :: rest, locked := none }) rfl hsize rfl rfl (rest := rest) rfl
    (by rw [hb]; exact d4) (by rw [hb]; exact d7) hout hRframes (by simp only [List.map_cons, List.sum_cons, hcat]; omega) hlocks
  obtain ⟨f1, f2⟩ := vx_frame hsame
  rw [hhp] at f1 f2
  have hWs : s.WarmedH U.vm := State.WarmedH.trans hW0 hW
  have hcl : s.vm.findClass cls = some ce.cls := by
    have h9 := hO.cls
    rw [hvm] at h9
    exact h9
  have hall : s.sameButNew ({ U with vm := s.vm } : State) locs mc ms := by
    subst hA
    obtain ⟨e1, e2⟩ := hsame
    rw [State.setFrames_setFrames] at e1
    have h2 : (T.setVm s.vm).sameButNew ({ U with vm := s.vm } : State) [] (0 + 1) (0 + 6) := ⟨e1, e2⟩
    have h3 := X.same.trans h2
    rw [List.append_nil] at h3
    exact h3.mono hc hs
  refine ⟨U, ?_, .threw T.heap.size, hrun, hend, Or.inr ⟨T.heap.size, rfl, cls, ce, locs, hx U hWs.alike f1 (fun q hq => f2 q hq (fun z hz => nomatch hz)), hce, hO.vm, hcl, hWs, hall, hf⟩⟩
  refine st1 _ ?_
  show Steps p.tables e below (T1.setTop { method := m, pc := pc + 3, locals := ls, stack := .ref T.heap.size :: rest, locked := none }) _
  jvm_step X₁.here [X₁.here.top, hexec, d3', Value.category]
  exact hsteps
/-- 'throw new E("text")': new; dup; ldc; invokespecial; athrow -/
theorem vx_throwS {cc : ByteArray} {pc : Nat} (hexec : p.tables.exec = Jvm.exec) (hb : c.code = cc) (hl : l.stackTraces = false) {own cls text : String} {names : List String} {ik is ic mc ms sa : Nat} {A : Nat → Prop}
    (hown : s.vm.findClass own = some m.cls) (hcls : Bundle.fit cls = true) (hnames : ∀ n ∈ names, Bundle.fit n = true)
    (hk : (Cond.classLink own ik cls).before args s = true) (hini : (Cond.initialized cls).before args s = true) (hstr : vk_R own is text sa s) (hat : ∀ w ∈ vx_atS own ic cls names, w.before args s = true)
    (hgood : ∀ w ∈ Cond.classLink own ik cls :: Cond.initialized cls :: vx_atS own ic cls names, vx_ot w = true)
    (hU : vx_Zq Bundle.tN "UNASSIGNED_STACK" Bundle.steD A s s.heap) (hN : vx_Zq Bundle.tN "SUPPRESSED_SENTINEL" Bundle.listD A s s.heap) (hS : va_S A s.heap H locs) (hsize : ls.size = c.maxLocals)
    (d0 : decode cc pc = .ok (.new ik, 3)) (d3 : decode cc (pc + 3) = .ok (.dup, 1)) (d4 : decode cc (pc + 4) = .ok (.ldc is, 2)) (d6 : decode cc (pc + 6) = .ok (.invokespecial ic, 3)) (d9 : decode cc (pc + 9) = .ok (.athrow, 1))
    (hout : ∀ x ∈ c.exceptionTable.toList, covers x (pc + 9) = false)
    (hRframes : names.length + 3 < R.frames) (hRlocals : (rest.map fun v => v.category).sum + (13 * (names.length + 1) + 43) ≤ R.locals) (hRcells : cells + 1 ≤ R.cells) (hRslots : slots + 6 ≤ R.slots) (hlocks : meth.locks = false)
    (hx : ∀ t : State, s.vm.Alike t.vm → H.size ≤ t.heap.size → (∀ q : Nat, q < H.size → t.heap[q]? = H[q]?) → XC cls s t)
    (hf : ∀ z ∈ locs, free z.base) (hc : cells + 1 ≤ mc) (hs : slots + 6 ≤ ms) :
    W p l e R s m args below meth c H locs cells slots (vx_MQ below Qc XC args s mc ms free) (F0 m pc ls rest) := by
  intro T hT X
  have htr : e.platform.stackTraces = false := (show e.platform.stackTraces = l.stackTraces by rw [X.admits.platform]).trans hl
  have Y := vx_rebase X (R' := { frames := R.frames, locals := R.locals, cells := 1, slots := 6 }) (Nat.le_refl _) (Nat.le_refl _) hRcells hRslots
  obtain ⟨s', hA⟩ : ∃ z, z = (T.setVm s.vm).setFrames (.invoking m args :: below) := ⟨_, rfl⟩
  rw [← hA] at Y
  have hvm : s'.vm = s.vm := by rw [hA]; rfl
  have hhp : s'.heap = H := by rw [hA]; exact hT
  have hW0 : s.WarmedH s'.vm := by rw [hvm]; exact State.WarmedH.refl s
  have hat' : ∀ w ∈ vx_atS own ic cls names, w.before args s' = true := fun w hw => vx_ot_at hW0 hvm.symm (hgood w (List.mem_cons_of_mem _ (List.mem_cons_of_mem _ hw))) (hat w hw)
  have hk' : (Cond.classLink own ik cls).before args s' = true := vx_ot_at hW0 hvm.symm (hgood _ List.mem_cons_self) hk
  have hini' : (Cond.initialized cls).before args s' = true := vx_ot_at hW0 hvm.symm (hgood _ (List.mem_cons_of_mem _ List.mem_cons_self)) hini
  have hU' : vx_Zq Bundle.tN "UNASSIGNED_STACK" Bundle.steD A s' s'.heap := by rw [hhp]; exact vx_Zq.moved hW0.alike (hU.kept hS.2.1)
  have hN' : vx_Zq Bundle.tN "SUPPRESSED_SENTINEL" Bundle.listD A s' s'.heap := by rw [hhp]; exact vx_Zq.moved hW0.alike (hN.kept hS.2.1)
  have h : ∀ w ∈ Bundle.ownAtoms own ic cls names, w.before args s' = true := vx_own hat' (vx_isRefq hU'.1) (vx_isRefq hN'.1) hU'.2.word hN'.2.word
  have hown' : s'.vm.findClass own = some m.cls := by rw [hvm]; exact hown
  have hins : (Cond.instantiable cls 6).before args s' = true := h _ (by simp [Bundle.ownAtoms])
  obtain ⟨vm₁, cX, kX, hfX, hkX, -, -, X₁, st1⟩ := Y.newCold hexec (own := own) (C := cls) (index := ik) (n := 6) hown' hk' hins hini'
    (g := F0 m pc ls rest) rfl (by rw [hb]; exact d0) (Nat.le_refl _) (Nat.le_refl _)
  generalize hT1 : (T.setVm vm₁).pushCell { cls := cX, slots := kX.instanceTypes.map defaultValue, vm := .none } = T1 at X₁ st1
  have hcat : (Value.ref T.heap.size).category = 1 := rfl
  have hcellA : T1.heap[T.heap.size]? = some (freshCell cX kX) := by rw [← hT1]; exact State.heap_pushCell_size _ _
  have d3' : decode c.code (pc + 3) = .ok (.dup, 1) := by rw [hb]; exact d3
  have d4' : decode c.code (pc + 4) = .ok (.ldc is, 2) := by rw [hb]; exact d4
  have hstr' : vk_R own is text sa s' := vk_R.warm hW0 hstr
  obtain ⟨U, hsteps, hrun, hend, hW, hsame, ce, hce, hO⟩ := X₁.ctorThrowS hexec htr (own := own) (cls := cls) (names := names) (ic := ic) hown' hcls hnames h (fun x hx => nomatch hx) hfX hkX hcellA (by rw [hhp, hT]; exact Nat.le_refl _) (msg := .ref sa) rfl
    (g := { method := m, pc := pc + 6, locals := ls, stack := .ref sa :: .ref T.heap.size :: .ref T.heap.size :: rest, locked := none }) rfl hsize rfl rfl (rest := rest) rfl
    (by rw [hb]; exact d6) (by rw [hb]; exact d9) hout hRframes (by simp only [List.map_cons, List.sum_cons, hcat]; omega) hlocks
  obtain ⟨f1, f2⟩ := vx_frame hsame
  rw [hhp] at f1 f2
  have hWs : s.WarmedH U.vm := State.WarmedH.trans hW0 hW
  have hcl : s.vm.findClass cls = some ce.cls := by
    have h9 := hO.cls
    rw [hvm] at h9
    exact h9
  have hall : s.sameButNew ({ U with vm := s.vm } : State) locs mc ms := by
    subst hA
    obtain ⟨e1, e2⟩ := hsame
    rw [State.setFrames_setFrames] at e1
    have h2 : (T.setVm s.vm).sameButNew ({ U with vm := s.vm } : State) [] (0 + 1) (0 + 6) := ⟨e1, e2⟩
    have h3 := X.same.trans h2
    rw [List.append_nil] at h3
    exact h3.mono hc hs
  refine ⟨U, ?_, .threw T.heap.size, hrun, hend, Or.inr ⟨T.heap.size, rfl, cls, ce, locs, hx U hWs.alike f1 (fun q hq => f2 q hq (fun z hz => nomatch hz)), hce, hO.vm, hcl, hWs, hall, hf⟩⟩
  refine st1 _ ?_
  show Steps p.tables e below (T1.setTop { method := m, pc := pc + 3, locals := ls, stack := .ref T.heap.size :: rest, locked := none }) _
  jvm_step X₁.here [X₁.here.top, hexec, d3', Value.category]
  exact X₁.ldcString hexec (own := own) (text := text) (index := is) (a := sa) hown' hstr'.1 hstr'.2
    (g := { method := m, pc := pc + 4, locals := ls, stack := .ref T.heap.size :: .ref T.heap.size :: rest, locked := none }) rfl d4' _ hsteps
/-- 'throw new E("text")', the text by a wide index -/
theorem vx_throwSW {cc : ByteArray} {pc : Nat} (hexec : p.tables.exec = Jvm.exec) (hb : c.code = cc) (hl : l.stackTraces = false) {own cls text : String} {names : List String} {ik is ic mc ms sa : Nat} {A : Nat → Prop}
    (hown : s.vm.findClass own = some m.cls) (hcls : Bundle.fit cls = true) (hnames : ∀ n ∈ names, Bundle.fit n = true)
    (hk : (Cond.classLink own ik cls).before args s = true) (hini : (Cond.initialized cls).before args s = true) (hstr : vk_R own is text sa s) (hat : ∀ w ∈ vx_atS own ic cls names, w.before args s = true)
    (hgood : ∀ w ∈ Cond.classLink own ik cls :: Cond.initialized cls :: vx_atS own ic cls names, vx_ot w = true)
    (hU : vx_Zq Bundle.tN "UNASSIGNED_STACK" Bundle.steD A s s.heap) (hN : vx_Zq Bundle.tN "SUPPRESSED_SENTINEL" Bundle.listD A s s.heap) (hS : va_S A s.heap H locs) (hsize : ls.size = c.maxLocals)
    (d0 : decode cc pc = .ok (.new ik, 3)) (d3 : decode cc (pc + 3) = .ok (.dup, 1)) (d4 : decode cc (pc + 4) = .ok (.ldc_w is, 3)) (d7 : decode cc (pc + 7) = .ok (.invokespecial ic, 3)) (d10 : decode cc (pc + 10) = .ok (.athrow, 1))
    (hout : ∀ x ∈ c.exceptionTable.toList, covers x (pc + 10) = false)
    (hRframes : names.length + 3 < R.frames) (hRlocals : (rest.map fun v => v.category).sum + (13 * (names.length + 1) + 43) ≤ R.locals) (hRcells : cells + 1 ≤ R.cells) (hRslots : slots + 6 ≤ R.slots) (hlocks : meth.locks = false)
    (hx : ∀ t : State, s.vm.Alike t.vm → H.size ≤ t.heap.size → (∀ q : Nat, q < H.size → t.heap[q]? = H[q]?) → XC cls s t)
    (hf : ∀ z ∈ locs, free z.base) (hc : cells + 1 ≤ mc) (hs : slots + 6 ≤ ms) :
    W p l e R s m args below meth c H locs cells slots (vx_MQ below Qc XC args s mc ms free) (F0 m pc ls rest) := by
  intro T hT X
  have htr : e.platform.stackTraces = false := (show e.platform.stackTraces = l.stackTraces by rw [X.admits.platform]).trans hl
  have Y := vx_rebase X (R' := { frames := R.frames, locals := R.locals, cells := 1, slots := 6 }) (Nat.le_refl _) (Nat.le_refl _) hRcells hRslots
  obtain ⟨s', hA⟩ : ∃ z, z = (T.setVm s.vm).setFrames (.invoking m args :: below) := ⟨_, rfl⟩
  rw [← hA] at Y
  have hvm : s'.vm = s.vm := by rw [hA]; rfl
  have hhp : s'.heap = H := by rw [hA]; exact hT
  have hW0 : s.WarmedH s'.vm := by rw [hvm]; exact State.WarmedH.refl s
  have hat' : ∀ w ∈ vx_atS own ic cls names, w.before args s' = true := fun w hw => vx_ot_at hW0 hvm.symm (hgood w (List.mem_cons_of_mem _ (List.mem_cons_of_mem _ hw))) (hat w hw)
  have hk' : (Cond.classLink own ik cls).before args s' = true := vx_ot_at hW0 hvm.symm (hgood _ List.mem_cons_self) hk
  have hini' : (Cond.initialized cls).before args s' = true := vx_ot_at hW0 hvm.symm (hgood _ (List.mem_cons_of_mem _ List.mem_cons_self)) hini
  have hU' : vx_Zq Bundle.tN "UNASSIGNED_STACK" Bundle.steD A s' s'.heap := by rw [hhp]; exact vx_Zq.moved hW0.alike (hU.kept hS.2.1)
  have hN' : vx_Zq Bundle.tN "SUPPRESSED_SENTINEL" Bundle.listD A s' s'.heap := by rw [hhp]; exact vx_Zq.moved hW0.alike (hN.kept hS.2.1)
  have h : ∀ w ∈ Bundle.ownAtoms own ic cls names, w.before args s' = true := vx_own hat' (vx_isRefq hU'.1) (vx_isRefq hN'.1) hU'.2.word hN'.2.word
  have hown' : s'.vm.findClass own = some m.cls := by rw [hvm]; exact hown
  have hins : (Cond.instantiable cls 6).before args s' = true := h _ (by simp [Bundle.ownAtoms])
  obtain ⟨vm₁, cX, kX, hfX, hkX, -, -, X₁, st1⟩ := Y.newCold hexec (own := own) (C := cls) (index := ik) (n := 6) hown' hk' hins hini'
    (g := F0 m pc ls rest) rfl (by rw [hb]; exact d0) (Nat.le_refl _) (Nat.le_refl _)
  generalize hT1 : (T.setVm vm₁).pushCell { cls := cX, slots := kX.instanceTypes.map defaultValue, vm := .none } = T1 at X₁ st1
  have hcat : (Value.ref T.heap.size).category = 1 := rfl
  have hcellA : T1.heap[T.heap.size]? = some (freshCell cX kX) := by rw [← hT1]; exact State.heap_pushCell_size _ _
  have d3' : decode c.code (pc + 3) = .ok (.dup, 1) := by rw [hb]; exact d3
  have d4' : decode c.code (pc + 4) = .ok (.ldc_w is, 3) := by rw [hb]; exact d4
  have hstr' : vk_R own is text sa s' := vk_R.warm hW0 hstr
  obtain ⟨U, hsteps, hrun, hend, hW, hsame, ce, hce, hO⟩ := X₁.ctorThrowS hexec htr (own := own) (cls := cls) (names := names) (ic := ic) hown' hcls hnames h (fun x hx => nomatch hx) hfX hkX hcellA (by rw [hhp, hT]; exact Nat.le_refl _) (msg := .ref sa) rfl
    (g := { method := m, pc := pc + 7, locals := ls, stack := .ref sa :: .ref T.heap.size :: .ref T.heap.size :: rest, locked := none }) rfl hsize rfl rfl (rest := rest) rfl
    (by rw [hb]; exact d7) (by rw [hb]; exact d10) hout hRframes (by simp only [List.map_cons, List.sum_cons, hcat]; omega) hlocks
  obtain ⟨f1, f2⟩ := vx_frame hsame
  rw [hhp] at f1 f2
  have hWs : s.WarmedH U.vm := State.WarmedH.trans hW0 hW
  have hcl : s.vm.findClass cls = some ce.cls := by
    have h9 := hO.cls
    rw [hvm] at h9
    exact h9
  have hall : s.sameButNew ({ U with vm := s.vm } : State) locs mc ms := by
    subst hA
    obtain ⟨e1, e2⟩ := hsame
    rw [State.setFrames_setFrames] at e1
    have h2 : (T.setVm s.vm).sameButNew ({ U with vm := s.vm } : State) [] (0 + 1) (0 + 6) := ⟨e1, e2⟩
    have h3 := X.same.trans h2
    rw [List.append_nil] at h3
    exact h3.mono hc hs
  refine ⟨U, ?_, .threw T.heap.size, hrun, hend, Or.inr ⟨T.heap.size, rfl, cls, ce, locs, hx U hWs.alike f1 (fun q hq => f2 q hq (fun z hz => nomatch hz)), hce, hO.vm, hcl, hWs, hall, hf⟩⟩
  refine st1 _ ?_
  show Steps p.tables e below (T1.setTop { method := m, pc := pc + 3, locals := ls, stack := .ref T.heap.size :: rest, locked := none }) _
  jvm_step X₁.here [X₁.here.top, hexec, d3', Value.category]
  exact X₁.ldcStringW hexec (own := own) (text := text) (index := is) (a := sa) hown' hstr'.1 hstr'.2
    (g := { method := m, pc := pc + 4, locals := ls, stack := .ref T.heap.size :: .ref T.heap.size :: rest, locked := none }) rfl d4' _ hsteps
end Ends
section Bodies
variable {l : Launch}
theorem vx_ofW {y : MethodName} {ws ws' : List Cond} {rm : Room} {Pc : Array Value → State → Prop} {Qc : Array Value → State → Outcome → State → Prop} {XC : String → State → State → Prop} {mc ms : Nat} {free : Addr → Prop} {cc : ByteArray} {maxL : Nat} {ret : Option FieldType}
    (hy : plainName y.cls = true) (hw : ws = Cond.code y cc maxL ret :: ws')
    (body : ∀ p e s m args below meth c s₁, BodyLoose p l y (headSpec ws rm) cc maxL ret e s m args below meth c s₁ → c.maxLocals = maxL → (∀ x ∈ c.exceptionTable.toList, False) → Pc args s →
      W p l e (headSpec ws rm).room s m args below meth c s.heap [] 0 0 (vx_MQ below Qc XC args s mc ms free) (entryFrame m args maxL)) : vx_Met l y ws rm Pc Qc XC mc ms free := by
  refine MetFree.of_bodyS (code := cc) (maxLocals := maxL) (ret := ret) hy ?_ ?_
  · intro args s m h hn
    obtain ⟨meth, c, h1, h2, h3, h4, h5, h6, -, -⟩ := Cond.code_spec hn (atoms_spec (ws := ws) h _ (by rw [hw]; exact List.mem_cons_self))
    exact ⟨meth, c, h1, h2, h3, h4, h5, h6⟩
  · intro p e s m args below meth c s₁ B hml hP _
    have hh0 : s₁.heap = s.heap := by rw [B.state]; rfl
    have ht : ∀ x ∈ c.exceptionTable.toList, False := by
      obtain ⟨meth9, c9, h1, h2, -, -, -, -, h7, -⟩ := Cond.code_spec B.named (atoms_spec (ws := ws) B.pre _ (by rw [hw]; exact List.mem_cons_self))
      cases Option.some.inj (h1.symm.trans B.method)
      cases Option.some.inj (h2.symm.trans (Stand.of_body B).code)
      intro x hx
      rw [Array.isEmpty_iff.mp h7] at hx
      cases hx
    obtain ⟨t, a1, o, b1, b2, b3⟩ := body p e s m args below meth c s₁ B hml ht hP s₁ hh0 (Stand.of_body B)
    exact ⟨t, o, a1, b1, b2, b3⟩
/-- the table of a body with handlers -/
theorem vx_table {p : Program} {x y : MethodName} {S : Spec} {cc bytes : ByteArray} {maxL maxL' : Nat} {ret ret' : Option FieldType} {e : Env} {s s₁ : State} {m : MethodId} {args : Array Value} {below : List Frame} {meth : Method} {c : Code} {hh : List (Nat × Nat × Nat × Nat)}
    (B : BodyLoose p l y S cc maxL ret e s m args below meth c s₁) (h : (Cond.codeWith y bytes maxL' ret' hh).before args s = true) : c.exceptionTable.toList = tableOf hh := by
  obtain ⟨m9, meth9, c9, hn9, h1, h2, -, -, h6, -⟩ := Cond.codeWith_spec h
  cases Option.some.inj (hn9.symm.trans B.named)
  cases Option.some.inj (h1.symm.trans B.method)
  cases Option.some.inj (h2.symm.trans (Stand.of_body B).code)
  rw [← h6, table_eq]
end Bodies
end VXA
/-! ===== END ===== -/
/-! ===== BEGIN a static call of a method with an exception table ===== -/
section VXS
variable {p : Program} {l : Launch} {e : Env} {R : Room} {s : State} {m : MethodId} {args : Array Value} {below : List Frame} {meth : Method} {c : Code} {T : State} {H : Heap} {locs : List Loc} {cells slots : Nat}
abbrev vx_CSW (R : Room) (s : State) (args : Array Value) (own : String) (index : Nat) (y : MethodName) (bytes : ByteArray) (maxL : Nat) (ret : Option FieldType) (hh : List (Nat × Nat × Nat × Nat)) (ws : List Cond) (rm : Room) (mc ms n : Nat) : Prop :=
  (rm.cells = mc ∧ rm.slots = ms ∧ rm.frames + 1 ≤ R.frames ∧ 8 + (maxL + 11) + rm.locals ≤ R.locals ∧ (∀ w ∈ ws, ∀ (a' : Array Value) (U : State), s.WarmedH U.vm → w.before a' U = true) ∧ Cond.codeWith y bytes maxL ret hh ∈ ws) ∧
  (Cond.codeWith y bytes maxL ret hh).before args s = true ∧ (Cond.initialized y.cls).before args s = true ∧ (y.cls ≠ "java/lang/invoke/MethodHandle" ∧ y.cls ≠ "java/lang/invoke/VarHandle") ∧
  (∀ sig, parseMethodDescriptor y.desc = some sig → n = sig.parameters.length) ∧ (Cond.methodLink own index y).before args s = true ∧ (Cond.static y).before args s = true
theorem vx_cwSW {own : String} {index maxL mc ms : Nat} {y : MethodName} {bytes : ByteArray} {ret : Option FieldType} {hh : List (Nat × Nat × Nat × Nat)} {Ts ws ws' : List Cond} {rm : Room} (n : Nat) (ht : ∀ w ∈ Ts, w.before args s = true) (hT : GoodIn Ts (va_wsS own index y ws)) (hw : ws = Cond.codeWith y bytes maxL ret hh :: ws') (hrc : rm.cells = mc) (hrs : rm.slots = ms)
    (hd : y.cls ≠ "java/lang/invoke/MethodHandle" ∧ y.cls ≠ "java/lang/invoke/VarHandle" ∧ (parseMethodDescriptor y.desc).map (fun d => d.parameters.length) = some n) (hR : rm.frames + 1 ≤ R.frames ∧ 8 + (maxL + 11) + rm.locals ≤ R.locals) :
    vx_CSW R s args own index y bytes maxL ret hh ws rm mc ms n := by
  have ok : ∀ w ∈ va_wsS own index y ws, w.before args s = true := fun w h => ht w (hT w h).1
  have hG : GoodIn Ts ws := fun w h => hT w (by unfold va_wsS; exact List.mem_append_right _ h)
  have hc : Cond.codeWith y bytes maxL ret hh ∈ ws := by rw [hw]; exact List.mem_cons_self
  refine ⟨⟨hrc, hrs, hR.1, hR.2, pay_in ht hG, hc⟩, ht _ (hG _ hc).1, ok _ (by simp [va_wsS]), ⟨hd.1, hd.2.1⟩, fun sig h => ?_, ok _ (by simp [va_wsS]), ok _ (by simp [va_wsS])⟩
  have h2 := hd.2.2
  rw [h] at h2
  exact (Option.some.inj h2).symm
theorem vx_callSW (X : Stand p l e R s m args below meth c T locs cells slots) (hexec : p.tables.exec = Jvm.exec) {own : String} {index : Nat} {y : MethodName} {bytes : ByteArray} {maxL : Nat} {ret : Option FieldType} {hh : List (Nat × Nat × Nat × Nat)}
    (hown : s.vm.findClass own = some m.cls) (hlink : (Cond.methodLink own index y).before args s = true) (hstat : (Cond.static y).before args s = true) (hinit : (Cond.initialized y.cls).before args s = true)
    (hcode : (Cond.codeWith y bytes maxL ret hh).before args s = true) (hy : y.cls ≠ "java/lang/invoke/MethodHandle" ∧ y.cls ≠ "java/lang/invoke/VarHandle")
    {W9 : Nat} {Pre : Pt → Array Value → Prop} {Post : Pt → Array Value → Option Value → Pt → Prop} (hK : Back l R p e below s args y 3 W9 Pre Post)
    {g : JFrame} (hg : g.method = m) (hsize : g.locals.size = c.maxLocals) {argsL rest : List Value} (hlen : ∀ sig, parseMethodDescriptor y.desc = some sig → argsL.length = sig.parameters.length)
    (hstack : g.stack = argsL.reverse ++ rest) (hW : 2 * g.monitorRoom + (rest.map fun v => v.category).sum ≤ W9) (hdg : decode c.code g.pc = .ok (.invokestatic index, 3))
    (hpre : ∀ vm₁, s.WarmedH vm₁ → Pre ⟨T.setVm vm₁, locs, cells, slots⟩ argsL.toArray) :
    ∃ (v : Option Value) (vm₁ : Vm) (B : Pt), s.WarmedH vm₁ ∧ Stand p l e R s m args below meth c B.U B.locs B.cells B.slots ∧ Post ⟨T.setVm vm₁, locs, cells, slots⟩ argsL.toArray v B ∧
      ∀ target, Steps p.tables e below (B.U.setTop { g with pc := g.pc + 3, stack := v.toList ++ rest }) target → Steps p.tables e below (T.setTop g) target := by
  obtain ⟨mk, methM, cM, hnamed, hmethM, -, -, -, -, -, -, hsigM⟩ := Cond.codeWith_spec hcode
  have hstatic : methM.isStatic = true := Cond.static_spec hnamed hmethM hstat
  obtain ⟨kP, hkP, -⟩ := className_of_methodNamed hnamed
  have hinitP : kP.init = .initialized := Cond.initialized_spec (findClass_of_methodNamed hnamed) hkP hinit
  obtain ⟨vm₁, X₁, hstep₁⟩ := X.invokestatic hexec hown hlink hnamed hmethM hstatic hkP hinitP hy (g := g) hg (argsL := argsL) (rest := rest) (hlen _ hsigM) hstack hdg
  obtain ⟨v, B, X', hpost, hsteps⟩ := hK m meth c ⟨T.setVm vm₁, locs, cells, slots⟩ { g with stack := rest } (.invokestatic index) mk argsL.toArray X₁ hg hsize hdg hW (X₁.named hnamed) (hpre vm₁ X₁.warmed)
  exact ⟨v, vm₁, B, X₁.warmed, X', hpost, fun target h => hstep₁ _ fun acts => by rw [doInvoke_state]; exact hsteps.trans h⟩
theorem vx_runSW {y : MethodName} {bytes cc : ByteArray} {maxL nL mc ms n index : Nat} {ret : Option FieldType} {hh : List (Nat × Nat × Nat × Nat)} {ws : List Cond} {rm : Room} {Pc : Array Value → State → Prop} {Qc : Array Value → State → Outcome → State → Prop} {free : Addr → Prop} {Ts : List Cond} {own : String} {As rest : List Value} {g : JFrame}
    (S : CallFix p m c cc nL s args Ts own) (hM : Met l y ws rm Pc Qc mc ms free) (cw : vx_CSW R s args own index y bytes maxL ret hh ws rm mc ms n) (hp : PreS s H Pc As)
    (hg : g.method = m) (hn : As.length = n) (hsize : g.locals.size = nL) (hstack : g.stack = As.reverse ++ rest) (hW : 2 * g.monitorRoom + (rest.map fun v => v.category).sum ≤ 8) (hdg : decode cc g.pc = .ok (.invokestatic index, 3)) (hf : cells + mc ≤ R.cells ∧ slots + ms ≤ R.slots) :
    va_Run p l e R s m args below meth c H locs cells slots mc ms g rest (Qc As.toArray) (free) := by
  obtain ⟨⟨hrc, hrs, hfr, hlo, hws, hcw⟩, hcode, hini, hy, hlen, hl, hstt⟩ := cw
  have hK : Back l R p e below s args y 3 8 (PreOf R mc ms Pc) (PostOf Qc mc ms free) := va_backW (hh := hh) (bytes := bytes) (maxL := maxL) (ret := ret) hM hp.1 hrc hrs hfr hlo hws hcw (fun a' U hW => word_at hW (Or.inl (by first | rfl | simp [Cond.onTables, Cond.keeps, Cond.steady])) hini)
  obtain ⟨hx, hb, hml, ho, -⟩ := S
  intro T hT X
  obtain ⟨v, vm₁, ⟨U', l2, c2, s2⟩, hW₁, X', ⟨g', mk, t, L, e1, e2, hq, h1, hL, h2, h3⟩, st⟩ := vx_callSW X hx (hh := hh) (bytes := bytes) (maxL := maxL) (ret := ret) ho hl hstt hini hcode hy hK hg (hsize.trans hml.symm) (argsL := As) (rest := rest) (fun sig h => hn.trans (hlen sig h)) hstack hW (by rw [hb]; exact hdg)
    (fun vm₁ hW₁ => ⟨hf.1, hf.2, hp.2 (T.setVm vm₁) hT hW₁⟩)
  dsimp only [Pt.U, Pt.locs, Pt.cells, Pt.slots] at X' e1 e2 h1 h2 h3 st
  subst h1; subst h2; subst h3
  exact ⟨v, (T.setVm vm₁).calling g' mk As.toArray, t, U', L, hT, X', hL, e1, e2, hq, st⟩
/-- not caught here, past rows that name other classes: it goes on to the caller -/
theorem vx_outP {p : Program} {l : Launch} {e : Env} {R : Room} {s : State} {m : MethodId} {args : Array Value} {below : List Frame} {meth : Method} {c : Code} {H : Heap} {locs : List Loc} {cells slots : Nat} {free : Addr → Prop} {ls : Array Slot} {rest : List Value} {Qc : Array Value → State → Outcome → State → Prop} {XC : String → State → State → Prop}
    {pc : Nat} {own E : String} {ce : Cell} {q : Addr} {mc ms : Nat} (hown : s.vm.findClass own = some m.cls) (hlocks : meth.locks = false)
    (hpass : ∀ z ∈ c.exceptionTable.toList, covers z pc = false ∨ (z.catchType ≠ 0 ∧ ∃ nm : String, (Cond.classLink own z.catchType nm).before args s = true ∧ va_Nc E nm s)) (hcell : H[q]? = some ce) (hv : ce.vm = .none) (hcl : s.vm.findClass E = some ce.cls)
    (hx : ∀ t : State, t.heap = H → s.vm.Alike t.vm → XC E s t) (hf : ∀ z ∈ locs, free z.base) (hc : cells ≤ mc) (hs : slots ≤ ms) :
    vx_W p l e R s m args below meth c H locs cells slots (vx_MQ below Qc XC args s mc ms free) (F0 m pc ls rest) q := by
  intro T hT X
  have hpl : e.platform.magicAccessors = ({} : Platform).magicAccessors := by rw [X.admits.platform]
  obtain ⟨vm', hW', X', st⟩ := X.outThrough hlocks q (g := F0 m pc ls rest) rfl rfl rfl (cell := ce) (by rw [hT]; exact hcell) (by rw [hv]; rfl)
    (by obtain ⟨k9, h9, -⟩ := Vm.findClass_spec hcl; exact ⟨k9, h9⟩) (fun z hz => by
      rcases hpass z hz with h | ⟨hz0, nm, hl1, hn1⟩
      · exact Or.inl h
      · obtain ⟨c6, hc6, hcl6⟩ := Cond.classLink_spec hown hl1 e.platform hpl
        obtain ⟨a8, b8, h1, h2, h3⟩ := hn1
        cases Option.some.inj (h1.symm.trans hcl)
        cases Option.some.inj (h2.symm.trans hc6)
        exact Or.inr ⟨hz0, _, hcl6, h3⟩)
  obtain ⟨g₀, hfr⟩ := X'.frames_eq
  have hcell9 : ((T.setVm vm').setFrames (.throwing q :: below)).heap[q]? = some ce := by
    show T.heap[q]? = some ce
    rw [hT]; exact hcell
  have hend : Ended ((T.setVm vm').setFrames (.throwing q :: below)) below (.threw q) := State.frames_setFrames _ (State.cur_lt_of_frames hfr)
  refine ⟨(T.setVm vm').setFrames (.throwing q :: below), ?_, .threw q, X'.here.running, hend, Or.inr ⟨q, rfl, E, ce, locs, hx _ hT (X'.ends _).1.alike, hcell9, hv, hcl, (X'.ends _).1, (X'.ends _).2.mono hc hs, hf⟩⟩
  rw [X.pushThrowing_eq]
  exact st
/-- a thing of a world lies in the heap -/
theorem vx_lt {D : va_G} {cl : List vw_C} {ws : va_W} {H1 : Heap} (h : va_P D cl ws H1) {k : Nat} {q : Nat × va_E} (hk : ws[k]? = some q) : q.1 < H1.size := (h k q hk).lt
end VXS
/-! ===== END ===== -/
/-! ===== BEGIN methods with a table of their own: called by a name, returning or throwing ===== -/
section VXH
/-! vx_backW, vx_callVX, vx_callSX, vx_callVW, vx_runVW, vx_runVX, vx_runSX, vx_ofWH follow the same proofs as their sisters above (Free/Laws.lean, Shelf42/LK1.lean); vx_outP calls Shelf42/NT130.lean (outThrough). -/
section
variable {l : Launch} {R : Room} {p : Program} {e : Env} {below : List Frame} {s : State} {sargs : Array Value} {y : MethodName} {len W9 : Nat}
theorem vx_backW {ws : List Cond} {rm : Room} {Pc : Array Value → State → Prop} {Qc : Array Value → State → Outcome → State → Prop} {XC : String → State → State → Prop} {mc ms : Nat} {free : Addr → Prop} {bytes : ByteArray} {maxL : Nat} {ret : Option FieldType} {hh : List (Nat × Nat × Nat × Nat)}
    (hM : vx_Met l y ws rm Pc Qc XC mc ms free) (hblind : FrameBlind Pc) (hrc : rm.cells = mc) (hrs : rm.slots = ms)
    (hframes : rm.frames + 1 ≤ R.frames) (hlocals : W9 + (maxL + 11) + rm.locals ≤ R.locals)
    (hws : ∀ w ∈ ws, ∀ a' U, s.WarmedH U.vm → w.before a' U = true) (hcode : Cond.codeWith y bytes maxL ret hh ∈ ws) (hinit : ∀ a' U, s.WarmedH U.vm → (Cond.initialized y.cls).before a' U = true) :
    vx_Back l R p e below s sargs y len W9 (PreOf R mc ms Pc) (PostOf Qc mc ms free) (vx_Post XC mc ms free) := by
  intro m meth c A g ig mk a X hg hsize hdg hW hn hp
  have h1 : (headSpec ws rm).pre.before a A.U = true := atoms_intro fun w hw => hws w hw _ _ X.warmed
  have h2 : (Cond.codeWith y bytes maxL ret hh).before a A.U = true := hws _ hcode _ _ X.warmed
  have h3 : (Cond.initialized y.cls).before a A.U = true := hinit _ _ X.warmed
  have h4 : A.cells + (headSpec ws rm).room.cells ≤ R.cells := by rw [show (headSpec ws rm).room.cells = mc from hrc]; exact hp.1
  have h5 : A.slots + (headSpec ws rm).room.slots ≤ R.slots := by rw [show (headSpec ws rm).room.slots = ms from hrs]; exact hp.2.1
  have hPc : Pc a (A.U.calling g mk a) := hblind _ _ _ _ hp.2.2
  obtain ⟨U, Ls, c0, s0⟩ := A
  dsimp only [Pt.U, Pt.locs, Pt.cells, Pt.slots] at h1 h2 h3 h4 h5 X hn hPc ⊢
  obtain ⟨m9, methY, cY, hn9, hmY, hcY, -, hlY, -⟩ := Cond.codeWith_spec h2
  cases Option.some.inj (hn9.symm.trans hn)
  obtain ⟨kY, hkY, -⟩ := className_of_methodNamed hn
  have hinitY : kY.init = .initialized := Cond.initialized_spec (findClass_of_methodNamed hn) hkY h3
  have h : At U g.method c below := by rw [hg]; exact X.here
  have hlocals9 : W9 + (maxL + 11) + (headSpec ws rm).room.locals ≤ R.locals := hlocals
  have happ : (headSpec ws rm).appliesLoose y e.platform (U.calling g mk a) = true :=
    Spec.appliesLoose_calling (g := g) h hdg hn hkY hinitY
      (X.room_calling (g := g) (R' := (headSpec ws rm).room) hsize hmY hcY hframes (by rw [hlY]; omega) h4 h5) h1
  obtain ⟨mid, hmid⟩ := h.above
  have hfr : (U.setTop g).frames = (.java g :: mid) ++ below := by rw [State.frames_setTop' g h.top, hmid]; rfl
  obtain ⟨o, s₂, hsteps, -, hend, hq⟩ := Steps.callFree hM p X.admits X.cas X.clock (acts := []) hfr happ hPc trivial
  have hq' : vx_Q Qc XC mc ms free a (U.calling g mk a) o s₂ := hq
  rw [State.frames_setTop' g h.top] at hend
  obtain ⟨g₀, hg0⟩ := Option.isSome_iff_exists.mp h.top
  obtain ⟨r, hr⟩ := State.topJava?_eq_some.mp hg0
  have hr' : (({ U with heap := s₂.heap, slotsUsed := s₂.slotsUsed } : State).setVm s₂.vm).frames = .java g₀ :: r := hr
  rcases hq' with ⟨hqc, L, hfe, hL⟩ | ⟨q, rfl, E, ce, L, hx, hce, hcv, hcl, hW₂, hsm, hL⟩
  · obtain ⟨⟨v, rfl⟩, hW₂, e2, q2, q3, q4, q5, q6⟩ := id hfe
    have e3 : s₂ = ({ (U.calling g mk a).setFrames s₂.frames with heap := s₂.heap, slotsUsed := s₂.slotsUsed } : State).setVm s₂.vm := by
      have : s₂ = ({ s₂ with vm := (U.calling g mk a).vm } : State).setVm s₂.vm := rfl
      rw [e2] at this
      exact this
    obtain ⟨c₂, i₂, len₂, hc₂, hd₂, hf₂⟩ := hend
    have hW' : U.WarmedH s₂.vm := hW₂
    have hcc : c₂ = c := by
      have h1 : s₂.code? g.method = U.code? g.method := by
        rw [State.code?_eq, State.code?_eq, hW'.alike.method?]
      exact Option.some.inj (hc₂.symm.trans (h1.trans h.code))
    subst hcc
    have hlen : len₂ = len := by rw [hdg] at hd₂; cases hd₂; rfl
    subst hlen
    have hs₂ : s₂ = (({ U with heap := s₂.heap, slotsUsed := s₂.slotsUsed } : State).setVm s₂.vm).setTop { g with pc := g.pc + len₂, stack := v.toList ++ g.stack } := by
      refine e3.trans ?_
      rw [hf₂, State.calling_eq h.top, State.setFrames_setFrames, State.setTop_of_frames _ hr', hr]
      rfl
    have hsame : U.sameButNew ({ U with heap := s₂.heap, slotsUsed := s₂.slotsUsed } : State) L mc ms := by
      refine ⟨?_, q2, q3, q4, q5, q6⟩
      obtain ⟨t, ht, -⟩ := State.frames_cons hr
      show ({ U with heap := s₂.heap, slotsUsed := s₂.slotsUsed } : State) = { U.setFrames U.frames with heap := s₂.heap, slotsUsed := s₂.slotsUsed }
      rw [State.setFrames_self ht]
    subst hg
    refine Or.inl ⟨v, ⟨(({ U with heap := s₂.heap, slotsUsed := s₂.slotsUsed } : State).setVm s₂.vm), Ls ++ L, c0 + mc, s0 + ms⟩,
      ⟨X.admits, X.cas, X.clock, X.frames, X.room, X.hears, X.method, X.code, (X.here.setHeapUsed s₂.heap s₂.slotsUsed).setVm hW'.alike, X.tail, State.WarmedH.trans X.warmed hW', X.limits, X.bytes, X.same.trans (hsame.setVm s.vm)⟩,
      ⟨g, mk, s₂, L, rfl, rfl, hqc, rfl, hL, rfl, rfl⟩, ?_⟩
    show Steps p.tables e below _ ((({ U with heap := s₂.heap, slotsUsed := s₂.slotsUsed } : State).setVm s₂.vm).setTop { g with pc := g.pc + len₂, stack := v.toList ++ g.stack })
    rw [← hs₂]
    exact hsteps
  · obtain ⟨e2, q2, q3, q4, q5, q6⟩ := id hsm
    have e3 : s₂ = ({ (U.calling g mk a).setFrames s₂.frames with heap := s₂.heap, slotsUsed := s₂.slotsUsed } : State).setVm s₂.vm := by
      have : s₂ = ({ s₂ with vm := (U.calling g mk a).vm } : State).setVm s₂.vm := rfl
      rw [e2] at this
      exact this
    have hf₂ : s₂.frames = .throwing q :: .java g :: U.frames.tail := hend
    have hW' : U.WarmedH s₂.vm := hW₂
    have hs₂ : s₂ = ((({ U with heap := s₂.heap, slotsUsed := s₂.slotsUsed } : State).setVm s₂.vm).setTop g).pushFrame (.throwing q) := by
      refine e3.trans ?_
      rw [hf₂, State.calling_eq h.top, State.setFrames_setFrames, State.pushFrame, State.frames_setTop _ hr', State.setTop_of_frames _ hr', State.setFrames_setFrames, hr]
      rfl
    have hsame : U.sameButNew ({ U with heap := s₂.heap, slotsUsed := s₂.slotsUsed } : State) L mc ms := by
      refine ⟨?_, q2, q3, q4, q5, q6⟩
      obtain ⟨t, ht, -⟩ := State.frames_cons hr
      show ({ U with heap := s₂.heap, slotsUsed := s₂.slotsUsed } : State) = { U.setFrames U.frames with heap := s₂.heap, slotsUsed := s₂.slotsUsed }
      rw [State.setFrames_self ht]
    subst hg
    refine Or.inr ⟨q, ⟨(({ U with heap := s₂.heap, slotsUsed := s₂.slotsUsed } : State).setVm s₂.vm), Ls ++ L, c0 + mc, s0 + ms⟩,
      ⟨X.admits, X.cas, X.clock, X.frames, X.room, X.hears, X.method, X.code, (X.here.setHeapUsed s₂.heap s₂.slotsUsed).setVm hW'.alike, X.tail, State.WarmedH.trans X.warmed hW', X.limits, X.bytes, X.same.trans (hsame.setVm s.vm)⟩,
      ⟨g, mk, s₂, L, E, ce, rfl, rfl, hx, hce, hcv, hcl, rfl, hL, rfl, rfl⟩, ?_⟩
    show Steps p.tables e below _ (((({ U with heap := s₂.heap, slotsUsed := s₂.slotsUsed } : State).setVm s₂.vm).setTop g).pushFrame (.throwing q))
    rw [← hs₂]
    exact hsteps
end
variable {p : Program} {l : Launch} {e : Env} {R : Room} {s : State} {m : MethodId} {args : Array Value} {below : List Frame} {meth : Method} {c : Code} {T : State} {H : Heap} {locs : List Loc} {cells slots : Nat}
theorem vx_callVX (X : Stand p l e R s m args below meth c T locs cells slots) (hexec : p.tables.exec = Jvm.exec) {own C : String} {index : Nat} {y : MethodName} {bytes : ByteArray} {maxL : Nat} {ret : Option FieldType} {hh : List (Nat × Nat × Nat × Nat)}
    (hown : s.vm.findClass own = some m.cls) (hlink : (Cond.methodLink own index y).before args s = true) (hinst : (Cond.instanceMethod y).before args s = true) (hsel : (Cond.selects C y y).before args s = true)
    (hcode : (Cond.codeWith y bytes maxL ret hh).before args s = true) (hy : y.cls ≠ "java/lang/invoke/MethodHandle" ∧ y.cls ≠ "java/lang/invoke/VarHandle")
    {W9 : Nat} {Pre : Pt → Array Value → Prop} {Post : Pt → Array Value → Option Value → Pt → Prop} {PostX : Pt → Array Value → Addr → Pt → Prop} (hK : vx_Back l R p e below s args y 3 W9 Pre Post PostX)
    {b : Addr} {cellB : Cell} (hcell : T.heap[b]? = some cellB) (hobj : cellB.vm.isStatics = false) (hcls : s.vm.findClass C = some cellB.cls)
    {g : JFrame} (hg : g.method = m) (hsize : g.locals.size = c.maxLocals) {argsL rest : List Value} (hlen : ∀ sig, parseMethodDescriptor y.desc = some sig → argsL.length = sig.parameters.length)
    (hstack : g.stack = argsL.reverse ++ .ref b :: rest) (hW : 2 * g.monitorRoom + (rest.map fun v => v.category).sum ≤ W9) (hdg : decode c.code g.pc = .ok (.invokevirtual index, 3))
    (hpre : ∀ vm₁, s.WarmedH vm₁ → Pre ⟨T.setVm vm₁, locs, cells, slots⟩ (Value.ref b :: argsL).toArray) :
    (∃ (v : Option Value) (vm₁ : Vm) (B : Pt), s.WarmedH vm₁ ∧ Stand p l e R s m args below meth c B.U B.locs B.cells B.slots ∧ Post ⟨T.setVm vm₁, locs, cells, slots⟩ (Value.ref b :: argsL).toArray v B ∧
      ∀ target, Steps p.tables e below (B.U.setTop { g with pc := g.pc + 3, stack := v.toList ++ rest }) target → Steps p.tables e below (T.setTop g) target) ∨
    (∃ (q : Addr) (vm₁ : Vm) (B : Pt), s.WarmedH vm₁ ∧ Stand p l e R s m args below meth c B.U B.locs B.cells B.slots ∧ PostX ⟨T.setVm vm₁, locs, cells, slots⟩ (Value.ref b :: argsL).toArray q B ∧
      Steps p.tables e below (T.setTop g) ((B.U.setTop { g with stack := rest }).pushFrame (.throwing q))) := by
  obtain ⟨mk, methM, hnamed, hmethM, hstM, habM⟩ := Cond.instanceMethod_spec hinst
  obtain ⟨m8, methM', cM, hn8, hmethM', -, -, -, -, -, -, hsigM⟩ := Cond.codeWith_spec hcode
  cases Option.some.inj (hn8.symm.trans hnamed)
  cases hmethM.symm.trans hmethM'
  obtain ⟨c2, r2, m2, q1, q2, q3, q4, kP, hkP, hkPi⟩ := Cond.selects_spec hsel
  cases hcls.symm.trans q1
  cases (State.methodFound?_of_named hnamed hy).symm.trans q2
  cases hnamed.symm.trans q3
  have hselP : selectMethod e.platform s.vm cellB.cls mk = .method mk := by rw [Launch.admits_selectMethod X.admits]; exact q4
  obtain ⟨vm₁, X₁, hstep₁⟩ := X.invokevirtual hexec hown hlink hnamed hmethM hstM hkP hkPi hy (a := b) (cell := cellB) hcell
    (fun z h => by rw [h] at hobj; cases hobj) hselP hmethM habM hkP hkPi (g := g) hg (argsL := argsL) (rest := rest) (hlen _ hsigM) hstack hdg
  rcases hK m meth c ⟨T.setVm vm₁, locs, cells, slots⟩ { g with stack := rest } (.invokevirtual index) mk (Value.ref b :: argsL).toArray X₁ hg hsize hdg hW (X₁.named hnamed) (hpre vm₁ X₁.warmed) with ⟨v, B, X', hpost, hsteps⟩ | ⟨q, B, X', hpost, hsteps⟩
  · exact Or.inl ⟨v, vm₁, B, X₁.warmed, X', hpost, fun target h => hstep₁ _ fun acts => by rw [doInvoke_state]; exact hsteps.trans h⟩
  · exact Or.inr ⟨q, vm₁, B, X₁.warmed, X', hpost, hstep₁ _ fun acts => by rw [doInvoke_state]; exact hsteps⟩
theorem vx_callSX (X : Stand p l e R s m args below meth c T locs cells slots) (hexec : p.tables.exec = Jvm.exec) {own : String} {index : Nat} {y : MethodName} {bytes : ByteArray} {maxL : Nat} {ret : Option FieldType} {hh : List (Nat × Nat × Nat × Nat)}
    (hown : s.vm.findClass own = some m.cls) (hlink : (Cond.methodLink own index y).before args s = true) (hstat : (Cond.static y).before args s = true) (hinit : (Cond.initialized y.cls).before args s = true)
    (hcode : (Cond.codeWith y bytes maxL ret hh).before args s = true) (hy : y.cls ≠ "java/lang/invoke/MethodHandle" ∧ y.cls ≠ "java/lang/invoke/VarHandle")
    {W9 : Nat} {Pre : Pt → Array Value → Prop} {Post : Pt → Array Value → Option Value → Pt → Prop} {PostX : Pt → Array Value → Addr → Pt → Prop} (hK : vx_Back l R p e below s args y 3 W9 Pre Post PostX)
    {g : JFrame} (hg : g.method = m) (hsize : g.locals.size = c.maxLocals) {argsL rest : List Value} (hlen : ∀ sig, parseMethodDescriptor y.desc = some sig → argsL.length = sig.parameters.length)
    (hstack : g.stack = argsL.reverse ++ rest) (hW : 2 * g.monitorRoom + (rest.map fun v => v.category).sum ≤ W9) (hdg : decode c.code g.pc = .ok (.invokestatic index, 3))
    (hpre : ∀ vm₁, s.WarmedH vm₁ → Pre ⟨T.setVm vm₁, locs, cells, slots⟩ argsL.toArray) :
    (∃ (v : Option Value) (vm₁ : Vm) (B : Pt), s.WarmedH vm₁ ∧ Stand p l e R s m args below meth c B.U B.locs B.cells B.slots ∧ Post ⟨T.setVm vm₁, locs, cells, slots⟩ argsL.toArray v B ∧
      ∀ target, Steps p.tables e below (B.U.setTop { g with pc := g.pc + 3, stack := v.toList ++ rest }) target → Steps p.tables e below (T.setTop g) target) ∨
    (∃ (q : Addr) (vm₁ : Vm) (B : Pt), s.WarmedH vm₁ ∧ Stand p l e R s m args below meth c B.U B.locs B.cells B.slots ∧ PostX ⟨T.setVm vm₁, locs, cells, slots⟩ argsL.toArray q B ∧
      Steps p.tables e below (T.setTop g) ((B.U.setTop { g with stack := rest }).pushFrame (.throwing q))) := by
  obtain ⟨mk, methM, cM, hnamed, hmethM, -, -, -, -, -, -, hsigM⟩ := Cond.codeWith_spec hcode
  have hstatic : methM.isStatic = true := Cond.static_spec hnamed hmethM hstat
  obtain ⟨kP, hkP, -⟩ := className_of_methodNamed hnamed
  have hinitP : kP.init = .initialized := Cond.initialized_spec (findClass_of_methodNamed hnamed) hkP hinit
  obtain ⟨vm₁, X₁, hstep₁⟩ := X.invokestatic hexec hown hlink hnamed hmethM hstatic hkP hinitP hy (g := g) hg (argsL := argsL) (rest := rest) (hlen _ hsigM) hstack hdg
  rcases hK m meth c ⟨T.setVm vm₁, locs, cells, slots⟩ { g with stack := rest } (.invokestatic index) mk argsL.toArray X₁ hg hsize hdg hW (X₁.named hnamed) (hpre vm₁ X₁.warmed) with ⟨v, B, X', hpost, hsteps⟩ | ⟨q, B, X', hpost, hsteps⟩
  · exact Or.inl ⟨v, vm₁, B, X₁.warmed, X', hpost, fun target h => hstep₁ _ fun acts => by rw [doInvoke_state]; exact hsteps.trans h⟩
  · exact Or.inr ⟨q, vm₁, B, X₁.warmed, X', hpost, hstep₁ _ fun acts => by rw [doInvoke_state]; exact hsteps⟩
theorem vx_callVW (X : Stand p l e R s m args below meth c T locs cells slots) (hexec : p.tables.exec = Jvm.exec) {own C : String} {index : Nat} {y : MethodName} {bytes : ByteArray} {maxL : Nat} {ret : Option FieldType} {hh : List (Nat × Nat × Nat × Nat)}
    (hown : s.vm.findClass own = some m.cls) (hlink : (Cond.methodLink own index y).before args s = true) (hinst : (Cond.instanceMethod y).before args s = true) (hsel : (Cond.selects C y y).before args s = true)
    (hcode : (Cond.codeWith y bytes maxL ret hh).before args s = true) (hy : y.cls ≠ "java/lang/invoke/MethodHandle" ∧ y.cls ≠ "java/lang/invoke/VarHandle")
    {W9 : Nat} {Pre : Pt → Array Value → Prop} {Post : Pt → Array Value → Option Value → Pt → Prop} (hK : Back l R p e below s args y 3 W9 Pre Post)
    {b : Addr} {cellB : Cell} (hcell : T.heap[b]? = some cellB) (hobj : cellB.vm.isStatics = false) (hcls : s.vm.findClass C = some cellB.cls)
    {g : JFrame} (hg : g.method = m) (hsize : g.locals.size = c.maxLocals) {argsL rest : List Value} (hlen : ∀ sig, parseMethodDescriptor y.desc = some sig → argsL.length = sig.parameters.length)
    (hstack : g.stack = argsL.reverse ++ .ref b :: rest) (hW : 2 * g.monitorRoom + (rest.map fun v => v.category).sum ≤ W9) (hdg : decode c.code g.pc = .ok (.invokevirtual index, 3))
    (hpre : ∀ vm₁, s.WarmedH vm₁ → Pre ⟨T.setVm vm₁, locs, cells, slots⟩ (Value.ref b :: argsL).toArray) :
    ∃ (v : Option Value) (vm₁ : Vm) (B : Pt), s.WarmedH vm₁ ∧ Stand p l e R s m args below meth c B.U B.locs B.cells B.slots ∧ Post ⟨T.setVm vm₁, locs, cells, slots⟩ (Value.ref b :: argsL).toArray v B ∧
      ∀ target, Steps p.tables e below (B.U.setTop { g with pc := g.pc + 3, stack := v.toList ++ rest }) target → Steps p.tables e below (T.setTop g) target := by
  obtain ⟨mk, methM, hnamed, hmethM, hstM, habM⟩ := Cond.instanceMethod_spec hinst
  obtain ⟨m8, methM', cM, hn8, hmethM', -, -, -, -, -, -, hsigM⟩ := Cond.codeWith_spec hcode
  cases Option.some.inj (hn8.symm.trans hnamed)
  cases hmethM.symm.trans hmethM'
  obtain ⟨c2, r2, m2, q1, q2, q3, q4, kP, hkP, hkPi⟩ := Cond.selects_spec hsel
  cases hcls.symm.trans q1
  cases (State.methodFound?_of_named hnamed hy).symm.trans q2
  cases hnamed.symm.trans q3
  have hselP : selectMethod e.platform s.vm cellB.cls mk = .method mk := by rw [Launch.admits_selectMethod X.admits]; exact q4
  obtain ⟨vm₁, X₁, hstep₁⟩ := X.invokevirtual hexec hown hlink hnamed hmethM hstM hkP hkPi hy (a := b) (cell := cellB) hcell
    (fun z h => by rw [h] at hobj; cases hobj) hselP hmethM habM hkP hkPi (g := g) hg (argsL := argsL) (rest := rest) (hlen _ hsigM) hstack hdg
  obtain ⟨v, B, X', hpost, hsteps⟩ := hK m meth c ⟨T.setVm vm₁, locs, cells, slots⟩ { g with stack := rest } (.invokevirtual index) mk (Value.ref b :: argsL).toArray X₁ hg hsize hdg hW (X₁.named hnamed) (hpre vm₁ X₁.warmed)
  exact ⟨v, vm₁, B, X₁.warmed, X', hpost, fun target h => hstep₁ _ fun acts => by rw [doInvoke_state]; exact hsteps.trans h⟩
abbrev vx_CVW (R : Room) (s : State) (args : Array Value) (own C : String) (index : Nat) (y : MethodName) (bytes : ByteArray) (maxL : Nat) (ret : Option FieldType) (hh : List (Nat × Nat × Nat × Nat)) (ws : List Cond) (rm : Room) (mc ms n : Nat) : Prop :=
  (rm.cells = mc ∧ rm.slots = ms ∧ rm.frames + 1 ≤ R.frames ∧ 8 + (maxL + 11) + rm.locals ≤ R.locals ∧ (∀ w ∈ ws, ∀ (a' : Array Value) (U : State), s.WarmedH U.vm → w.before a' U = true) ∧ Cond.codeWith y bytes maxL ret hh ∈ ws) ∧
  (Cond.codeWith y bytes maxL ret hh).before args s = true ∧ (Cond.initialized y.cls).before args s = true ∧ (y.cls ≠ "java/lang/invoke/MethodHandle" ∧ y.cls ≠ "java/lang/invoke/VarHandle") ∧
  (∀ sig, parseMethodDescriptor y.desc = some sig → n = sig.parameters.length) ∧ (Cond.methodLink own index y).before args s = true ∧ (Cond.instanceMethod y).before args s = true ∧ (Cond.selects C y y).before args s = true
theorem vx_cwVW {own C : String} {index maxL mc ms : Nat} {y : MethodName} {bytes : ByteArray} {ret : Option FieldType} {hh : List (Nat × Nat × Nat × Nat)} {Ts ws ws' : List Cond} {rm : Room} (n : Nat) (ht : ∀ w ∈ Ts, w.before args s = true) (hT : GoodIn Ts (wsV own index C y ws)) (hw : ws = Cond.codeWith y bytes maxL ret hh :: ws') (hrc : rm.cells = mc) (hrs : rm.slots = ms)
    (hd : y.cls = C ∧ y.cls ≠ "java/lang/invoke/MethodHandle" ∧ y.cls ≠ "java/lang/invoke/VarHandle" ∧ (parseMethodDescriptor y.desc).map (fun d => d.parameters.length) = some n) (hR : rm.frames + 1 ≤ R.frames ∧ 8 + (maxL + 11) + rm.locals ≤ R.locals) :
    vx_CVW R s args own C index y bytes maxL ret hh ws rm mc ms n := by
  obtain ⟨hC, hd⟩ := hd
  subst hC
  have ok : ∀ w ∈ wsV own index y.cls y ws, w.before args s = true := fun w h => ht w (hT w h).1
  have hG : GoodIn Ts ws := fun w h => hT w (by unfold wsV; exact List.mem_append_right _ h)
  have hc : Cond.codeWith y bytes maxL ret hh ∈ ws := by rw [hw]; exact List.mem_cons_self
  refine ⟨⟨hrc, hrs, hR.1, hR.2, pay_in ht hG, hc⟩, ht _ (hG _ hc).1, ok _ (by simp [wsV]), ⟨hd.1, hd.2.1⟩, fun sig h => ?_, ok _ (by simp [wsV]), ok _ (by simp [wsV]), ok _ (by simp [wsV])⟩
  have h2 := hd.2.2
  rw [h] at h2
  exact (Option.some.inj h2).symm
theorem vx_runVW {y : MethodName} {bytes cc : ByteArray} {maxL nL mc ms n index : Nat} {ret : Option FieldType} {hh : List (Nat × Nat × Nat × Nat)} {ws : List Cond} {rm : Room} {Pc : Array Value → State → Prop} {Qc : Array Value → State → Outcome → State → Prop} {free : Addr → Prop} {Ts : List Cond} {own C : String} {b : Addr} {As rest : List Value} {g : JFrame}
    (S : CallFix p m c cc nL s args Ts own) (hM : Met l y ws rm Pc Qc mc ms free) (cw : vx_CVW R s args own C index y bytes maxL ret hh ws rm mc ms n) (hp : PreV s H C b Pc As)
    (hg : g.method = m) (hn : As.length = n) (hsize : g.locals.size = nL) (hstack : g.stack = As.reverse ++ .ref b :: rest) (hW : 2 * g.monitorRoom + (rest.map fun v => v.category).sum ≤ 8) (hdg : decode cc g.pc = .ok (.invokevirtual index, 3)) (hf : cells + mc ≤ R.cells ∧ slots + ms ≤ R.slots) :
    va_Run p l e R s m args below meth c H locs cells slots mc ms g rest (Qc (Value.ref b :: As).toArray) free := by
  obtain ⟨⟨hrc, hrs, hfr, hlo, hws, hcw⟩, hcode, hini, hy, hlen, hl, hin, hse⟩ := cw
  have hK : Back l R p e below s args y 3 8 (PreOf R mc ms Pc) (PostOf Qc mc ms free) := va_backW (hh := hh) (bytes := bytes) (maxL := maxL) (ret := ret) hM hp.1 hrc hrs hfr hlo hws hcw (fun a' U hW => word_at hW (Or.inl (by first | rfl | simp [Cond.onTables, Cond.keeps, Cond.steady])) hini)
  obtain ⟨hx, hb, hml, ho, -⟩ := S
  obtain ⟨-, ⟨cellB, hcB, hoB, hclB⟩, hPc⟩ := hp
  intro T hT X
  obtain ⟨v, vm₁, ⟨U', l2, c2, s2⟩, hW₁, X', ⟨g', mk, t, L, e1, e2, hq, h1, hL, h2, h3⟩, st⟩ := vx_callVW X hx (C := C) (hh := hh) (bytes := bytes) (maxL := maxL) (ret := ret) ho hl hin hse hcode hy hK (by rw [hT]; exact hcB) hoB hclB hg (hsize.trans hml.symm) (argsL := As) (rest := rest) (fun sig h => hn.trans (hlen sig h)) hstack hW (by rw [hb]; exact hdg)
    (fun vm₁ hW₁ => ⟨hf.1, hf.2, hPc (T.setVm vm₁) hT hW₁⟩)
  dsimp only [Pt.U, Pt.locs, Pt.cells, Pt.slots] at X' e1 e2 h1 h2 h3 st
  subst h1; subst h2; subst h3
  exact ⟨v, (T.setVm vm₁).calling g' mk (Value.ref b :: As).toArray, t, U', L, hT, X', hL, e1, e2, hq, st⟩
section
variable {y : MethodName} {bytes cc : ByteArray} {maxL nL mc ms n index : Nat} {ret : Option FieldType} {ws : List Cond} {rm : Room} {Pc : Array Value → State → Prop} {Qc : Array Value → State → Outcome → State → Prop} {XC : String → State → State → Prop} {free : Addr → Prop} {Ts : List Cond} {own C : String} {b : Addr} {As rest : List Value} {g : JFrame}
theorem vx_runVX {hh : List (Nat × Nat × Nat × Nat)} (S : CallFix p m c cc nL s args Ts own) (hM : vx_Met l y ws rm Pc Qc XC mc ms free) (cw : vx_CVW R s args own C index y bytes maxL ret hh ws rm mc ms n) (hp : PreV s H C b Pc As)
    (hg : g.method = m) (hn : As.length = n) (hsize : g.locals.size = nL) (hstack : g.stack = As.reverse ++ .ref b :: rest) (hW : 2 * g.monitorRoom + (rest.map fun v => v.category).sum ≤ 8) (hdg : decode cc g.pc = .ok (.invokevirtual index, 3)) (hf : cells + mc ≤ R.cells ∧ slots + ms ≤ R.slots) :
    vx_Run p l e R s m args below meth c H locs cells slots mc ms g rest (Qc (Value.ref b :: As).toArray) XC free := by
  obtain ⟨⟨hrc, hrs, hfr, hlo, hws, hcw⟩, hcode, hini, hy, hlen, hl, hin, hse⟩ := cw
  have hK : vx_Back l R p e below s args y 3 8 (PreOf R mc ms Pc) (PostOf Qc mc ms free) (vx_Post XC mc ms free) := vx_backW (hh := hh) (bytes := bytes) (maxL := maxL) (ret := ret) hM hp.1 hrc hrs hfr hlo hws hcw (fun a' U hW => word_at hW (Or.inl (by first | rfl | simp [Cond.onTables, Cond.keeps, Cond.steady])) hini)
  obtain ⟨hx, hb, hml, ho, -⟩ := S
  obtain ⟨-, ⟨cellB, hcB, hoB, hclB⟩, hPc⟩ := hp
  intro T hT X
  rcases vx_callVX X hx (C := C) (hh := hh) (bytes := bytes) (maxL := maxL) (ret := ret) ho hl hin hse hcode hy hK (by rw [hT]; exact hcB) hoB hclB hg (hsize.trans hml.symm) (argsL := As) (rest := rest) (fun sig h => hn.trans (hlen sig h)) hstack hW (by rw [hb]; exact hdg)
    (fun vm₁ hW₁ => ⟨hf.1, hf.2, hPc (T.setVm vm₁) hT hW₁⟩) with ⟨v, vm₁, ⟨U', l2, c2, s2⟩, hW₁, X', ⟨g', mk, t, L, e1, e2, hq, h1, hL, h2, h3⟩, st⟩ | ⟨q, vm₁, ⟨U', l2, c2, s2⟩, hW₁, X', ⟨g', mk, t, L, E, ce, e1, e2, hq, hce, hcv, hcl, h1, hL, h2, h3⟩, st⟩
  · dsimp only [Pt.U, Pt.locs, Pt.cells, Pt.slots] at X' e1 e2 h1 h2 h3 st
    subst h1; subst h2; subst h3
    exact Or.inl ⟨v, (T.setVm vm₁).calling g' mk (Value.ref b :: As).toArray, t, U', L, hT, X', hL, e1, e2, hq, st⟩
  · dsimp only [Pt.U, Pt.locs, Pt.cells, Pt.slots] at X' e1 e2 h1 h2 h3 st hcl
    subst h1; subst h2; subst h3
    exact Or.inr ⟨q, (T.setVm vm₁).calling g' mk (Value.ref b :: As).toArray, t, U', L, E, ce, hT, X', hL, e1, e2, hq, hce, hcv, vx_cls hW₁ hcl, st⟩
theorem vx_runSX {hh : List (Nat × Nat × Nat × Nat)} (S : CallFix p m c cc nL s args Ts own) (hM : vx_Met l y ws rm Pc Qc XC mc ms free) (cw : vx_CSW R s args own index y bytes maxL ret hh ws rm mc ms n) (hp : PreS s H Pc As)
    (hg : g.method = m) (hn : As.length = n) (hsize : g.locals.size = nL) (hstack : g.stack = As.reverse ++ rest) (hW : 2 * g.monitorRoom + (rest.map fun v => v.category).sum ≤ 8) (hdg : decode cc g.pc = .ok (.invokestatic index, 3)) (hf : cells + mc ≤ R.cells ∧ slots + ms ≤ R.slots) :
    vx_Run p l e R s m args below meth c H locs cells slots mc ms g rest (Qc As.toArray) XC free := by
  obtain ⟨⟨hrc, hrs, hfr, hlo, hws, hcw⟩, hcode, hini, hy, hlen, hl, hstt⟩ := cw
  have hK : vx_Back l R p e below s args y 3 8 (PreOf R mc ms Pc) (PostOf Qc mc ms free) (vx_Post XC mc ms free) := vx_backW (hh := hh) (bytes := bytes) (maxL := maxL) (ret := ret) hM hp.1 hrc hrs hfr hlo hws hcw (fun a' U hW => word_at hW (Or.inl (by first | rfl | simp [Cond.onTables, Cond.keeps, Cond.steady])) hini)
  obtain ⟨hx, hb, hml, ho, -⟩ := S
  intro T hT X
  rcases vx_callSX X hx (hh := hh) (bytes := bytes) (maxL := maxL) (ret := ret) ho hl hstt hini hcode hy hK hg (hsize.trans hml.symm) (argsL := As) (rest := rest) (fun sig h => hn.trans (hlen sig h)) hstack hW (by rw [hb]; exact hdg)
    (fun vm₁ hW₁ => ⟨hf.1, hf.2, hp.2 (T.setVm vm₁) hT hW₁⟩) with ⟨v, vm₁, ⟨U', l2, c2, s2⟩, hW₁, X', ⟨g', mk, t, L, e1, e2, hq, h1, hL, h2, h3⟩, st⟩ | ⟨q, vm₁, ⟨U', l2, c2, s2⟩, hW₁, X', ⟨g', mk, t, L, E, ce, e1, e2, hq, hce, hcv, hcl, h1, hL, h2, h3⟩, st⟩
  · dsimp only [Pt.U, Pt.locs, Pt.cells, Pt.slots] at X' e1 e2 h1 h2 h3 st
    subst h1; subst h2; subst h3
    exact Or.inl ⟨v, (T.setVm vm₁).calling g' mk As.toArray, t, U', L, hT, X', hL, e1, e2, hq, st⟩
  · dsimp only [Pt.U, Pt.locs, Pt.cells, Pt.slots] at X' e1 e2 h1 h2 h3 st hcl
    subst h1; subst h2; subst h3
    exact Or.inr ⟨q, (T.setVm vm₁).calling g' mk As.toArray, t, U', L, E, ce, hT, X', hL, e1, e2, hq, hce, hcv, vx_cls hW₁ hcl, st⟩
end
end VXH
theorem vx_ofWH {l : Launch} {y : MethodName} {ws ws' : List Cond} {rm : Room} {Pc : Array Value → State → Prop} {Qc : Array Value → State → Outcome → State → Prop} {XC : String → State → State → Prop} {mc ms : Nat} {free : Addr → Prop} {cc : ByteArray} {maxL : Nat} {ret : Option FieldType} {hh : List (Nat × Nat × Nat × Nat)}
    (hy : plainName y.cls = true) (hw : ws = Cond.codeWith y cc maxL ret hh :: ws')
    (body : ∀ p e s m args below meth c s₁, BodyLoose p l y (headSpec ws rm) cc maxL ret e s m args below meth c s₁ → c.maxLocals = maxL → Pc args s →
      W p l e (headSpec ws rm).room s m args below meth c s.heap [] 0 0 (vx_MQ below Qc XC args s mc ms free) (entryFrame m args maxL)) : vx_Met l y ws rm Pc Qc XC mc ms free := by
  refine MetFree.of_bodyS (code := cc) (maxLocals := maxL) (ret := ret) hy ?_ ?_
  · intro args s m h hn
    obtain ⟨m9, meth, c, hn9, h1, h2, h3, h4, -, h5, h6, -⟩ := Cond.codeWith_spec (atoms_spec (ws := ws) h _ (by rw [hw]; exact List.mem_cons_self))
    cases hn.symm.trans hn9
    exact ⟨meth, c, h1, h2, h3, h4, h5, h6⟩
  · intro p e s m args below meth c s₁ B hml hP _
    have hh0 : s₁.heap = s.heap := by rw [B.state]; rfl
    obtain ⟨t, a1, o, b1, b2, b3⟩ := body p e s m args below meth c s₁ B hml hP s₁ hh0 (Stand.of_body B)
    exact ⟨t, o, a1, b1, b2, b3⟩
/-! ===== END ===== -/
end
section
/-! ===== BEGIN printed: names, fields, word lists, decode rows ===== -/
def RX0 : String := "SnowPumps$Hill"
def TX0 : u_T := fun k => match k with
  | 0 => ("SnowPumps$Hill", "weather", "LSnowPumps$Weather;", true)
  | 1 => ("SnowPumps$Hill", "pumps", "LSnowPumps$Pumps;", true)
  | 2 => ("SnowPumps$Hill", "snow", "[I", true)
  | 3 => ("SnowPumps$Hill", "ice", "[I", true)
  | 4 => ("SnowPumps$Hill", "runs", "[Z", true)
  | 5 => ("SnowPumps$Hill", "water", "I", false)
  | _ => ("SnowPumps$Hill", "hour", "I", false)
def tyX0 : Nat → FieldType := fun k => match k with
  | 0 => .object "SnowPumps$Weather"
  | 1 => .object "SnowPumps$Pumps"
  | 2 => .array .int
  | 3 => .array .int
  | 4 => .array .boolean
  | 5 => .int
  | _ => .int
abbrev wsX00 : List Cond := u_ws RX0 TX0 7
theorem nmX0 : ∀ a, a < 7 → ∀ b, b < 7 → a ≠ b → (TX0 a).2.1 ≠ (TX0 b).2.1 := by decide +kernel
theorem tyX0_ok : ∀ k, k < 7 → parseFieldDescriptor (TX0 k).2.2.1 = some (tyX0 k) := by decide +kernel
abbrev cX0_init : ByteArray := prog_2_method_1_code
def yX0_init : MethodName := ⟨RX0, "<init>", "(LSnowPumps$Weather;LSnowPumps$Pumps;)V"⟩
abbrev cX0_becomeLike : ByteArray := prog_2_method_2_code
def yX0_becomeLike : MethodName := ⟨RX0, "becomeLike", "(LSnowPumps$Hill;)V"⟩
abbrev cX0_hourOfDay : ByteArray := prog_2_method_3_code
def yX0_hourOfDay : MethodName := ⟨RX0, "hourOfDay", "()I"⟩
abbrev cX0_allSnow : ByteArray := prog_2_method_4_code
def yX0_allSnow : MethodName := ⟨RX0, "allSnow", "()I"⟩
abbrev cX0_allIce : ByteArray := prog_2_method_5_code
def yX0_allIce : MethodName := ⟨RX0, "allIce", "()I"⟩
abbrev cX0_countRunning : ByteArray := prog_2_method_6_code
def yX0_countRunning : MethodName := ⟨RX0, "countRunning", "()I"⟩
abbrev cX0_fallsAt : ByteArray := prog_2_method_7_code
def yX0_fallsAt : MethodName := ⟨RX0, "fallsAt", "(I)Z"⟩
abbrev cX0_takeSnow : ByteArray := prog_2_method_8_code
def yX0_takeSnow : MethodName := ⟨RX0, "takeSnow", "(II)V"⟩
abbrev cX0_spreadSnow : ByteArray := prog_2_method_9_code
def yX0_spreadSnow : MethodName := ⟨RX0, "spreadSnow", "(II)I"⟩
abbrev cX0_letHoursGoBy : ByteArray := prog_2_method_10_code
def yX0_letHoursGoBy : MethodName := ⟨RX0, "letHoursGoBy", "(I)V"⟩
abbrev cX0_letHourGoBy : ByteArray := prog_2_method_11_code
def yX0_letHourGoBy : MethodName := ⟨RX0, "letHourGoBy", "()V"⟩
abbrev cX0_work : ByteArray := prog_2_method_12_code
def yX0_work : MethodName := ⟨RX0, "work", "(III)V"⟩
abbrev cX0_addSnow : ByteArray := prog_2_method_13_code
def yX0_addSnow : MethodName := ⟨RX0, "addSnow", "(II)V"⟩
abbrev cX0_addIce : ByteArray := prog_2_method_14_code
def yX0_addIce : MethodName := ⟨RX0, "addIce", "(I)V"⟩
abbrev cX0_melt : ByteArray := prog_2_method_15_code
def yX0_melt : MethodName := ⟨RX0, "melt", "(I)V"⟩
def RX1 : String := "SnowPumps$Jumps"
def TX1 : u_T := fun k => match k with
  | 0 => ("SnowPumps$Jumps", "jumper", "[I", true)
  | 1 => ("SnowPumps$Jumps", "length", "[I", true)
  | 2 => ("SnowPumps$Jumps", "points", "[I", true)
  | 3 => ("SnowPumps$Jumps", "fall", "[I", true)
  | 4 => ("SnowPumps$Jumps", "hour", "[I", true)
  | _ => ("SnowPumps$Jumps", "count", "I", false)
def tyX1 : Nat → FieldType := fun k => match k with
  | 0 => .array .int
  | 1 => .array .int
  | 2 => .array .int
  | 3 => .array .int
  | 4 => .array .int
  | _ => .int
abbrev wsX10 : List Cond := u_ws RX1 TX1 6
theorem nmX1 : ∀ a, a < 6 → ∀ b, b < 6 → a ≠ b → (TX1 a).2.1 ≠ (TX1 b).2.1 := by decide +kernel
theorem tyX1_ok : ∀ k, k < 6 → parseFieldDescriptor (TX1 k).2.2.1 = some (tyX1 k) := by decide +kernel
abbrev cX1_init : ByteArray := prog_3_method_1_code
def yX1_init : MethodName := ⟨RX1, "<init>", "()V"⟩
abbrev cX1_add : ByteArray := prog_3_method_2_code
def yX1_add : MethodName := ⟨RX1, "add", "(IIIZI)I"⟩
abbrev cX1_tell : ByteArray := prog_3_method_3_code
def yX1_tell : MethodName := ⟨RX1, "tell", "(II)I"⟩
abbrev cX1_bestTwo : ByteArray := prog_3_method_4_code
def yX1_bestTwo : MethodName := ⟨RX1, "bestTwo", "(I)I"⟩
abbrev cX1_countFalls : ByteArray := prog_3_method_5_code
def yX1_countFalls : MethodName := ⟨RX1, "countFalls", "()I"⟩
abbrev cX1_allPoints : ByteArray := prog_3_method_6_code
def yX1_allPoints : MethodName := ⟨RX1, "allPoints", "()I"⟩
abbrev cX1_addTo : ByteArray := prog_3_method_7_code
def yX1_addTo : MethodName := ⟨RX1, "addTo", "(J)J"⟩
def RX2 : String := "SnowPumps$Jury"
def TX2 : u_T := fun k => match k with
  | _ => ("SnowPumps$Jury", "strict", "[I", true)
def tyX2 : Nat → FieldType := fun k => match k with
  | _ => .array .int
abbrev wsX20 : List Cond := u_ws RX2 TX2 1
theorem nmX2 : ∀ a, a < 1 → ∀ b, b < 1 → a ≠ b → (TX2 a).2.1 ≠ (TX2 b).2.1 := by decide +kernel
theorem tyX2_ok : ∀ k, k < 1 → parseFieldDescriptor (TX2 k).2.2.1 = some (tyX2 k) := by decide +kernel
abbrev cX2_init : ByteArray := prog_4_method_1_code
def yX2_init : MethodName := ⟨RX2, "<init>", "()V"⟩
abbrev cX2_marks : ByteArray := prog_4_method_2_code
def yX2_marks : MethodName := ⟨RX2, "marks", "(IIZ)I"⟩
abbrev cX2_addTo : ByteArray := prog_4_method_3_code
def yX2_addTo : MethodName := ⟨RX2, "addTo", "(J)J"⟩
def RX3 : String := "SnowPumps$Pumps"
def TX3 : u_T := fun k => match k with
  | 0 => ("SnowPumps$Pumps", "part", "[I", true)
  | 1 => ("SnowPumps$Pumps", "flow", "[I", true)
  | _ => ("SnowPumps$Pumps", "count", "I", false)
def tyX3 : Nat → FieldType := fun k => match k with
  | 0 => .array .int
  | 1 => .array .int
  | _ => .int
abbrev wsX30 : List Cond := u_ws RX3 TX3 3
theorem nmX3 : ∀ a, a < 3 → ∀ b, b < 3 → a ≠ b → (TX3 a).2.1 ≠ (TX3 b).2.1 := by decide +kernel
theorem tyX3_ok : ∀ k, k < 3 → parseFieldDescriptor (TX3 k).2.2.1 = some (tyX3 k) := by decide +kernel
abbrev cX3_init : ByteArray := prog_5_method_1_code
def yX3_init : MethodName := ⟨RX3, "<init>", "()V"⟩
abbrev cX3_setUp : ByteArray := prog_5_method_2_code
def yX3_setUp : MethodName := ⟨RX3, "setUp", "(II)I"⟩
abbrev cX3_countAt : ByteArray := prog_5_method_3_code
def yX3_countAt : MethodName := ⟨RX3, "countAt", "(I)I"⟩
def RX4 : String := "SnowPumps$Weather"
def TX4 : u_T := fun k => match k with
  | 0 => ("SnowPumps$Weather", "warmth", "[I", true)
  | 1 => ("SnowPumps$Weather", "damp", "[I", true)
  | _ => ("SnowPumps$Weather", "gust", "[I", true)
def tyX4 : Nat → FieldType := fun k => match k with
  | 0 => .array .int
  | 1 => .array .int
  | _ => .array .int
abbrev wsX40 : List Cond := u_ws RX4 TX4 3
theorem nmX4 : ∀ a, a < 3 → ∀ b, b < 3 → a ≠ b → (TX4 a).2.1 ≠ (TX4 b).2.1 := by decide +kernel
theorem tyX4_ok : ∀ k, k < 3 → parseFieldDescriptor (TX4 k).2.2.1 = some (tyX4 k) := by decide +kernel
abbrev cX4_init : ByteArray := prog_6_method_1_code
def yX4_init : MethodName := ⟨RX4, "<init>", "()V"⟩
abbrev cX4_wetCold : ByteArray := prog_6_method_2_code
def yX4_wetCold : MethodName := ⟨RX4, "wetCold", "(I)I"⟩
abbrev cX4_addTo : ByteArray := prog_6_method_3_code
def yX4_addTo : MethodName := ⟨RX4, "addTo", "(J)J"⟩
def RX5 : String := "SnowPumps"
def TX5 : u_T := fun k => match k with
  | 0 => ("SnowPumps", "weather", "LSnowPumps$Weather;", true)
  | 1 => ("SnowPumps", "pumps", "LSnowPumps$Pumps;", true)
  | 2 => ("SnowPumps", "hill", "LSnowPumps$Hill;", true)
  | 3 => ("SnowPumps", "ahead", "LSnowPumps$Hill;", true)
  | 4 => ("SnowPumps", "jury", "LSnowPumps$Jury;", true)
  | _ => ("SnowPumps", "jumps", "LSnowPumps$Jumps;", true)
def tyX5 : Nat → FieldType := fun k => match k with
  | 0 => .object "SnowPumps$Weather"
  | 1 => .object "SnowPumps$Pumps"
  | 2 => .object "SnowPumps$Hill"
  | 3 => .object "SnowPumps$Hill"
  | 4 => .object "SnowPumps$Jury"
  | _ => .object "SnowPumps$Jumps"
abbrev wsX50 : List Cond := u_ws RX5 TX5 6
theorem nmX5 : ∀ a, a < 6 → ∀ b, b < 6 → a ≠ b → (TX5 a).2.1 ≠ (TX5 b).2.1 := by decide +kernel
theorem tyX5_ok : ∀ k, k < 6 → parseFieldDescriptor (TX5 k).2.2.1 = some (tyX5 k) := by decide +kernel
abbrev cX5_init : ByteArray := prog_1_method_1_code
def yX5_init : MethodName := ⟨RX5, "<init>", "()V"⟩
abbrev cX5_setWeather : ByteArray := prog_1_method_2_code
def yX5_setWeather : MethodName := ⟨RX5, "setWeather", "(IIII)I"⟩
abbrev cX5_pump : ByteArray := prog_1_method_3_code
def yX5_pump : MethodName := ⟨RX5, "pump", "(II)I"⟩
abbrev cX5_run : ByteArray := prog_1_method_4_code
def yX5_run : MethodName := ⟨RX5, "run", "(I)Z"⟩
abbrev cX5_fill : ByteArray := prog_1_method_5_code
def yX5_fill : MethodName := ⟨RX5, "fill", "(I)I"⟩
abbrev cX5_groom : ByteArray := prog_1_method_6_code
def yX5_groom : MethodName := ⟨RX5, "groom", "(II)I"⟩
abbrev cX5_judge : ByteArray := prog_1_method_7_code
def yX5_judge : MethodName := ⟨RX5, "judge", "(II)I"⟩
abbrev cX5_jump : ByteArray := prog_1_method_8_code
def yX5_jump : MethodName := ⟨RX5, "jump", "(III)I"⟩
abbrev cX5_told : ByteArray := prog_1_method_9_code
def yX5_told : MethodName := ⟨RX5, "told", "(II)I"⟩
abbrev cX5_score : ByteArray := prog_1_method_10_code
def yX5_score : MethodName := ⟨RX5, "score", "(I)I"⟩
abbrev cX5_leader : ByteArray := prog_1_method_11_code
def yX5_leader : MethodName := ⟨RX5, "leader", "()I"⟩
abbrev cX5_part : ByteArray := prog_1_method_12_code
def yX5_part : MethodName := ⟨RX5, "part", "(II)I"⟩
abbrev cX5_count : ByteArray := prog_1_method_13_code
def yX5_count : MethodName := ⟨RX5, "count", "(I)I"⟩
abbrev cX5_pass : ByteArray := prog_1_method_14_code
def yX5_pass : MethodName := ⟨RX5, "pass", "(I)I"⟩
abbrev cX5_enough : ByteArray := prog_1_method_15_code
def yX5_enough : MethodName := ⟨RX5, "enough", "(II)I"⟩
abbrev cX5_foresee : ByteArray := prog_1_method_16_code
def yX5_foresee : MethodName := ⟨RX5, "foresee", "(II)I"⟩
abbrev cX5_gate : ByteArray := prog_1_method_17_code
def yX5_gate : MethodName := ⟨RX5, "gate", "(I)I"⟩
abbrev cX5_advise : ByteArray := prog_1_method_18_code
def yX5_advise : MethodName := ⟨RX5, "advise", "(I)I"⟩
abbrev cX5_mean : ByteArray := prog_1_method_19_code
def yX5_mean : MethodName := ⟨RX5, "mean", "()D"⟩
abbrev cX5_digest : ByteArray := prog_1_method_20_code
def yX5_digest : MethodName := ⟨RX5, "digest", "()J"⟩
abbrev cX5_addPumpsTo : ByteArray := prog_1_method_21_code
def yX5_addPumpsTo : MethodName := ⟨RX5, "addPumpsTo", "(J)J"⟩
abbrev cX5_tellPart : ByteArray := prog_1_method_22_code
def yX5_tellPart : MethodName := ⟨RX5, "tellPart", "(II)I"⟩
abbrev cX5_tellCount : ByteArray := prog_1_method_23_code
def yX5_tellCount : MethodName := ⟨RX5, "tellCount", "(I)I"⟩
abbrev cX5_snowWithPump : ByteArray := prog_1_method_24_code
def yX5_snowWithPump : MethodName := ⟨RX5, "snowWithPump", "(II)I"⟩
abbrev cX5_lengthFrom : ByteArray := prog_1_method_25_code
def yX5_lengthFrom : MethodName := ⟨RX5, "lengthFrom", "(III)I"⟩
abbrev cX5_isOutside : ByteArray := prog_1_method_26_code
def yX5_isOutside : MethodName := ⟨RX5, "isOutside", "(III)Z"⟩
abbrev cX5_hold : ByteArray := prog_1_method_27_code
def yX5_hold : MethodName := ⟨RX5, "hold", "(III)I"⟩
abbrev cX5_sum : ByteArray := prog_1_method_28_code
def yX5_sum : MethodName := ⟨RX5, "sum", "([I)I"⟩
def RX6 : String := "SnowPumpsModel$State"
def TX6 : u_T := fun k => match k with
  | 0 => ("SnowPumpsModel$State", "hour", "I", false)
  | 1 => ("SnowPumpsModel$State", "water", "I", false)
  | 2 => ("SnowPumpsModel$State", "snow", "[I", true)
  | 3 => ("SnowPumpsModel$State", "ice", "[I", true)
  | _ => ("SnowPumpsModel$State", "runs", "[I", true)
def tyX6 : Nat → FieldType := fun k => match k with
  | 0 => .int
  | 1 => .int
  | 2 => .array .int
  | 3 => .array .int
  | _ => .array .int
abbrev wsX60 : List Cond := u_ws RX6 TX6 5
theorem nmX6 : ∀ a, a < 5 → ∀ b, b < 5 → a ≠ b → (TX6 a).2.1 ≠ (TX6 b).2.1 := by decide +kernel
theorem tyX6_ok : ∀ k, k < 5 → parseFieldDescriptor (TX6 k).2.2.1 = some (tyX6 k) := by decide +kernel
abbrev cX6_init : ByteArray := prog_9_method_1_code
def yX6_init : MethodName := ⟨RX6, "<init>", "()V"⟩
abbrev cX6_become : ByteArray := prog_9_method_2_code
def yX6_become : MethodName := ⟨RX6, "become", "(LSnowPumpsModel$State;)V"⟩
abbrev cX6_lay : ByteArray := prog_9_method_3_code
def yX6_lay : MethodName := ⟨RX6, "lay", "(II)V"⟩
abbrev cX6_isBad : ByteArray := prog_9_method_4_code
def yX6_isBad : MethodName := ⟨RX6, "isBad", "(I)Z"⟩
def RX7 : String := "SnowPumpsModel"
def TX7 : u_T := fun k => match k with
  | 0 => ("SnowPumpsModel", "thrown", "I", false)
  | 1 => ("SnowPumpsModel", "warmth", "[I", true)
  | 2 => ("SnowPumpsModel", "damp", "[I", true)
  | 3 => ("SnowPumpsModel", "gust", "[I", true)
  | 4 => ("SnowPumpsModel", "pumps", "I", false)
  | 5 => ("SnowPumpsModel", "part", "[I", true)
  | 6 => ("SnowPumpsModel", "flow", "[I", true)
  | 7 => ("SnowPumpsModel", "strict", "[I", true)
  | 8 => ("SnowPumpsModel", "jumps", "I", false)
  | 9 => ("SnowPumpsModel", "book", "[I", true)
  | 10 => ("SnowPumpsModel", "s", "LSnowPumpsModel$State;", true)
  | _ => ("SnowPumpsModel", "ahead", "LSnowPumpsModel$State;", true)
def tyX7 : Nat → FieldType := fun k => match k with
  | 0 => .int
  | 1 => .array .int
  | 2 => .array .int
  | 3 => .array .int
  | 4 => .int
  | 5 => .array .int
  | 6 => .array .int
  | 7 => .array .int
  | 8 => .int
  | 9 => .array .int
  | 10 => .object "SnowPumpsModel$State"
  | _ => .object "SnowPumpsModel$State"
abbrev wsX70 : List Cond := u_ws RX7 TX7 12
theorem nmX7 : ∀ a, a < 12 → ∀ b, b < 12 → a ≠ b → (TX7 a).2.1 ≠ (TX7 b).2.1 := by decide +kernel
theorem tyX7_ok : ∀ k, k < 12 → parseFieldDescriptor (TX7 k).2.2.1 = some (tyX7 k) := by decide +kernel
abbrev cX7_init : ByteArray := prog_8_method_1_code
def yX7_init : MethodName := ⟨RX7, "<init>", "()V"⟩
abbrev cX7_thrown : ByteArray := prog_8_method_2_code
def yX7_thrown : MethodName := ⟨RX7, "thrown", "()I"⟩
abbrev cX7_no : ByteArray := prog_8_method_3_code
def yX7_no : MethodName := ⟨RX7, "no", "(I)I"⟩
abbrev cX7_isIn : ByteArray := prog_8_method_4_code
def yX7_isIn : MethodName := ⟨RX7, "isIn", "(III)Z"⟩
abbrev cX7_isPart : ByteArray := prog_8_method_5_code
def yX7_isPart : MethodName := ⟨RX7, "isPart", "(I)Z"⟩
abbrev cX7_isPump : ByteArray := prog_8_method_6_code
def yX7_isPump : MethodName := ⟨RX7, "isPump", "(I)Z"⟩
abbrev cX7_sum : ByteArray := prog_8_method_7_code
def yX7_sum : MethodName := ⟨RX7, "sum", "([I)I"⟩
abbrev cX7_wet : ByteArray := prog_8_method_8_code
def yX7_wet : MethodName := ⟨RX7, "wet", "(I)I"⟩
abbrev cX7_work : ByteArray := prog_8_method_9_code
def yX7_work : MethodName := ⟨RX7, "work", "(LSnowPumpsModel$State;II)V"⟩
abbrev cX7_pass : ByteArray := prog_8_method_10_code
def yX7_pass : MethodName := ⟨RX7, "pass", "(LSnowPumpsModel$State;)V"⟩
abbrev cX7_setWeather : ByteArray := prog_8_method_11_code
def yX7_setWeather : MethodName := ⟨RX7, "setWeather", "(IIII)I"⟩
abbrev cX7_pump : ByteArray := prog_8_method_12_code
def yX7_pump : MethodName := ⟨RX7, "pump", "(II)I"⟩
abbrev cX7_run : ByteArray := prog_8_method_13_code
def yX7_run : MethodName := ⟨RX7, "run", "(I)Z"⟩
abbrev cX7_fill : ByteArray := prog_8_method_14_code
def yX7_fill : MethodName := ⟨RX7, "fill", "(I)I"⟩
abbrev cX7_groom : ByteArray := prog_8_method_15_code
def yX7_groom : MethodName := ⟨RX7, "groom", "(II)I"⟩
abbrev cX7_judge : ByteArray := prog_8_method_16_code
def yX7_judge : MethodName := ⟨RX7, "judge", "(II)I"⟩
abbrev cX7_gustNow : ByteArray := prog_8_method_17_code
def yX7_gustNow : MethodName := ⟨RX7, "gustNow", "()I"⟩
abbrev cX7_length : ByteArray := prog_8_method_18_code
def yX7_length : MethodName := ⟨RX7, "length", "(II)I"⟩
abbrev cX7_jump : ByteArray := prog_8_method_19_code
def yX7_jump : MethodName := ⟨RX7, "jump", "(III)I"⟩
abbrev cX7_told : ByteArray := prog_8_method_20_code
def yX7_told : MethodName := ⟨RX7, "told", "(II)I"⟩
abbrev cX7_scoreOf : ByteArray := prog_8_method_21_code
def yX7_scoreOf : MethodName := ⟨RX7, "scoreOf", "(I)I"⟩
abbrev cX7_score : ByteArray := prog_8_method_22_code
def yX7_score : MethodName := ⟨RX7, "score", "(I)I"⟩
abbrev cX7_leader : ByteArray := prog_8_method_23_code
def yX7_leader : MethodName := ⟨RX7, "leader", "()I"⟩
abbrev cX7_partTold : ByteArray := prog_8_method_24_code
def yX7_partTold : MethodName := ⟨RX7, "partTold", "(II)I"⟩
abbrev cX7_part : ByteArray := prog_8_method_25_code
def yX7_part : MethodName := ⟨RX7, "part", "(II)I"⟩
abbrev cX7_counted : ByteArray := prog_8_method_26_code
def yX7_counted : MethodName := ⟨RX7, "counted", "(LSnowPumpsModel$State;I)I"⟩
abbrev cX7_count : ByteArray := prog_8_method_27_code
def yX7_count : MethodName := ⟨RX7, "count", "(I)I"⟩
abbrev cX7_pass_ : ByteArray := prog_8_method_28_code
def yX7_pass_ : MethodName := ⟨RX7, "pass", "(I)I"⟩
abbrev cX7_enough : ByteArray := prog_8_method_29_code
def yX7_enough : MethodName := ⟨RX7, "enough", "(II)I"⟩
abbrev cX7_foresee : ByteArray := prog_8_method_30_code
def yX7_foresee : MethodName := ⟨RX7, "foresee", "(II)I"⟩
abbrev cX7_gate : ByteArray := prog_8_method_31_code
def yX7_gate : MethodName := ⟨RX7, "gate", "(I)I"⟩
abbrev cX7_snowWith : ByteArray := prog_8_method_32_code
def yX7_snowWith : MethodName := ⟨RX7, "snowWith", "(II)I"⟩
abbrev cX7_advise : ByteArray := prog_8_method_33_code
def yX7_advise : MethodName := ⟨RX7, "advise", "(I)I"⟩
abbrev cX7_mean : ByteArray := prog_8_method_34_code
def yX7_mean : MethodName := ⟨RX7, "mean", "()D"⟩
abbrev cX7_digest : ByteArray := prog_8_method_35_code
def yX7_digest : MethodName := ⟨RX7, "digest", "()J"⟩
def RJ9 : String := "java/lang/Math"
def TJ9 : u_T := fun k => match k with
  | _ => ("", "", "", false)
def tyJ9 : Nat → FieldType := fun k => match k with
  | _ => .int
abbrev wsJ90 : List Cond := u_ws RJ9 TJ9 0
theorem nmJ9 : ∀ a, a < 0 → ∀ b, b < 0 → a ≠ b → (TJ9 a).2.1 ≠ (TJ9 b).2.1 := by decide +kernel
theorem tyJ9_ok : ∀ k, k < 0 → parseFieldDescriptor (TJ9 k).2.2.1 = some (tyJ9 k) := by decide +kernel
abbrev cJ9_floorMod_7cf53 : ByteArray := prog_14_method_50_code
def yJ9_floorMod_7cf53 : MethodName := ⟨RJ9, "floorMod", "(II)I"⟩
abbrev cJ9_abs_0f7a4 : ByteArray := prog_14_method_59_code
def yJ9_abs_0f7a4 : MethodName := ⟨RJ9, "abs", "(I)I"⟩
abbrev cJ9_max_7cf53 : ByteArray := prog_14_method_65_code
def yJ9_max_7cf53 : MethodName := ⟨RJ9, "max", "(II)I"⟩
abbrev cJ9_min_7cf53 : ByteArray := prog_14_method_69_code
def yJ9_min_7cf53 : MethodName := ⟨RJ9, "min", "(II)I"⟩
def RJ0 : String := "java/lang/String"
def TJ0 : u_T := fun k => match k with
  | _ => ("", "", "", false)
def tyJ0 : Nat → FieldType := fun k => match k with
  | _ => .int
abbrev wsJ00 : List Cond := u_ws RJ0 TJ0 0
theorem nmJ0 : ∀ a, a < 0 → ∀ b, b < 0 → a ≠ b → (TJ0 a).2.1 ≠ (TJ0 b).2.1 := by decide +kernel
theorem tyJ0_ok : ∀ k, k < 0 → parseFieldDescriptor (TJ0 k).2.2.1 = some (tyJ0 k) := by decide +kernel
def RJ10 : String := "java/lang/System"
def TJ10 : u_T := fun k => match k with
  | _ => ("", "", "", false)
def tyJ10 : Nat → FieldType := fun k => match k with
  | _ => .int
abbrev wsJ100 : List Cond := u_ws RJ10 TJ10 0
theorem nmJ10 : ∀ a, a < 0 → ∀ b, b < 0 → a ≠ b → (TJ10 a).2.1 ≠ (TJ10 b).2.1 := by decide +kernel
theorem tyJ10_ok : ∀ k, k < 0 → parseFieldDescriptor (TJ10 k).2.2.1 = some (tyJ10 k) := by decide +kernel
def RL : String := "SnowPumpsLaw"
abbrev cL_setWeather : ByteArray := method_3_code
def yL_setWeather : MethodName := ⟨RL, "setWeather", "(LSnowPumps;IIII[J)I"⟩
abbrev cL_pump : ByteArray := method_4_code
def yL_pump : MethodName := ⟨RL, "pump", "(LSnowPumps;II[J)I"⟩
abbrev cL_run : ByteArray := method_5_code
def yL_run : MethodName := ⟨RL, "run", "(LSnowPumps;I[J)I"⟩
abbrev cL_fill : ByteArray := method_6_code
def yL_fill : MethodName := ⟨RL, "fill", "(LSnowPumps;I[J)I"⟩
abbrev cL_groom : ByteArray := method_7_code
def yL_groom : MethodName := ⟨RL, "groom", "(LSnowPumps;II[J)I"⟩
abbrev cL_judge : ByteArray := method_8_code
def yL_judge : MethodName := ⟨RL, "judge", "(LSnowPumps;II[J)I"⟩
abbrev cL_jump : ByteArray := method_9_code
def yL_jump : MethodName := ⟨RL, "jump", "(LSnowPumps;III[J)I"⟩
abbrev cL_told : ByteArray := method_10_code
def yL_told : MethodName := ⟨RL, "told", "(LSnowPumps;II[J)I"⟩
abbrev cL_score : ByteArray := method_11_code
def yL_score : MethodName := ⟨RL, "score", "(LSnowPumps;I[J)I"⟩
abbrev cL_part : ByteArray := method_12_code
def yL_part : MethodName := ⟨RL, "part", "(LSnowPumps;II[J)I"⟩
abbrev cL_count : ByteArray := method_13_code
def yL_count : MethodName := ⟨RL, "count", "(LSnowPumps;I[J)I"⟩
abbrev cL_pass : ByteArray := method_14_code
def yL_pass : MethodName := ⟨RL, "pass", "(LSnowPumps;I[J)I"⟩
abbrev cL_enough : ByteArray := method_15_code
def yL_enough : MethodName := ⟨RL, "enough", "(LSnowPumps;II[J)I"⟩
abbrev cL_foresee : ByteArray := method_16_code
def yL_foresee : MethodName := ⟨RL, "foresee", "(LSnowPumps;II[J)I"⟩
abbrev cL_gate : ByteArray := method_17_code
def yL_gate : MethodName := ⟨RL, "gate", "(LSnowPumps;I[J)I"⟩
abbrev cL_advise : ByteArray := method_18_code
def yL_advise : MethodName := ⟨RL, "advise", "(LSnowPumps;I[J)I"⟩
abbrev cL_law : ByteArray := code
def yL_law : MethodName := ⟨RL, "law", "([I)Z"⟩
def wsX0_init : List Cond := .code yX0_init cX0_init 3 none :: ([.methodLink RX0 3 objectInit, .instanceMethod objectInit, .code objectInit ⟨#[0xb1]⟩ 1 none, .arrayClass .int, .fieldLink RX0 9 "SnowPumps$Hill" "snow" "[I", .fieldLink RX0 15 "SnowPumps$Hill" "ice" "[I", .arrayClass .boolean, .fieldLink RX0 18 "SnowPumps$Hill" "runs" "[Z", .fieldLink RX0 22 "SnowPumps$Hill" "weather" "LSnowPumps$Weather;", .fieldLink RX0 26 "SnowPumps$Hill" "pumps" "LSnowPumps$Pumps;"] ++ wsX00)
def wsX0_becomeLike : List Cond := .code yX0_becomeLike cX0_becomeLike 3 none :: ([.fieldLink RX0 9 "SnowPumps$Hill" "snow" "[I", .fieldLink RX0 15 "SnowPumps$Hill" "ice" "[I", .fieldLink RX0 18 "SnowPumps$Hill" "runs" "[Z", .fieldLink RX0 30 "SnowPumps$Hill" "water" "I", .fieldLink RX0 34 "SnowPumps$Hill" "hour" "I"] ++ wsX00)
def wsJ9_floorMod_7cf53 : List Cond := .code yJ9_floorMod_7cf53 cJ9_floorMod_7cf53 3 (some .int) :: ([])
def wsX0_hourOfDay : List Cond := .code yX0_hourOfDay cX0_hourOfDay 1 (some .int) :: ([.fieldLink RX0 34 "SnowPumps$Hill" "hour" "I", .methodLink RX0 37 yJ9_floorMod_7cf53, .static yJ9_floorMod_7cf53, .initialized RJ9, .code yJ9_floorMod_7cf53 cJ9_floorMod_7cf53 3 (some .int)] ++ wsX00)
def wsX5_sum : List Cond := .code yX5_sum cX5_sum 6 (some .int) :: ([])
def wsX0_allSnow : List Cond := .code yX0_allSnow cX0_allSnow 1 (some .int) :: ([.fieldLink RX0 9 "SnowPumps$Hill" "snow" "[I", .static yX5_sum, .initialized RX5, .code yX5_sum cX5_sum 6 (some .int)] ++ wsX00)
def wsX0_allIce : List Cond := .code yX0_allIce cX0_allIce 1 (some .int) :: ([.fieldLink RX0 15 "SnowPumps$Hill" "ice" "[I", .static yX5_sum, .initialized RX5, .code yX5_sum cX5_sum 6 (some .int)] ++ wsX00)
def wsX0_countRunning : List Cond := .code yX0_countRunning cX0_countRunning 6 (some .int) :: ([.fieldLink RX0 18 "SnowPumps$Hill" "runs" "[Z"] ++ wsX00)
def wsX0_fallsAt : List Cond := .code yX0_fallsAt cX0_fallsAt 2 (some .boolean) :: ([.fieldLink RX0 9 "SnowPumps$Hill" "snow" "[I", .fieldLink RX0 15 "SnowPumps$Hill" "ice" "[I"] ++ wsX00)
def wsX0_takeSnow : List Cond := .code yX0_takeSnow cX0_takeSnow 3 none :: ([.fieldLink RX0 9 "SnowPumps$Hill" "snow" "[I", .methodLink RX0 47 Lib.Math.max.name, .static Lib.Math.max.name, .initialized "java/lang/Math", .code Lib.Math.max.name Lib.Math.max.code 2 (some .int)] ++ wsX00)
def wsX0_spreadSnow : List Cond := .code yX0_spreadSnow cX0_spreadSnow 8 (some .int) :: ([.fieldLink RX0 9 "SnowPumps$Hill" "snow" "[I", .fieldLink RX0 15 "SnowPumps$Hill" "ice" "[I"] ++ wsX00)
def wsX4_wetCold : List Cond := .code yX4_wetCold cX4_wetCold 2 (some .int) :: ([.fieldLink RX4 9 "SnowPumps$Weather" "warmth" "[I", .fieldLink RX4 15 "SnowPumps$Weather" "damp" "[I"] ++ wsX40)
def wsX5_isOutside : List Cond := .code yX5_isOutside cX5_isOutside 3 (some .boolean) :: ([])
def wsX0_addIce : List Cond := .code yX0_addIce cX0_addIce 2 none :: ([.fieldLink RX0 15 "SnowPumps$Hill" "ice" "[I", .methodLink RX0 85 Lib.Math.min.name, .static Lib.Math.min.name, .initialized "java/lang/Math", .code Lib.Math.min.name Lib.Math.min.code 2 (some .int), .static yX5_isOutside, .initialized RX5, .code yX5_isOutside cX5_isOutside 3 (some .boolean)] ++ wsX00)
def wsX0_addSnow : List Cond := .code yX0_addSnow cX0_addSnow 3 none :: ([.fieldLink RX0 9 "SnowPumps$Hill" "snow" "[I", .methodLink RX0 85 Lib.Math.min.name, .static Lib.Math.min.name, .initialized "java/lang/Math", .code Lib.Math.min.name Lib.Math.min.code 2 (some .int), .static yX5_isOutside, .initialized RX5, .code yX5_isOutside cX5_isOutside 3 (some .boolean)] ++ wsX00)
def wsX0_work : List Cond := .code yX0_work cX0_work 5 none :: ([.fieldLink RX0 30 "SnowPumps$Hill" "water" "I", .methodLink RX0 85 Lib.Math.min.name, .static Lib.Math.min.name, .initialized "java/lang/Math", .code Lib.Math.min.name Lib.Math.min.code 2 (some .int), .methodLink RX0 82 yX0_addIce, .instanceMethod yX0_addIce, .selects RX0 yX0_addIce yX0_addIce, .initialized RX0, .code yX0_addIce cX0_addIce 2 none, .fieldLink RX0 15 "SnowPumps$Hill" "ice" "[I", .static yX5_isOutside, .initialized RX5, .code yX5_isOutside cX5_isOutside 3 (some .boolean), .methodLink RX0 88 yX0_addSnow, .instanceMethod yX0_addSnow, .selects RX0 yX0_addSnow yX0_addSnow, .code yX0_addSnow cX0_addSnow 3 none, .fieldLink RX0 9 "SnowPumps$Hill" "snow" "[I"] ++ wsX00)
def wsX0_melt : List Cond := .code yX0_melt cX0_melt 3 none :: ([.fieldLink RX0 15 "SnowPumps$Hill" "ice" "[I", .methodLink RX0 47 Lib.Math.max.name, .static Lib.Math.max.name, .initialized "java/lang/Math", .code Lib.Math.max.name Lib.Math.max.code 2 (some .int), .methodLink RX0 96 yX0_takeSnow, .instanceMethod yX0_takeSnow, .selects RX0 yX0_takeSnow yX0_takeSnow, .initialized RX0, .code yX0_takeSnow cX0_takeSnow 3 none, .fieldLink RX0 9 "SnowPumps$Hill" "snow" "[I"] ++ wsX00)
def wsX0_letHourGoBy_r1 : List Cond := [Cond.fieldLink RX0 22 "SnowPumps$Hill" "weather" "LSnowPumps$Weather;", Cond.fieldLink RX0 57 "SnowPumps$Weather" "warmth" "[I", Cond.fieldLink RX0 18 "SnowPumps$Hill" "runs" "[Z", Cond.fieldLink RX0 26 "SnowPumps$Hill" "pumps" "LSnowPumps$Pumps;", Cond.fieldLink RX0 66 "SnowPumps$Pumps" "part" "[I", Cond.fieldLink RX0 71 "SnowPumps$Pumps" "flow" "[I", Cond.fieldLink RX0 34 "SnowPumps$Hill" "hour" "I", Cond.methodLink RX0 53 yX0_hourOfDay, Cond.instanceMethod yX0_hourOfDay, Cond.selects RX0 yX0_hourOfDay yX0_hourOfDay, Cond.initialized RX0, Cond.code yX0_hourOfDay cX0_hourOfDay 1 (some .int), Cond.methodLink RX0 37 yJ9_floorMod_7cf53, Cond.static yJ9_floorMod_7cf53, Cond.initialized RJ9, Cond.code yJ9_floorMod_7cf53 cJ9_floorMod_7cf53 3 (some .int), Cond.methodLink RX0 62 yX4_wetCold, Cond.instanceMethod yX4_wetCold, Cond.selects RX4 yX4_wetCold yX4_wetCold, Cond.initialized RX4, Cond.code yX4_wetCold cX4_wetCold 2 (some .int), Cond.fieldLink RX4 9 "SnowPumps$Weather" "warmth" "[I", Cond.fieldLink RX4 15 "SnowPumps$Weather" "damp" "[I", Cond.methodLink RX0 74 yX0_work]
def wsX0_letHourGoBy_r2 : List Cond := [Cond.instanceMethod yX0_work, Cond.selects RX0 yX0_work yX0_work, Cond.code yX0_work cX0_work 5 none, Cond.fieldLink RX0 30 "SnowPumps$Hill" "water" "I", Cond.methodLink RX0 85 Lib.Math.min.name, Cond.static Lib.Math.min.name, Cond.initialized "java/lang/Math", Cond.code Lib.Math.min.name Lib.Math.min.code 2 (some .int), Cond.methodLink RX0 82 yX0_addIce, Cond.instanceMethod yX0_addIce, Cond.selects RX0 yX0_addIce yX0_addIce, Cond.code yX0_addIce cX0_addIce 2 none, Cond.fieldLink RX0 15 "SnowPumps$Hill" "ice" "[I", Cond.static yX5_isOutside, Cond.initialized RX5, Cond.code yX5_isOutside cX5_isOutside 3 (some .boolean), Cond.methodLink RX0 88 yX0_addSnow, Cond.instanceMethod yX0_addSnow, Cond.selects RX0 yX0_addSnow yX0_addSnow, Cond.code yX0_addSnow cX0_addSnow 3 none, Cond.fieldLink RX0 9 "SnowPumps$Hill" "snow" "[I", Cond.methodLink RX0 78 yX0_melt, Cond.instanceMethod yX0_melt, Cond.selects RX0 yX0_melt yX0_melt]
def wsX0_letHourGoBy_r3 : List Cond := [Cond.code yX0_melt cX0_melt 3 none, Cond.methodLink RX0 47 Lib.Math.max.name, Cond.static Lib.Math.max.name, Cond.code Lib.Math.max.name Lib.Math.max.code 2 (some .int), Cond.methodLink RX0 96 yX0_takeSnow, Cond.instanceMethod yX0_takeSnow, Cond.selects RX0 yX0_takeSnow yX0_takeSnow, Cond.code yX0_takeSnow cX0_takeSnow 3 none]
def wsX0_letHourGoBy : List Cond := .code yX0_letHourGoBy cX0_letHourGoBy 5 none :: ((wsX0_letHourGoBy_r1 ++ (wsX0_letHourGoBy_r2 ++ wsX0_letHourGoBy_r3)) ++ wsX00 ++ wsX40 ++ wsX30)
def wsX0_letHoursGoBy_r1 : List Cond := [Cond.methodLink RX0 50 yX0_letHourGoBy, Cond.instanceMethod yX0_letHourGoBy, Cond.selects RX0 yX0_letHourGoBy yX0_letHourGoBy, Cond.initialized RX0, Cond.code yX0_letHourGoBy cX0_letHourGoBy 5 none, Cond.fieldLink RX0 22 "SnowPumps$Hill" "weather" "LSnowPumps$Weather;", Cond.fieldLink RX0 57 "SnowPumps$Weather" "warmth" "[I", Cond.fieldLink RX0 18 "SnowPumps$Hill" "runs" "[Z", Cond.fieldLink RX0 26 "SnowPumps$Hill" "pumps" "LSnowPumps$Pumps;", Cond.fieldLink RX0 66 "SnowPumps$Pumps" "part" "[I", Cond.fieldLink RX0 71 "SnowPumps$Pumps" "flow" "[I", Cond.fieldLink RX0 34 "SnowPumps$Hill" "hour" "I", Cond.methodLink RX0 53 yX0_hourOfDay, Cond.instanceMethod yX0_hourOfDay, Cond.selects RX0 yX0_hourOfDay yX0_hourOfDay, Cond.code yX0_hourOfDay cX0_hourOfDay 1 (some .int), Cond.methodLink RX0 37 yJ9_floorMod_7cf53, Cond.static yJ9_floorMod_7cf53, Cond.initialized RJ9, Cond.code yJ9_floorMod_7cf53 cJ9_floorMod_7cf53 3 (some .int), Cond.methodLink RX0 62 yX4_wetCold, Cond.instanceMethod yX4_wetCold, Cond.selects RX4 yX4_wetCold yX4_wetCold, Cond.initialized RX4]
def wsX0_letHoursGoBy_r2 : List Cond := [Cond.code yX4_wetCold cX4_wetCold 2 (some .int), Cond.fieldLink RX4 9 "SnowPumps$Weather" "warmth" "[I", Cond.fieldLink RX4 15 "SnowPumps$Weather" "damp" "[I", Cond.methodLink RX0 74 yX0_work, Cond.instanceMethod yX0_work, Cond.selects RX0 yX0_work yX0_work, Cond.code yX0_work cX0_work 5 none, Cond.fieldLink RX0 30 "SnowPumps$Hill" "water" "I", Cond.methodLink RX0 85 Lib.Math.min.name, Cond.static Lib.Math.min.name, Cond.initialized "java/lang/Math", Cond.code Lib.Math.min.name Lib.Math.min.code 2 (some .int), Cond.methodLink RX0 82 yX0_addIce, Cond.instanceMethod yX0_addIce, Cond.selects RX0 yX0_addIce yX0_addIce, Cond.code yX0_addIce cX0_addIce 2 none, Cond.fieldLink RX0 15 "SnowPumps$Hill" "ice" "[I", Cond.static yX5_isOutside, Cond.initialized RX5, Cond.code yX5_isOutside cX5_isOutside 3 (some .boolean), Cond.methodLink RX0 88 yX0_addSnow, Cond.instanceMethod yX0_addSnow, Cond.selects RX0 yX0_addSnow yX0_addSnow, Cond.code yX0_addSnow cX0_addSnow 3 none]
def wsX0_letHoursGoBy_r3 : List Cond := [Cond.fieldLink RX0 9 "SnowPumps$Hill" "snow" "[I", Cond.methodLink RX0 78 yX0_melt, Cond.instanceMethod yX0_melt, Cond.selects RX0 yX0_melt yX0_melt, Cond.code yX0_melt cX0_melt 3 none, Cond.methodLink RX0 47 Lib.Math.max.name, Cond.static Lib.Math.max.name, Cond.code Lib.Math.max.name Lib.Math.max.code 2 (some .int), Cond.methodLink RX0 96 yX0_takeSnow, Cond.instanceMethod yX0_takeSnow, Cond.selects RX0 yX0_takeSnow yX0_takeSnow, Cond.code yX0_takeSnow cX0_takeSnow 3 none]
def wsX0_letHoursGoBy : List Cond := .code yX0_letHoursGoBy cX0_letHoursGoBy 3 none :: ((wsX0_letHoursGoBy_r1 ++ (wsX0_letHoursGoBy_r2 ++ wsX0_letHoursGoBy_r3)) ++ wsX00 ++ wsX40 ++ wsX30)
def wsX1_init : List Cond := .code yX1_init cX1_init 1 none :: ([.methodLink RX1 3 objectInit, .instanceMethod objectInit, .code objectInit ⟨#[0xb1]⟩ 1 none, .arrayClass .int, .fieldLink RX1 9 "SnowPumps$Jumps" "jumper" "[I", .fieldLink RX1 15 "SnowPumps$Jumps" "length" "[I", .fieldLink RX1 18 "SnowPumps$Jumps" "points" "[I", .fieldLink RX1 21 "SnowPumps$Jumps" "fall" "[I", .fieldLink RX1 24 "SnowPumps$Jumps" "hour" "[I"] ++ wsX10)
def wsX1_add : List Cond := .code yX1_add cX1_add 7 (some .int) :: ([.fieldLink RX1 27 "SnowPumps$Jumps" "count" "I", .fieldLink RX1 9 "SnowPumps$Jumps" "jumper" "[I", .fieldLink RX1 15 "SnowPumps$Jumps" "length" "[I", .fieldLink RX1 18 "SnowPumps$Jumps" "points" "[I", .fieldLink RX1 21 "SnowPumps$Jumps" "fall" "[I", .fieldLink RX1 24 "SnowPumps$Jumps" "hour" "[I"] ++ wsX10)
def wsX1_tell : List Cond := .code yX1_tell cX1_tell 3 (some .int) :: ([.fieldLink RX1 9 "SnowPumps$Jumps" "jumper" "[I", .fieldLink RX1 15 "SnowPumps$Jumps" "length" "[I", .fieldLink RX1 18 "SnowPumps$Jumps" "points" "[I", .fieldLink RX1 21 "SnowPumps$Jumps" "fall" "[I", .fieldLink RX1 24 "SnowPumps$Jumps" "hour" "[I"] ++ wsX10)
def wsX1_bestTwo : List Cond := .code yX1_bestTwo cX1_bestTwo 5 (some .int) :: ([.fieldLink RX1 27 "SnowPumps$Jumps" "count" "I", .fieldLink RX1 9 "SnowPumps$Jumps" "jumper" "[I", .fieldLink RX1 18 "SnowPumps$Jumps" "points" "[I", .methodLink RX1 31 Lib.Math.min.name, .static Lib.Math.min.name, .initialized "java/lang/Math", .code Lib.Math.min.name Lib.Math.min.code 2 (some .int), .methodLink RX1 37 Lib.Math.max.name, .static Lib.Math.max.name, .code Lib.Math.max.name Lib.Math.max.code 2 (some .int)] ++ wsX10)
def wsX1_countFalls : List Cond := .code yX1_countFalls cX1_countFalls 1 (some .int) :: ([.fieldLink RX1 21 "SnowPumps$Jumps" "fall" "[I", .static yX5_sum, .initialized RX5, .code yX5_sum cX5_sum 6 (some .int)] ++ wsX10)
def wsX1_allPoints : List Cond := .code yX1_allPoints cX1_allPoints 1 (some .int) :: ([.fieldLink RX1 18 "SnowPumps$Jumps" "points" "[I", .static yX5_sum, .initialized RX5, .code yX5_sum cX5_sum 6 (some .int)] ++ wsX10)
def wsX1_addTo : List Cond := .code yX1_addTo cX1_addTo 7 (some .long) :: ([.fieldLink RX1 27 "SnowPumps$Jumps" "count" "I", .constantLong RX1 44 (31), .methodLink RX1 46 yX1_tell, .instanceMethod yX1_tell, .selects RX1 yX1_tell yX1_tell, .initialized RX1, .code yX1_tell cX1_tell 3 (some .int), .fieldLink RX1 9 "SnowPumps$Jumps" "jumper" "[I", .fieldLink RX1 15 "SnowPumps$Jumps" "length" "[I", .fieldLink RX1 18 "SnowPumps$Jumps" "points" "[I", .fieldLink RX1 21 "SnowPumps$Jumps" "fall" "[I", .fieldLink RX1 24 "SnowPumps$Jumps" "hour" "[I"] ++ wsX10)
def wsX2_init : List Cond := .code yX2_init cX2_init 2 none :: ([.methodLink RX2 3 objectInit, .instanceMethod objectInit, .code objectInit ⟨#[0xb1]⟩ 1 none, .arrayClass .int, .fieldLink RX2 9 "SnowPumps$Jury" "strict" "[I"] ++ wsX20)
def wsX5_hold : List Cond := .code yX5_hold cX5_hold 3 (some .int) :: ([.methodLink RX5 111 Lib.Math.min.name, .static Lib.Math.min.name, .initialized "java/lang/Math", .code Lib.Math.min.name Lib.Math.min.code 2 (some .int), .methodLink RX5 254 Lib.Math.max.name, .static Lib.Math.max.name, .code Lib.Math.max.name Lib.Math.max.code 2 (some .int)])
def wsX2_marks : List Cond := .code yX2_marks cX2_marks 10 (some .int) :: ([.methodLink RX2 15 Lib.Math.abs.name, .static Lib.Math.abs.name, .initialized "java/lang/Math", .code Lib.Math.abs.name Lib.Math.abs.code 1 (some .int), .fieldLink RX2 9 "SnowPumps$Jury" "strict" "[I", .methodLink RX2 25 Lib.Math.max.name, .static Lib.Math.max.name, .code Lib.Math.max.name Lib.Math.max.code 2 (some .int), .methodLink RX2 29 Lib.Math.min.name, .static Lib.Math.min.name, .code Lib.Math.min.name Lib.Math.min.code 2 (some .int), .static yX5_hold, .initialized RX5, .code yX5_hold cX5_hold 3 (some .int), .methodLink RX5 111 Lib.Math.min.name, .methodLink RX5 254 Lib.Math.max.name] ++ wsX20)
def wsX2_addTo : List Cond := .code yX2_addTo cX2_addTo 6 (some .long) :: ([.constantLong RX2 32 (31), .fieldLink RX2 9 "SnowPumps$Jury" "strict" "[I"] ++ wsX20)
def wsX3_init : List Cond := .code yX3_init cX3_init 1 none :: ([.methodLink RX3 3 objectInit, .instanceMethod objectInit, .code objectInit ⟨#[0xb1]⟩ 1 none, .arrayClass .int, .fieldLink RX3 9 "SnowPumps$Pumps" "part" "[I", .fieldLink RX3 15 "SnowPumps$Pumps" "flow" "[I"] ++ wsX30)
def wsX3_setUp : List Cond := .code yX3_setUp cX3_setUp 4 (some .int) :: ([.fieldLink RX3 18 "SnowPumps$Pumps" "count" "I", .fieldLink RX3 9 "SnowPumps$Pumps" "part" "[I", .fieldLink RX3 15 "SnowPumps$Pumps" "flow" "[I"] ++ wsX30)
def wsX3_countAt : List Cond := .code yX3_countAt cX3_countAt 4 (some .int) :: ([.fieldLink RX3 18 "SnowPumps$Pumps" "count" "I", .fieldLink RX3 9 "SnowPumps$Pumps" "part" "[I"] ++ wsX30)
def wsX4_init : List Cond := .code yX4_init cX4_init 2 none :: ([.methodLink RX4 3 objectInit, .instanceMethod objectInit, .code objectInit ⟨#[0xb1]⟩ 1 none, .arrayClass .int, .fieldLink RX4 9 "SnowPumps$Weather" "warmth" "[I", .fieldLink RX4 15 "SnowPumps$Weather" "damp" "[I", .fieldLink RX4 18 "SnowPumps$Weather" "gust" "[I"] ++ wsX40)
def wsX4_addTo : List Cond := .code yX4_addTo cX4_addTo 6 (some .long) :: ([.constantLong RX4 21 (31), .fieldLink RX4 9 "SnowPumps$Weather" "warmth" "[I", .fieldLink RX4 15 "SnowPumps$Weather" "damp" "[I", .fieldLink RX4 18 "SnowPumps$Weather" "gust" "[I"] ++ wsX40)
def wsX5_init_r1 : List Cond := [Cond.methodLink RX5 1 objectInit, Cond.instanceMethod objectInit, Cond.code objectInit ⟨#[0xb1]⟩ 1 none, Cond.classLink RX5 7 RX4, Cond.instantiable RX4 3, Cond.initialized RX4, Cond.fieldLink RX5 10 "SnowPumps" "weather" "LSnowPumps$Weather;", Cond.classLink RX5 16 RX3, Cond.instantiable RX3 3, Cond.initialized RX3, Cond.fieldLink RX5 19 "SnowPumps" "pumps" "LSnowPumps$Pumps;", Cond.classLink RX5 23 RX0, Cond.instantiable RX0 7, Cond.initialized RX0, Cond.fieldLink RX5 28 "SnowPumps" "hill" "LSnowPumps$Hill;", Cond.fieldLink RX5 32 "SnowPumps" "ahead" "LSnowPumps$Hill;", Cond.classLink RX5 35 RX2, Cond.instantiable RX2 1, Cond.initialized RX2, Cond.fieldLink RX5 38 "SnowPumps" "jury" "LSnowPumps$Jury;", Cond.classLink RX5 42 RX1, Cond.instantiable RX1 6, Cond.initialized RX1, Cond.fieldLink RX5 45 "SnowPumps" "jumps" "LSnowPumps$Jumps;"]
def wsX5_init_r2 : List Cond := [Cond.methodLink RX5 9 yX4_init, Cond.instanceMethod yX4_init, Cond.code yX4_init cX4_init 2 none, Cond.methodLink RX4 3 objectInit, Cond.arrayClass .int, Cond.fieldLink RX4 9 "SnowPumps$Weather" "warmth" "[I", Cond.fieldLink RX4 15 "SnowPumps$Weather" "damp" "[I", Cond.fieldLink RX4 18 "SnowPumps$Weather" "gust" "[I", Cond.instanceMethod yX3_init, Cond.code yX3_init cX3_init 1 none, Cond.methodLink RX3 3 objectInit, Cond.fieldLink RX3 9 "SnowPumps$Pumps" "part" "[I", Cond.fieldLink RX3 15 "SnowPumps$Pumps" "flow" "[I", Cond.methodLink RX5 25 yX0_init, Cond.instanceMethod yX0_init, Cond.code yX0_init cX0_init 3 none, Cond.methodLink RX0 3 objectInit, Cond.fieldLink RX0 9 "SnowPumps$Hill" "snow" "[I", Cond.fieldLink RX0 15 "SnowPumps$Hill" "ice" "[I", Cond.arrayClass .boolean, Cond.fieldLink RX0 18 "SnowPumps$Hill" "runs" "[Z", Cond.fieldLink RX0 22 "SnowPumps$Hill" "weather" "LSnowPumps$Weather;", Cond.fieldLink RX0 26 "SnowPumps$Hill" "pumps" "LSnowPumps$Pumps;", Cond.methodLink RX5 37 yX2_init]
def wsX5_init_r3 : List Cond := [Cond.instanceMethod yX2_init, Cond.code yX2_init cX2_init 2 none, Cond.methodLink RX2 3 objectInit, Cond.fieldLink RX2 9 "SnowPumps$Jury" "strict" "[I", Cond.instanceMethod yX1_init, Cond.code yX1_init cX1_init 1 none, Cond.methodLink RX1 3 objectInit, Cond.fieldLink RX1 9 "SnowPumps$Jumps" "jumper" "[I", Cond.fieldLink RX1 15 "SnowPumps$Jumps" "length" "[I", Cond.fieldLink RX1 18 "SnowPumps$Jumps" "points" "[I", Cond.fieldLink RX1 21 "SnowPumps$Jumps" "fall" "[I", Cond.fieldLink RX1 24 "SnowPumps$Jumps" "hour" "[I"]
def wsX5_init : List Cond := .code yX5_init cX5_init 1 none :: ((wsX5_init_r1 ++ (wsX5_init_r2 ++ wsX5_init_r3)) ++ wsX40 ++ wsX50 ++ wsX30 ++ wsX00 ++ wsX20 ++ wsX10)
def wsX5_setWeather : List Cond := .code yX5_setWeather cX5_setWeather 5 (some .int) :: ([.classLink RX5 53 "java/lang/IndexOutOfBoundsException", .initialized "java/lang/IndexOutOfBoundsException", .classLink RX5 60 "java/lang/IllegalArgumentException", .initialized "java/lang/IllegalArgumentException", .fieldLink RX5 10 "SnowPumps" "weather" "LSnowPumps$Weather;", .fieldLink RX5 69 "SnowPumps$Weather" "warmth" "[I", .fieldLink RX5 73 "SnowPumps$Weather" "damp" "[I", .fieldLink RX5 76 "SnowPumps$Weather" "gust" "[I", .methodLink RX5 49 yX5_isOutside, .static yX5_isOutside, .initialized RX5, .code yX5_isOutside cX5_isOutside 3 (some .boolean), .methodLink RX5 79 yX4_wetCold, .instanceMethod yX4_wetCold, .selects RX4 yX4_wetCold yX4_wetCold, .initialized RX4, .code yX4_wetCold cX4_wetCold 2 (some .int), .fieldLink RX4 9 "SnowPumps$Weather" "warmth" "[I", .fieldLink RX4 15 "SnowPumps$Weather" "damp" "[I"] ++ wsX50 ++ wsX40 ++ (vx_atS RX5 57 "java/lang/IndexOutOfBoundsException" ["java/lang/RuntimeException", "java/lang/Exception"]).filter goodWord ++ (vx_atS RX5 64 "java/lang/IllegalArgumentException" ["java/lang/RuntimeException", "java/lang/Exception"]).filter goodWord)
def wsX5_pump : List Cond := .code yX5_pump cX5_pump 3 (some .int) :: ([.classLink RX5 53 "java/lang/IndexOutOfBoundsException", .initialized "java/lang/IndexOutOfBoundsException", .classLink RX5 60 "java/lang/IllegalArgumentException", .initialized "java/lang/IllegalArgumentException", .classLink RX5 91 "java/lang/IllegalStateException", .initialized "java/lang/IllegalStateException", .fieldLink RX5 19 "SnowPumps" "pumps" "LSnowPumps$Pumps;", .fieldLink RX5 87 "SnowPumps$Pumps" "count" "I", .methodLink RX5 49 yX5_isOutside, .static yX5_isOutside, .initialized RX5, .code yX5_isOutside cX5_isOutside 3 (some .boolean), .methodLink RX5 96 yX3_setUp, .instanceMethod yX3_setUp, .selects RX3 yX3_setUp yX3_setUp, .initialized RX3, .code yX3_setUp cX3_setUp 4 (some .int), .fieldLink RX3 18 "SnowPumps$Pumps" "count" "I", .fieldLink RX3 9 "SnowPumps$Pumps" "part" "[I", .fieldLink RX3 15 "SnowPumps$Pumps" "flow" "[I"] ++ wsX50 ++ wsX30 ++ (vx_atS RX5 57 "java/lang/IndexOutOfBoundsException" ["java/lang/RuntimeException", "java/lang/Exception"]).filter goodWord ++ (vx_atS RX5 64 "java/lang/IllegalArgumentException" ["java/lang/RuntimeException", "java/lang/Exception"]).filter goodWord ++ (vx_atS RX5 95 "java/lang/IllegalStateException" ["java/lang/RuntimeException", "java/lang/Exception"]).filter goodWord)
def wsX5_run : List Cond := .code yX5_run cX5_run 2 (some .boolean) :: ([.classLink RX5 53 "java/lang/IndexOutOfBoundsException", .initialized "java/lang/IndexOutOfBoundsException", .fieldLink RX5 19 "SnowPumps" "pumps" "LSnowPumps$Pumps;", .fieldLink RX5 87 "SnowPumps$Pumps" "count" "I", .fieldLink RX5 28 "SnowPumps" "hill" "LSnowPumps$Hill;", .fieldLink RX5 102 "SnowPumps$Hill" "runs" "[Z", .methodLink RX5 49 yX5_isOutside, .static yX5_isOutside, .initialized RX5, .code yX5_isOutside cX5_isOutside 3 (some .boolean)] ++ wsX50 ++ wsX30 ++ wsX00 ++ (vx_atS RX5 57 "java/lang/IndexOutOfBoundsException" ["java/lang/RuntimeException", "java/lang/Exception"]).filter goodWord)
def wsX5_fill : List Cond := .code yX5_fill cX5_fill 2 (some .int) :: ([.classLink RX5 60 "java/lang/IllegalArgumentException", .initialized "java/lang/IllegalArgumentException", .fieldLink RX5 28 "SnowPumps" "hill" "LSnowPumps$Hill;", .fieldLink RX5 108 "SnowPumps$Hill" "water" "I", .methodLink RX5 111 Lib.Math.min.name, .static Lib.Math.min.name, .initialized "java/lang/Math", .code Lib.Math.min.name Lib.Math.min.code 2 (some .int), .methodLink RX5 49 yX5_isOutside, .static yX5_isOutside, .initialized RX5, .code yX5_isOutside cX5_isOutside 3 (some .boolean)] ++ wsX50 ++ wsX00 ++ (vx_atS RX5 64 "java/lang/IllegalArgumentException" ["java/lang/RuntimeException", "java/lang/Exception"]).filter goodWord)
def wsX5_groom : List Cond := .code yX5_groom cX5_groom 3 (some .int) :: ([.classLink RX5 53 "java/lang/IndexOutOfBoundsException", .initialized "java/lang/IndexOutOfBoundsException", .classLink RX5 60 "java/lang/IllegalArgumentException", .initialized "java/lang/IllegalArgumentException", .fieldLink RX5 28 "SnowPumps" "hill" "LSnowPumps$Hill;", .methodLink RX5 49 yX5_isOutside, .static yX5_isOutside, .initialized RX5, .code yX5_isOutside cX5_isOutside 3 (some .boolean), .methodLink RX5 122 yX0_spreadSnow, .instanceMethod yX0_spreadSnow, .selects RX0 yX0_spreadSnow yX0_spreadSnow, .initialized RX0, .code yX0_spreadSnow cX0_spreadSnow 8 (some .int), .fieldLink RX0 9 "SnowPumps$Hill" "snow" "[I", .fieldLink RX0 15 "SnowPumps$Hill" "ice" "[I"] ++ wsX50 ++ wsX00 ++ (vx_atS RX5 57 "java/lang/IndexOutOfBoundsException" ["java/lang/RuntimeException", "java/lang/Exception"]).filter goodWord ++ (vx_atS RX5 64 "java/lang/IllegalArgumentException" ["java/lang/RuntimeException", "java/lang/Exception"]).filter goodWord)
def wsX5_judge : List Cond := .code yX5_judge cX5_judge 4 (some .int) :: ([.classLink RX5 53 "java/lang/IndexOutOfBoundsException", .initialized "java/lang/IndexOutOfBoundsException", .classLink RX5 60 "java/lang/IllegalArgumentException", .initialized "java/lang/IllegalArgumentException", .fieldLink RX5 38 "SnowPumps" "jury" "LSnowPumps$Jury;", .fieldLink RX5 129 "SnowPumps$Jury" "strict" "[I", .methodLink RX5 49 yX5_isOutside, .static yX5_isOutside, .initialized RX5, .code yX5_isOutside cX5_isOutside 3 (some .boolean)] ++ wsX50 ++ wsX20 ++ (vx_atS RX5 57 "java/lang/IndexOutOfBoundsException" ["java/lang/RuntimeException", "java/lang/Exception"]).filter goodWord ++ (vx_atS RX5 64 "java/lang/IllegalArgumentException" ["java/lang/RuntimeException", "java/lang/Exception"]).filter goodWord)
def wsX5_lengthFrom : List Cond := .code yX5_lengthFrom cX5_lengthFrom 3 (some .int) :: ([.methodLink RX5 251 yX5_hold, .static yX5_hold, .initialized RX5, .code yX5_hold cX5_hold 3 (some .int), .methodLink RX5 111 Lib.Math.min.name, .static Lib.Math.min.name, .initialized "java/lang/Math", .code Lib.Math.min.name Lib.Math.min.code 2 (some .int), .methodLink RX5 254 Lib.Math.max.name, .static Lib.Math.max.name, .code Lib.Math.max.name Lib.Math.max.code 2 (some .int)])
def wsX5_jump_r1 : List Cond := [Cond.classLink RX5 60 "java/lang/IllegalArgumentException", Cond.initialized "java/lang/IllegalArgumentException", Cond.classLink RX5 91 "java/lang/IllegalStateException", Cond.initialized "java/lang/IllegalStateException", Cond.fieldLink RX5 45 "SnowPumps" "jumps" "LSnowPumps$Jumps;", Cond.fieldLink RX5 138 "SnowPumps$Jumps" "count" "I", Cond.fieldLink RX5 10 "SnowPumps" "weather" "LSnowPumps$Weather;", Cond.fieldLink RX5 76 "SnowPumps$Weather" "gust" "[I", Cond.fieldLink RX5 28 "SnowPumps" "hill" "LSnowPumps$Hill;", Cond.fieldLink RX5 38 "SnowPumps" "jury" "LSnowPumps$Jury;", Cond.fieldLink RX5 161 "SnowPumps$Hill" "hour" "I", Cond.methodLink RX5 49 yX5_isOutside, Cond.static yX5_isOutside, Cond.initialized RX5, Cond.code yX5_isOutside cX5_isOutside 3 (some .boolean), Cond.methodLink RX5 141 yX0_hourOfDay, Cond.instanceMethod yX0_hourOfDay, Cond.selects RX0 yX0_hourOfDay yX0_hourOfDay, Cond.initialized RX0, Cond.code yX0_hourOfDay cX0_hourOfDay 1 (some .int), Cond.fieldLink RX0 34 "SnowPumps$Hill" "hour" "I", Cond.methodLink RX0 37 yJ9_floorMod_7cf53, Cond.static yJ9_floorMod_7cf53, Cond.initialized RJ9]
def wsX5_jump_r2 : List Cond := [Cond.code yJ9_floorMod_7cf53 cJ9_floorMod_7cf53 3 (some .int), Cond.methodLink RX5 145 yX5_lengthFrom, Cond.static yX5_lengthFrom, Cond.code yX5_lengthFrom cX5_lengthFrom 3 (some .int), Cond.methodLink RX5 251 yX5_hold, Cond.static yX5_hold, Cond.code yX5_hold cX5_hold 3 (some .int), Cond.methodLink RX5 111 Lib.Math.min.name, Cond.static Lib.Math.min.name, Cond.initialized "java/lang/Math", Cond.code Lib.Math.min.name Lib.Math.min.code 2 (some .int), Cond.methodLink RX5 254 Lib.Math.max.name, Cond.static Lib.Math.max.name, Cond.code Lib.Math.max.name Lib.Math.max.code 2 (some .int), Cond.methodLink RX5 149 yX0_fallsAt, Cond.instanceMethod yX0_fallsAt, Cond.selects RX0 yX0_fallsAt yX0_fallsAt, Cond.code yX0_fallsAt cX0_fallsAt 2 (some .boolean), Cond.fieldLink RX0 9 "SnowPumps$Hill" "snow" "[I", Cond.fieldLink RX0 15 "SnowPumps$Hill" "ice" "[I", Cond.methodLink RX5 153 yX0_takeSnow, Cond.instanceMethod yX0_takeSnow, Cond.selects RX0 yX0_takeSnow yX0_takeSnow, Cond.code yX0_takeSnow cX0_takeSnow 3 none]
def wsX5_jump_r3 : List Cond := [Cond.methodLink RX0 47 Lib.Math.max.name, Cond.methodLink RX5 157 yX2_marks, Cond.instanceMethod yX2_marks, Cond.selects RX2 yX2_marks yX2_marks, Cond.initialized RX2, Cond.code yX2_marks cX2_marks 10 (some .int), Cond.methodLink RX2 15 Lib.Math.abs.name, Cond.static Lib.Math.abs.name, Cond.code Lib.Math.abs.name Lib.Math.abs.code 1 (some .int), Cond.fieldLink RX2 9 "SnowPumps$Jury" "strict" "[I", Cond.methodLink RX2 25 Lib.Math.max.name, Cond.methodLink RX2 29 Lib.Math.min.name, Cond.methodLink RX5 164 yX1_add, Cond.instanceMethod yX1_add, Cond.selects RX1 yX1_add yX1_add, Cond.initialized RX1, Cond.code yX1_add cX1_add 7 (some .int), Cond.fieldLink RX1 27 "SnowPumps$Jumps" "count" "I", Cond.fieldLink RX1 9 "SnowPumps$Jumps" "jumper" "[I", Cond.fieldLink RX1 15 "SnowPumps$Jumps" "length" "[I", Cond.fieldLink RX1 18 "SnowPumps$Jumps" "points" "[I", Cond.fieldLink RX1 21 "SnowPumps$Jumps" "fall" "[I", Cond.fieldLink RX1 24 "SnowPumps$Jumps" "hour" "[I"]
def wsX5_jump : List Cond := .code yX5_jump cX5_jump 8 (some .int) :: ((wsX5_jump_r1 ++ (wsX5_jump_r2 ++ wsX5_jump_r3)) ++ wsX50 ++ wsX10 ++ wsX40 ++ wsX00 ++ wsX20 ++ (vx_atS RX5 64 "java/lang/IllegalArgumentException" ["java/lang/RuntimeException", "java/lang/Exception"]).filter goodWord ++ (vx_atS RX5 95 "java/lang/IllegalStateException" ["java/lang/RuntimeException", "java/lang/Exception"]).filter goodWord)
def wsX5_told : List Cond := .code yX5_told cX5_told 3 (some .int) :: ([.classLink RX5 53 "java/lang/IndexOutOfBoundsException", .initialized "java/lang/IndexOutOfBoundsException", .fieldLink RX5 45 "SnowPumps" "jumps" "LSnowPumps$Jumps;", .fieldLink RX5 138 "SnowPumps$Jumps" "count" "I", .methodLink RX5 49 yX5_isOutside, .static yX5_isOutside, .initialized RX5, .code yX5_isOutside cX5_isOutside 3 (some .boolean), .methodLink RX5 172 yX1_tell, .instanceMethod yX1_tell, .selects RX1 yX1_tell yX1_tell, .initialized RX1, .code yX1_tell cX1_tell 3 (some .int), .fieldLink RX1 9 "SnowPumps$Jumps" "jumper" "[I", .fieldLink RX1 15 "SnowPumps$Jumps" "length" "[I", .fieldLink RX1 18 "SnowPumps$Jumps" "points" "[I", .fieldLink RX1 21 "SnowPumps$Jumps" "fall" "[I", .fieldLink RX1 24 "SnowPumps$Jumps" "hour" "[I"] ++ wsX50 ++ wsX10 ++ (vx_atS RX5 57 "java/lang/IndexOutOfBoundsException" ["java/lang/RuntimeException", "java/lang/Exception"]).filter goodWord)
def wsX5_score : List Cond := .code yX5_score cX5_score 2 (some .int) :: ([.classLink RX5 53 "java/lang/IndexOutOfBoundsException", .initialized "java/lang/IndexOutOfBoundsException", .fieldLink RX5 45 "SnowPumps" "jumps" "LSnowPumps$Jumps;", .methodLink RX5 49 yX5_isOutside, .static yX5_isOutside, .initialized RX5, .code yX5_isOutside cX5_isOutside 3 (some .boolean), .methodLink RX5 175 yX1_bestTwo, .instanceMethod yX1_bestTwo, .selects RX1 yX1_bestTwo yX1_bestTwo, .initialized RX1, .code yX1_bestTwo cX1_bestTwo 5 (some .int), .fieldLink RX1 27 "SnowPumps$Jumps" "count" "I", .fieldLink RX1 9 "SnowPumps$Jumps" "jumper" "[I", .fieldLink RX1 18 "SnowPumps$Jumps" "points" "[I", .methodLink RX1 31 Lib.Math.min.name, .static Lib.Math.min.name, .initialized "java/lang/Math", .code Lib.Math.min.name Lib.Math.min.code 2 (some .int), .methodLink RX1 37 Lib.Math.max.name, .static Lib.Math.max.name, .code Lib.Math.max.name Lib.Math.max.code 2 (some .int)] ++ wsX50 ++ wsX10 ++ (vx_atS RX5 57 "java/lang/IndexOutOfBoundsException" ["java/lang/RuntimeException", "java/lang/Exception"]).filter goodWord)
def wsX5_leader : List Cond := .code yX5_leader cX5_leader 5 (some .int) :: ([.fieldLink RX5 45 "SnowPumps" "jumps" "LSnowPumps$Jumps;", .fieldLink RX5 138 "SnowPumps$Jumps" "count" "I", .methodLink RX5 175 yX1_bestTwo, .instanceMethod yX1_bestTwo, .selects RX1 yX1_bestTwo yX1_bestTwo, .initialized RX1, .code yX1_bestTwo cX1_bestTwo 5 (some .int), .fieldLink RX1 27 "SnowPumps$Jumps" "count" "I", .fieldLink RX1 9 "SnowPumps$Jumps" "jumper" "[I", .fieldLink RX1 18 "SnowPumps$Jumps" "points" "[I", .methodLink RX1 31 Lib.Math.min.name, .static Lib.Math.min.name, .initialized "java/lang/Math", .code Lib.Math.min.name Lib.Math.min.code 2 (some .int), .methodLink RX1 37 Lib.Math.max.name, .static Lib.Math.max.name, .code Lib.Math.max.name Lib.Math.max.code 2 (some .int)] ++ wsX50 ++ wsX10)
def wsX5_tellPart : List Cond := .code yX5_tellPart cX5_tellPart 3 (some .int) :: ([.fieldLink RX5 28 "SnowPumps" "hill" "LSnowPumps$Hill;", .fieldLink RX5 203 "SnowPumps$Hill" "snow" "[I", .fieldLink RX5 239 "SnowPumps$Hill" "ice" "[I", .fieldLink RX5 19 "SnowPumps" "pumps" "LSnowPumps$Pumps;", .methodLink RX5 242 yX3_countAt, .instanceMethod yX3_countAt, .selects RX3 yX3_countAt yX3_countAt, .initialized RX3, .code yX3_countAt cX3_countAt 4 (some .int), .fieldLink RX3 18 "SnowPumps$Pumps" "count" "I", .fieldLink RX3 9 "SnowPumps$Pumps" "part" "[I", .methodLink RX5 149 yX0_fallsAt, .instanceMethod yX0_fallsAt, .selects RX0 yX0_fallsAt yX0_fallsAt, .initialized RX0, .code yX0_fallsAt cX0_fallsAt 2 (some .boolean), .fieldLink RX0 9 "SnowPumps$Hill" "snow" "[I", .fieldLink RX0 15 "SnowPumps$Hill" "ice" "[I"] ++ wsX50 ++ wsX00 ++ wsX30)
def wsX5_part_r1 : List Cond := [Cond.classLink RX5 53 "java/lang/IndexOutOfBoundsException", Cond.initialized "java/lang/IndexOutOfBoundsException", Cond.methodLink RX5 49 yX5_isOutside, Cond.static yX5_isOutside, Cond.initialized RX5, Cond.code yX5_isOutside cX5_isOutside 3 (some .boolean), Cond.methodLink RX5 180 yX5_tellPart, Cond.instanceMethod yX5_tellPart, Cond.selects RX5 yX5_tellPart yX5_tellPart, Cond.code yX5_tellPart cX5_tellPart 3 (some .int), Cond.fieldLink RX5 28 "SnowPumps" "hill" "LSnowPumps$Hill;", Cond.fieldLink RX5 203 "SnowPumps$Hill" "snow" "[I", Cond.fieldLink RX5 239 "SnowPumps$Hill" "ice" "[I", Cond.fieldLink RX5 19 "SnowPumps" "pumps" "LSnowPumps$Pumps;", Cond.methodLink RX5 242 yX3_countAt, Cond.instanceMethod yX3_countAt, Cond.selects RX3 yX3_countAt yX3_countAt, Cond.initialized RX3, Cond.code yX3_countAt cX3_countAt 4 (some .int), Cond.fieldLink RX3 18 "SnowPumps$Pumps" "count" "I", Cond.fieldLink RX3 9 "SnowPumps$Pumps" "part" "[I", Cond.methodLink RX5 149 yX0_fallsAt, Cond.instanceMethod yX0_fallsAt, Cond.selects RX0 yX0_fallsAt yX0_fallsAt]
def wsX5_part_r2 : List Cond := [Cond.initialized RX0, Cond.code yX0_fallsAt cX0_fallsAt 2 (some .boolean), Cond.fieldLink RX0 9 "SnowPumps$Hill" "snow" "[I", Cond.fieldLink RX0 15 "SnowPumps$Hill" "ice" "[I"]
def wsX5_part : List Cond := .code yX5_part cX5_part 3 (some .int) :: ((wsX5_part_r1 ++ wsX5_part_r2) ++ wsX50 ++ wsX00 ++ wsX30 ++ (vx_atS RX5 57 "java/lang/IndexOutOfBoundsException" ["java/lang/RuntimeException", "java/lang/Exception"]).filter goodWord)
def wsX5_tellCount_r1 : List Cond := [Cond.fieldLink RX5 28 "SnowPumps" "hill" "LSnowPumps$Hill;", Cond.fieldLink RX5 161 "SnowPumps$Hill" "hour" "I", Cond.fieldLink RX5 10 "SnowPumps" "weather" "LSnowPumps$Weather;", Cond.fieldLink RX5 76 "SnowPumps$Weather" "gust" "[I", Cond.fieldLink RX5 108 "SnowPumps$Hill" "water" "I", Cond.fieldLink RX5 19 "SnowPumps" "pumps" "LSnowPumps$Pumps;", Cond.fieldLink RX5 87 "SnowPumps$Pumps" "count" "I", Cond.fieldLink RX5 45 "SnowPumps" "jumps" "LSnowPumps$Jumps;", Cond.fieldLink RX5 138 "SnowPumps$Jumps" "count" "I", Cond.methodLink RX5 141 yX0_hourOfDay, Cond.instanceMethod yX0_hourOfDay, Cond.selects RX0 yX0_hourOfDay yX0_hourOfDay, Cond.initialized RX0, Cond.code yX0_hourOfDay cX0_hourOfDay 1 (some .int), Cond.fieldLink RX0 34 "SnowPumps$Hill" "hour" "I", Cond.methodLink RX0 37 yJ9_floorMod_7cf53, Cond.static yJ9_floorMod_7cf53, Cond.initialized RJ9, Cond.code yJ9_floorMod_7cf53 cJ9_floorMod_7cf53 3 (some .int), Cond.methodLink RX5 79 yX4_wetCold, Cond.instanceMethod yX4_wetCold, Cond.selects RX4 yX4_wetCold yX4_wetCold, Cond.initialized RX4, Cond.code yX4_wetCold cX4_wetCold 2 (some .int)]
def wsX5_tellCount_r2 : List Cond := [Cond.fieldLink RX4 9 "SnowPumps$Weather" "warmth" "[I", Cond.fieldLink RX4 15 "SnowPumps$Weather" "damp" "[I", Cond.methodLink RX5 245 yX0_countRunning, Cond.instanceMethod yX0_countRunning, Cond.selects RX0 yX0_countRunning yX0_countRunning, Cond.code yX0_countRunning cX0_countRunning 6 (some .int), Cond.fieldLink RX0 18 "SnowPumps$Hill" "runs" "[Z", Cond.methodLink RX5 190 yX0_allSnow, Cond.instanceMethod yX0_allSnow, Cond.selects RX0 yX0_allSnow yX0_allSnow, Cond.code yX0_allSnow cX0_allSnow 1 (some .int), Cond.fieldLink RX0 9 "SnowPumps$Hill" "snow" "[I", Cond.static yX5_sum, Cond.initialized RX5, Cond.code yX5_sum cX5_sum 6 (some .int), Cond.methodLink RX5 211 yX0_allIce, Cond.instanceMethod yX0_allIce, Cond.selects RX0 yX0_allIce yX0_allIce, Cond.code yX0_allIce cX0_allIce 1 (some .int), Cond.fieldLink RX0 15 "SnowPumps$Hill" "ice" "[I", Cond.methodLink RX5 248 yX1_countFalls, Cond.instanceMethod yX1_countFalls, Cond.selects RX1 yX1_countFalls yX1_countFalls, Cond.initialized RX1]
def wsX5_tellCount_r3 : List Cond := [Cond.code yX1_countFalls cX1_countFalls 1 (some .int), Cond.fieldLink RX1 21 "SnowPumps$Jumps" "fall" "[I"]
def wsX5_tellCount : List Cond := .code yX5_tellCount cX5_tellCount 2 (some .int) :: ((wsX5_tellCount_r1 ++ (wsX5_tellCount_r2 ++ wsX5_tellCount_r3)) ++ wsX50 ++ wsX00 ++ wsX40 ++ wsX30 ++ wsX10)
def wsX5_count_r1 : List Cond := [Cond.classLink RX5 53 "java/lang/IndexOutOfBoundsException", Cond.initialized "java/lang/IndexOutOfBoundsException", Cond.methodLink RX5 49 yX5_isOutside, Cond.static yX5_isOutside, Cond.initialized RX5, Cond.code yX5_isOutside cX5_isOutside 3 (some .boolean), Cond.methodLink RX5 185 yX5_tellCount, Cond.instanceMethod yX5_tellCount, Cond.selects RX5 yX5_tellCount yX5_tellCount, Cond.code yX5_tellCount cX5_tellCount 2 (some .int), Cond.fieldLink RX5 28 "SnowPumps" "hill" "LSnowPumps$Hill;", Cond.fieldLink RX5 161 "SnowPumps$Hill" "hour" "I", Cond.fieldLink RX5 10 "SnowPumps" "weather" "LSnowPumps$Weather;", Cond.fieldLink RX5 76 "SnowPumps$Weather" "gust" "[I", Cond.fieldLink RX5 108 "SnowPumps$Hill" "water" "I", Cond.fieldLink RX5 19 "SnowPumps" "pumps" "LSnowPumps$Pumps;", Cond.fieldLink RX5 87 "SnowPumps$Pumps" "count" "I", Cond.fieldLink RX5 45 "SnowPumps" "jumps" "LSnowPumps$Jumps;", Cond.fieldLink RX5 138 "SnowPumps$Jumps" "count" "I", Cond.methodLink RX5 141 yX0_hourOfDay, Cond.instanceMethod yX0_hourOfDay, Cond.selects RX0 yX0_hourOfDay yX0_hourOfDay, Cond.initialized RX0, Cond.code yX0_hourOfDay cX0_hourOfDay 1 (some .int)]
def wsX5_count_r2 : List Cond := [Cond.fieldLink RX0 34 "SnowPumps$Hill" "hour" "I", Cond.methodLink RX0 37 yJ9_floorMod_7cf53, Cond.static yJ9_floorMod_7cf53, Cond.initialized RJ9, Cond.code yJ9_floorMod_7cf53 cJ9_floorMod_7cf53 3 (some .int), Cond.methodLink RX5 79 yX4_wetCold, Cond.instanceMethod yX4_wetCold, Cond.selects RX4 yX4_wetCold yX4_wetCold, Cond.initialized RX4, Cond.code yX4_wetCold cX4_wetCold 2 (some .int), Cond.fieldLink RX4 9 "SnowPumps$Weather" "warmth" "[I", Cond.fieldLink RX4 15 "SnowPumps$Weather" "damp" "[I", Cond.methodLink RX5 245 yX0_countRunning, Cond.instanceMethod yX0_countRunning, Cond.selects RX0 yX0_countRunning yX0_countRunning, Cond.code yX0_countRunning cX0_countRunning 6 (some .int), Cond.fieldLink RX0 18 "SnowPumps$Hill" "runs" "[Z", Cond.methodLink RX5 190 yX0_allSnow, Cond.instanceMethod yX0_allSnow, Cond.selects RX0 yX0_allSnow yX0_allSnow, Cond.code yX0_allSnow cX0_allSnow 1 (some .int), Cond.fieldLink RX0 9 "SnowPumps$Hill" "snow" "[I", Cond.static yX5_sum, Cond.code yX5_sum cX5_sum 6 (some .int)]
def wsX5_count_r3 : List Cond := [Cond.methodLink RX5 211 yX0_allIce, Cond.instanceMethod yX0_allIce, Cond.selects RX0 yX0_allIce yX0_allIce, Cond.code yX0_allIce cX0_allIce 1 (some .int), Cond.fieldLink RX0 15 "SnowPumps$Hill" "ice" "[I", Cond.methodLink RX5 248 yX1_countFalls, Cond.instanceMethod yX1_countFalls, Cond.selects RX1 yX1_countFalls yX1_countFalls, Cond.initialized RX1, Cond.code yX1_countFalls cX1_countFalls 1 (some .int), Cond.fieldLink RX1 21 "SnowPumps$Jumps" "fall" "[I"]
def wsX5_count : List Cond := .code yX5_count cX5_count 2 (some .int) :: ((wsX5_count_r1 ++ (wsX5_count_r2 ++ wsX5_count_r3)) ++ wsX50 ++ wsX00 ++ wsX40 ++ wsX30 ++ wsX10 ++ (vx_atS RX5 57 "java/lang/IndexOutOfBoundsException" ["java/lang/RuntimeException", "java/lang/Exception"]).filter goodWord)
def wsX5_pass_r1 : List Cond := [Cond.classLink RX5 60 "java/lang/IllegalArgumentException", Cond.initialized "java/lang/IllegalArgumentException", Cond.fieldLink RX5 28 "SnowPumps" "hill" "LSnowPumps$Hill;", Cond.methodLink RX5 49 yX5_isOutside, Cond.static yX5_isOutside, Cond.initialized RX5, Cond.code yX5_isOutside cX5_isOutside 3 (some .boolean), Cond.methodLink RX5 190 yX0_allSnow, Cond.instanceMethod yX0_allSnow, Cond.selects RX0 yX0_allSnow yX0_allSnow, Cond.initialized RX0, Cond.code yX0_allSnow cX0_allSnow 1 (some .int), Cond.fieldLink RX0 9 "SnowPumps$Hill" "snow" "[I", Cond.static yX5_sum, Cond.code yX5_sum cX5_sum 6 (some .int), Cond.methodLink RX5 193 yX0_letHoursGoBy, Cond.instanceMethod yX0_letHoursGoBy, Cond.selects RX0 yX0_letHoursGoBy yX0_letHoursGoBy, Cond.code yX0_letHoursGoBy cX0_letHoursGoBy 3 none, Cond.methodLink RX0 50 yX0_letHourGoBy, Cond.instanceMethod yX0_letHourGoBy, Cond.selects RX0 yX0_letHourGoBy yX0_letHourGoBy, Cond.code yX0_letHourGoBy cX0_letHourGoBy 5 none, Cond.fieldLink RX0 22 "SnowPumps$Hill" "weather" "LSnowPumps$Weather;"]
def wsX5_pass_r2 : List Cond := [Cond.fieldLink RX0 57 "SnowPumps$Weather" "warmth" "[I", Cond.fieldLink RX0 18 "SnowPumps$Hill" "runs" "[Z", Cond.fieldLink RX0 26 "SnowPumps$Hill" "pumps" "LSnowPumps$Pumps;", Cond.fieldLink RX0 66 "SnowPumps$Pumps" "part" "[I", Cond.fieldLink RX0 71 "SnowPumps$Pumps" "flow" "[I", Cond.fieldLink RX0 34 "SnowPumps$Hill" "hour" "I", Cond.methodLink RX0 53 yX0_hourOfDay, Cond.instanceMethod yX0_hourOfDay, Cond.selects RX0 yX0_hourOfDay yX0_hourOfDay, Cond.code yX0_hourOfDay cX0_hourOfDay 1 (some .int), Cond.methodLink RX0 37 yJ9_floorMod_7cf53, Cond.static yJ9_floorMod_7cf53, Cond.initialized RJ9, Cond.code yJ9_floorMod_7cf53 cJ9_floorMod_7cf53 3 (some .int), Cond.methodLink RX0 62 yX4_wetCold, Cond.instanceMethod yX4_wetCold, Cond.selects RX4 yX4_wetCold yX4_wetCold, Cond.initialized RX4, Cond.code yX4_wetCold cX4_wetCold 2 (some .int), Cond.fieldLink RX4 9 "SnowPumps$Weather" "warmth" "[I", Cond.fieldLink RX4 15 "SnowPumps$Weather" "damp" "[I", Cond.methodLink RX0 74 yX0_work, Cond.instanceMethod yX0_work, Cond.selects RX0 yX0_work yX0_work]
def wsX5_pass_r3 : List Cond := [Cond.code yX0_work cX0_work 5 none, Cond.fieldLink RX0 30 "SnowPumps$Hill" "water" "I", Cond.methodLink RX0 85 Lib.Math.min.name, Cond.static Lib.Math.min.name, Cond.initialized "java/lang/Math", Cond.code Lib.Math.min.name Lib.Math.min.code 2 (some .int), Cond.methodLink RX0 82 yX0_addIce, Cond.instanceMethod yX0_addIce, Cond.selects RX0 yX0_addIce yX0_addIce, Cond.code yX0_addIce cX0_addIce 2 none, Cond.fieldLink RX0 15 "SnowPumps$Hill" "ice" "[I", Cond.methodLink RX0 88 yX0_addSnow, Cond.instanceMethod yX0_addSnow, Cond.selects RX0 yX0_addSnow yX0_addSnow, Cond.code yX0_addSnow cX0_addSnow 3 none, Cond.methodLink RX0 78 yX0_melt, Cond.instanceMethod yX0_melt, Cond.selects RX0 yX0_melt yX0_melt, Cond.code yX0_melt cX0_melt 3 none, Cond.methodLink RX0 47 Lib.Math.max.name, Cond.static Lib.Math.max.name, Cond.code Lib.Math.max.name Lib.Math.max.code 2 (some .int), Cond.methodLink RX0 96 yX0_takeSnow, Cond.instanceMethod yX0_takeSnow]
def wsX5_pass_r4 : List Cond := [Cond.selects RX0 yX0_takeSnow yX0_takeSnow, Cond.code yX0_takeSnow cX0_takeSnow 3 none]
def wsX5_pass : List Cond := .code yX5_pass cX5_pass 3 (some .int) :: ((wsX5_pass_r1 ++ (wsX5_pass_r2 ++ (wsX5_pass_r3 ++ wsX5_pass_r4))) ++ wsX50 ++ wsX00 ++ wsX40 ++ wsX30 ++ (vx_atS RX5 64 "java/lang/IllegalArgumentException" ["java/lang/RuntimeException", "java/lang/Exception"]).filter goodWord)
def wsX5_enough_r1 : List Cond := [Cond.classLink RX5 53 "java/lang/IndexOutOfBoundsException", Cond.initialized "java/lang/IndexOutOfBoundsException", Cond.classLink RX5 60 "java/lang/IllegalArgumentException", Cond.initialized "java/lang/IllegalArgumentException", Cond.fieldLink RX5 32 "SnowPumps" "ahead" "LSnowPumps$Hill;", Cond.fieldLink RX5 28 "SnowPumps" "hill" "LSnowPumps$Hill;", Cond.fieldLink RX5 203 "SnowPumps$Hill" "snow" "[I", Cond.methodLink RX5 49 yX5_isOutside, Cond.static yX5_isOutside, Cond.initialized RX5, Cond.code yX5_isOutside cX5_isOutside 3 (some .boolean), Cond.methodLink RX5 199 yX0_becomeLike, Cond.instanceMethod yX0_becomeLike, Cond.selects RX0 yX0_becomeLike yX0_becomeLike, Cond.initialized RX0, Cond.code yX0_becomeLike cX0_becomeLike 3 none, Cond.fieldLink RX0 9 "SnowPumps$Hill" "snow" "[I", Cond.fieldLink RX0 15 "SnowPumps$Hill" "ice" "[I", Cond.fieldLink RX0 18 "SnowPumps$Hill" "runs" "[Z", Cond.fieldLink RX0 30 "SnowPumps$Hill" "water" "I", Cond.fieldLink RX0 34 "SnowPumps$Hill" "hour" "I", Cond.methodLink RX5 206 yX0_letHourGoBy, Cond.instanceMethod yX0_letHourGoBy, Cond.selects RX0 yX0_letHourGoBy yX0_letHourGoBy]
def wsX5_enough_r2 : List Cond := [Cond.code yX0_letHourGoBy cX0_letHourGoBy 5 none, Cond.fieldLink RX0 22 "SnowPumps$Hill" "weather" "LSnowPumps$Weather;", Cond.fieldLink RX0 57 "SnowPumps$Weather" "warmth" "[I", Cond.fieldLink RX0 26 "SnowPumps$Hill" "pumps" "LSnowPumps$Pumps;", Cond.fieldLink RX0 66 "SnowPumps$Pumps" "part" "[I", Cond.fieldLink RX0 71 "SnowPumps$Pumps" "flow" "[I", Cond.methodLink RX0 53 yX0_hourOfDay, Cond.instanceMethod yX0_hourOfDay, Cond.selects RX0 yX0_hourOfDay yX0_hourOfDay, Cond.code yX0_hourOfDay cX0_hourOfDay 1 (some .int), Cond.methodLink RX0 37 yJ9_floorMod_7cf53, Cond.static yJ9_floorMod_7cf53, Cond.initialized RJ9, Cond.code yJ9_floorMod_7cf53 cJ9_floorMod_7cf53 3 (some .int), Cond.methodLink RX0 62 yX4_wetCold, Cond.instanceMethod yX4_wetCold, Cond.selects RX4 yX4_wetCold yX4_wetCold, Cond.initialized RX4, Cond.code yX4_wetCold cX4_wetCold 2 (some .int), Cond.fieldLink RX4 9 "SnowPumps$Weather" "warmth" "[I", Cond.fieldLink RX4 15 "SnowPumps$Weather" "damp" "[I", Cond.methodLink RX0 74 yX0_work, Cond.instanceMethod yX0_work, Cond.selects RX0 yX0_work yX0_work]
def wsX5_enough_r3 : List Cond := [Cond.code yX0_work cX0_work 5 none, Cond.methodLink RX0 85 Lib.Math.min.name, Cond.static Lib.Math.min.name, Cond.initialized "java/lang/Math", Cond.code Lib.Math.min.name Lib.Math.min.code 2 (some .int), Cond.methodLink RX0 82 yX0_addIce, Cond.instanceMethod yX0_addIce, Cond.selects RX0 yX0_addIce yX0_addIce, Cond.code yX0_addIce cX0_addIce 2 none, Cond.methodLink RX0 88 yX0_addSnow, Cond.instanceMethod yX0_addSnow, Cond.selects RX0 yX0_addSnow yX0_addSnow, Cond.code yX0_addSnow cX0_addSnow 3 none, Cond.methodLink RX0 78 yX0_melt, Cond.instanceMethod yX0_melt, Cond.selects RX0 yX0_melt yX0_melt, Cond.code yX0_melt cX0_melt 3 none, Cond.methodLink RX0 47 Lib.Math.max.name, Cond.static Lib.Math.max.name, Cond.code Lib.Math.max.name Lib.Math.max.code 2 (some .int), Cond.methodLink RX0 96 yX0_takeSnow, Cond.instanceMethod yX0_takeSnow, Cond.selects RX0 yX0_takeSnow yX0_takeSnow, Cond.code yX0_takeSnow cX0_takeSnow 3 none]
def wsX5_enough : List Cond := .code yX5_enough cX5_enough 4 (some .int) :: ((wsX5_enough_r1 ++ (wsX5_enough_r2 ++ wsX5_enough_r3)) ++ wsX50 ++ wsX00 ++ wsX40 ++ wsX30 ++ (vx_atS RX5 57 "java/lang/IndexOutOfBoundsException" ["java/lang/RuntimeException", "java/lang/Exception"]).filter goodWord ++ (vx_atS RX5 64 "java/lang/IllegalArgumentException" ["java/lang/RuntimeException", "java/lang/Exception"]).filter goodWord)
def wsX5_foresee_r1 : List Cond := [Cond.classLink RX5 60 "java/lang/IllegalArgumentException", Cond.initialized "java/lang/IllegalArgumentException", Cond.classLink RX5 53 "java/lang/IndexOutOfBoundsException", Cond.initialized "java/lang/IndexOutOfBoundsException", Cond.fieldLink RX5 32 "SnowPumps" "ahead" "LSnowPumps$Hill;", Cond.fieldLink RX5 28 "SnowPumps" "hill" "LSnowPumps$Hill;", Cond.fieldLink RX5 108 "SnowPumps$Hill" "water" "I", Cond.methodLink RX5 49 yX5_isOutside, Cond.static yX5_isOutside, Cond.initialized RX5, Cond.code yX5_isOutside cX5_isOutside 3 (some .boolean), Cond.methodLink RX5 199 yX0_becomeLike, Cond.instanceMethod yX0_becomeLike, Cond.selects RX0 yX0_becomeLike yX0_becomeLike, Cond.initialized RX0, Cond.code yX0_becomeLike cX0_becomeLike 3 none, Cond.fieldLink RX0 9 "SnowPumps$Hill" "snow" "[I", Cond.fieldLink RX0 15 "SnowPumps$Hill" "ice" "[I", Cond.fieldLink RX0 18 "SnowPumps$Hill" "runs" "[Z", Cond.fieldLink RX0 30 "SnowPumps$Hill" "water" "I", Cond.fieldLink RX0 34 "SnowPumps$Hill" "hour" "I", Cond.methodLink RX5 193 yX0_letHoursGoBy, Cond.instanceMethod yX0_letHoursGoBy, Cond.selects RX0 yX0_letHoursGoBy yX0_letHoursGoBy]
def wsX5_foresee_r2 : List Cond := [Cond.code yX0_letHoursGoBy cX0_letHoursGoBy 3 none, Cond.methodLink RX0 50 yX0_letHourGoBy, Cond.instanceMethod yX0_letHourGoBy, Cond.selects RX0 yX0_letHourGoBy yX0_letHourGoBy, Cond.code yX0_letHourGoBy cX0_letHourGoBy 5 none, Cond.fieldLink RX0 22 "SnowPumps$Hill" "weather" "LSnowPumps$Weather;", Cond.fieldLink RX0 57 "SnowPumps$Weather" "warmth" "[I", Cond.fieldLink RX0 26 "SnowPumps$Hill" "pumps" "LSnowPumps$Pumps;", Cond.fieldLink RX0 66 "SnowPumps$Pumps" "part" "[I", Cond.fieldLink RX0 71 "SnowPumps$Pumps" "flow" "[I", Cond.methodLink RX0 53 yX0_hourOfDay, Cond.instanceMethod yX0_hourOfDay, Cond.selects RX0 yX0_hourOfDay yX0_hourOfDay, Cond.code yX0_hourOfDay cX0_hourOfDay 1 (some .int), Cond.methodLink RX0 37 yJ9_floorMod_7cf53, Cond.static yJ9_floorMod_7cf53, Cond.initialized RJ9, Cond.code yJ9_floorMod_7cf53 cJ9_floorMod_7cf53 3 (some .int), Cond.methodLink RX0 62 yX4_wetCold, Cond.instanceMethod yX4_wetCold, Cond.selects RX4 yX4_wetCold yX4_wetCold, Cond.initialized RX4, Cond.code yX4_wetCold cX4_wetCold 2 (some .int), Cond.fieldLink RX4 9 "SnowPumps$Weather" "warmth" "[I"]
def wsX5_foresee_r3 : List Cond := [Cond.fieldLink RX4 15 "SnowPumps$Weather" "damp" "[I", Cond.methodLink RX0 74 yX0_work, Cond.instanceMethod yX0_work, Cond.selects RX0 yX0_work yX0_work, Cond.code yX0_work cX0_work 5 none, Cond.methodLink RX0 85 Lib.Math.min.name, Cond.static Lib.Math.min.name, Cond.initialized "java/lang/Math", Cond.code Lib.Math.min.name Lib.Math.min.code 2 (some .int), Cond.methodLink RX0 82 yX0_addIce, Cond.instanceMethod yX0_addIce, Cond.selects RX0 yX0_addIce yX0_addIce, Cond.code yX0_addIce cX0_addIce 2 none, Cond.methodLink RX0 88 yX0_addSnow, Cond.instanceMethod yX0_addSnow, Cond.selects RX0 yX0_addSnow yX0_addSnow, Cond.code yX0_addSnow cX0_addSnow 3 none, Cond.methodLink RX0 78 yX0_melt, Cond.instanceMethod yX0_melt, Cond.selects RX0 yX0_melt yX0_melt, Cond.code yX0_melt cX0_melt 3 none, Cond.methodLink RX0 47 Lib.Math.max.name, Cond.static Lib.Math.max.name, Cond.code Lib.Math.max.name Lib.Math.max.code 2 (some .int)]
def wsX5_foresee_r4 : List Cond := [Cond.methodLink RX0 96 yX0_takeSnow, Cond.instanceMethod yX0_takeSnow, Cond.selects RX0 yX0_takeSnow yX0_takeSnow, Cond.code yX0_takeSnow cX0_takeSnow 3 none, Cond.methodLink RX5 190 yX0_allSnow, Cond.instanceMethod yX0_allSnow, Cond.selects RX0 yX0_allSnow yX0_allSnow, Cond.code yX0_allSnow cX0_allSnow 1 (some .int), Cond.static yX5_sum, Cond.code yX5_sum cX5_sum 6 (some .int), Cond.methodLink RX5 211 yX0_allIce, Cond.instanceMethod yX0_allIce, Cond.selects RX0 yX0_allIce yX0_allIce, Cond.code yX0_allIce cX0_allIce 1 (some .int)]
def wsX5_foresee : List Cond := .code yX5_foresee cX5_foresee 3 (some .int) :: ((wsX5_foresee_r1 ++ (wsX5_foresee_r2 ++ (wsX5_foresee_r3 ++ wsX5_foresee_r4))) ++ wsX50 ++ wsX00 ++ wsX40 ++ wsX30 ++ (vx_atS RX5 64 "java/lang/IllegalArgumentException" ["java/lang/RuntimeException", "java/lang/Exception"]).filter goodWord ++ (vx_atS RX5 57 "java/lang/IndexOutOfBoundsException" ["java/lang/RuntimeException", "java/lang/Exception"]).filter goodWord)
def wsX5_gate_r1 : List Cond := [Cond.classLink RX5 60 "java/lang/IllegalArgumentException", Cond.initialized "java/lang/IllegalArgumentException", Cond.fieldLink RX5 10 "SnowPumps" "weather" "LSnowPumps$Weather;", Cond.fieldLink RX5 76 "SnowPumps$Weather" "gust" "[I", Cond.fieldLink RX5 28 "SnowPumps" "hill" "LSnowPumps$Hill;", Cond.methodLink RX5 49 yX5_isOutside, Cond.static yX5_isOutside, Cond.initialized RX5, Cond.code yX5_isOutside cX5_isOutside 3 (some .boolean), Cond.methodLink RX5 141 yX0_hourOfDay, Cond.instanceMethod yX0_hourOfDay, Cond.selects RX0 yX0_hourOfDay yX0_hourOfDay, Cond.initialized RX0, Cond.code yX0_hourOfDay cX0_hourOfDay 1 (some .int), Cond.fieldLink RX0 34 "SnowPumps$Hill" "hour" "I", Cond.methodLink RX0 37 yJ9_floorMod_7cf53, Cond.static yJ9_floorMod_7cf53, Cond.initialized RJ9, Cond.code yJ9_floorMod_7cf53 cJ9_floorMod_7cf53 3 (some .int), Cond.methodLink RX5 145 yX5_lengthFrom, Cond.static yX5_lengthFrom, Cond.code yX5_lengthFrom cX5_lengthFrom 3 (some .int), Cond.methodLink RX5 251 yX5_hold, Cond.static yX5_hold]
def wsX5_gate_r2 : List Cond := [Cond.code yX5_hold cX5_hold 3 (some .int), Cond.methodLink RX5 111 Lib.Math.min.name, Cond.static Lib.Math.min.name, Cond.initialized "java/lang/Math", Cond.code Lib.Math.min.name Lib.Math.min.code 2 (some .int), Cond.methodLink RX5 254 Lib.Math.max.name, Cond.static Lib.Math.max.name, Cond.code Lib.Math.max.name Lib.Math.max.code 2 (some .int), Cond.methodLink RX5 149 yX0_fallsAt, Cond.instanceMethod yX0_fallsAt, Cond.selects RX0 yX0_fallsAt yX0_fallsAt, Cond.code yX0_fallsAt cX0_fallsAt 2 (some .boolean), Cond.fieldLink RX0 9 "SnowPumps$Hill" "snow" "[I", Cond.fieldLink RX0 15 "SnowPumps$Hill" "ice" "[I"]
def wsX5_gate : List Cond := .code yX5_gate cX5_gate 4 (some .int) :: ((wsX5_gate_r1 ++ wsX5_gate_r2) ++ wsX50 ++ wsX40 ++ wsX00 ++ (vx_atS RX5 64 "java/lang/IllegalArgumentException" ["java/lang/RuntimeException", "java/lang/Exception"]).filter goodWord)
def wsX5_snowWithPump_r1 : List Cond := [Cond.fieldLink RX5 32 "SnowPumps" "ahead" "LSnowPumps$Hill;", Cond.fieldLink RX5 28 "SnowPumps" "hill" "LSnowPumps$Hill;", Cond.fieldLink RX5 102 "SnowPumps$Hill" "runs" "[Z", Cond.methodLink RX5 199 yX0_becomeLike, Cond.instanceMethod yX0_becomeLike, Cond.selects RX0 yX0_becomeLike yX0_becomeLike, Cond.initialized RX0, Cond.code yX0_becomeLike cX0_becomeLike 3 none, Cond.fieldLink RX0 9 "SnowPumps$Hill" "snow" "[I", Cond.fieldLink RX0 15 "SnowPumps$Hill" "ice" "[I", Cond.fieldLink RX0 18 "SnowPumps$Hill" "runs" "[Z", Cond.fieldLink RX0 30 "SnowPumps$Hill" "water" "I", Cond.fieldLink RX0 34 "SnowPumps$Hill" "hour" "I", Cond.methodLink RX5 193 yX0_letHoursGoBy, Cond.instanceMethod yX0_letHoursGoBy, Cond.selects RX0 yX0_letHoursGoBy yX0_letHoursGoBy, Cond.code yX0_letHoursGoBy cX0_letHoursGoBy 3 none, Cond.methodLink RX0 50 yX0_letHourGoBy, Cond.instanceMethod yX0_letHourGoBy, Cond.selects RX0 yX0_letHourGoBy yX0_letHourGoBy, Cond.code yX0_letHourGoBy cX0_letHourGoBy 5 none, Cond.fieldLink RX0 22 "SnowPumps$Hill" "weather" "LSnowPumps$Weather;", Cond.fieldLink RX0 57 "SnowPumps$Weather" "warmth" "[I", Cond.fieldLink RX0 26 "SnowPumps$Hill" "pumps" "LSnowPumps$Pumps;"]
def wsX5_snowWithPump_r2 : List Cond := [Cond.fieldLink RX0 66 "SnowPumps$Pumps" "part" "[I", Cond.fieldLink RX0 71 "SnowPumps$Pumps" "flow" "[I", Cond.methodLink RX0 53 yX0_hourOfDay, Cond.instanceMethod yX0_hourOfDay, Cond.selects RX0 yX0_hourOfDay yX0_hourOfDay, Cond.code yX0_hourOfDay cX0_hourOfDay 1 (some .int), Cond.methodLink RX0 37 yJ9_floorMod_7cf53, Cond.static yJ9_floorMod_7cf53, Cond.initialized RJ9, Cond.code yJ9_floorMod_7cf53 cJ9_floorMod_7cf53 3 (some .int), Cond.methodLink RX0 62 yX4_wetCold, Cond.instanceMethod yX4_wetCold, Cond.selects RX4 yX4_wetCold yX4_wetCold, Cond.initialized RX4, Cond.code yX4_wetCold cX4_wetCold 2 (some .int), Cond.fieldLink RX4 9 "SnowPumps$Weather" "warmth" "[I", Cond.fieldLink RX4 15 "SnowPumps$Weather" "damp" "[I", Cond.methodLink RX0 74 yX0_work, Cond.instanceMethod yX0_work, Cond.selects RX0 yX0_work yX0_work, Cond.code yX0_work cX0_work 5 none, Cond.methodLink RX0 85 Lib.Math.min.name, Cond.static Lib.Math.min.name, Cond.initialized "java/lang/Math"]
def wsX5_snowWithPump_r3 : List Cond := [Cond.code Lib.Math.min.name Lib.Math.min.code 2 (some .int), Cond.methodLink RX0 82 yX0_addIce, Cond.instanceMethod yX0_addIce, Cond.selects RX0 yX0_addIce yX0_addIce, Cond.code yX0_addIce cX0_addIce 2 none, Cond.static yX5_isOutside, Cond.initialized RX5, Cond.code yX5_isOutside cX5_isOutside 3 (some .boolean), Cond.methodLink RX0 88 yX0_addSnow, Cond.instanceMethod yX0_addSnow, Cond.selects RX0 yX0_addSnow yX0_addSnow, Cond.code yX0_addSnow cX0_addSnow 3 none, Cond.methodLink RX0 78 yX0_melt, Cond.instanceMethod yX0_melt, Cond.selects RX0 yX0_melt yX0_melt, Cond.code yX0_melt cX0_melt 3 none, Cond.methodLink RX0 47 Lib.Math.max.name, Cond.static Lib.Math.max.name, Cond.code Lib.Math.max.name Lib.Math.max.code 2 (some .int), Cond.methodLink RX0 96 yX0_takeSnow, Cond.instanceMethod yX0_takeSnow, Cond.selects RX0 yX0_takeSnow yX0_takeSnow, Cond.code yX0_takeSnow cX0_takeSnow 3 none, Cond.methodLink RX5 190 yX0_allSnow]
def wsX5_snowWithPump_r4 : List Cond := [Cond.instanceMethod yX0_allSnow, Cond.selects RX0 yX0_allSnow yX0_allSnow, Cond.code yX0_allSnow cX0_allSnow 1 (some .int), Cond.static yX5_sum, Cond.code yX5_sum cX5_sum 6 (some .int)]
def wsX5_snowWithPump : List Cond := .code yX5_snowWithPump cX5_snowWithPump 3 (some .int) :: ((wsX5_snowWithPump_r1 ++ (wsX5_snowWithPump_r2 ++ (wsX5_snowWithPump_r3 ++ wsX5_snowWithPump_r4))) ++ wsX50 ++ wsX00 ++ wsX40 ++ wsX30)
def wsX5_advise_r1 : List Cond := [Cond.classLink RX5 60 "java/lang/IllegalArgumentException", Cond.initialized "java/lang/IllegalArgumentException", Cond.fieldLink RX5 32 "SnowPumps" "ahead" "LSnowPumps$Hill;", Cond.fieldLink RX5 28 "SnowPumps" "hill" "LSnowPumps$Hill;", Cond.fieldLink RX5 19 "SnowPumps" "pumps" "LSnowPumps$Pumps;", Cond.fieldLink RX5 87 "SnowPumps$Pumps" "count" "I", Cond.fieldLink RX5 102 "SnowPumps$Hill" "runs" "[Z", Cond.methodLink RX5 49 yX5_isOutside, Cond.static yX5_isOutside, Cond.initialized RX5, Cond.code yX5_isOutside cX5_isOutside 3 (some .boolean), Cond.methodLink RX5 199 yX0_becomeLike, Cond.instanceMethod yX0_becomeLike, Cond.selects RX0 yX0_becomeLike yX0_becomeLike, Cond.initialized RX0, Cond.code yX0_becomeLike cX0_becomeLike 3 none, Cond.fieldLink RX0 9 "SnowPumps$Hill" "snow" "[I", Cond.fieldLink RX0 15 "SnowPumps$Hill" "ice" "[I", Cond.fieldLink RX0 18 "SnowPumps$Hill" "runs" "[Z", Cond.fieldLink RX0 30 "SnowPumps$Hill" "water" "I", Cond.fieldLink RX0 34 "SnowPumps$Hill" "hour" "I", Cond.methodLink RX5 193 yX0_letHoursGoBy, Cond.instanceMethod yX0_letHoursGoBy, Cond.selects RX0 yX0_letHoursGoBy yX0_letHoursGoBy]
def wsX5_advise_r2 : List Cond := [Cond.code yX0_letHoursGoBy cX0_letHoursGoBy 3 none, Cond.methodLink RX0 50 yX0_letHourGoBy, Cond.instanceMethod yX0_letHourGoBy, Cond.selects RX0 yX0_letHourGoBy yX0_letHourGoBy, Cond.code yX0_letHourGoBy cX0_letHourGoBy 5 none, Cond.fieldLink RX0 22 "SnowPumps$Hill" "weather" "LSnowPumps$Weather;", Cond.fieldLink RX0 57 "SnowPumps$Weather" "warmth" "[I", Cond.fieldLink RX0 26 "SnowPumps$Hill" "pumps" "LSnowPumps$Pumps;", Cond.fieldLink RX0 66 "SnowPumps$Pumps" "part" "[I", Cond.fieldLink RX0 71 "SnowPumps$Pumps" "flow" "[I", Cond.methodLink RX0 53 yX0_hourOfDay, Cond.instanceMethod yX0_hourOfDay, Cond.selects RX0 yX0_hourOfDay yX0_hourOfDay, Cond.code yX0_hourOfDay cX0_hourOfDay 1 (some .int), Cond.methodLink RX0 37 yJ9_floorMod_7cf53, Cond.static yJ9_floorMod_7cf53, Cond.initialized RJ9, Cond.code yJ9_floorMod_7cf53 cJ9_floorMod_7cf53 3 (some .int), Cond.methodLink RX0 62 yX4_wetCold, Cond.instanceMethod yX4_wetCold, Cond.selects RX4 yX4_wetCold yX4_wetCold, Cond.initialized RX4, Cond.code yX4_wetCold cX4_wetCold 2 (some .int), Cond.fieldLink RX4 9 "SnowPumps$Weather" "warmth" "[I"]
def wsX5_advise_r3 : List Cond := [Cond.fieldLink RX4 15 "SnowPumps$Weather" "damp" "[I", Cond.methodLink RX0 74 yX0_work, Cond.instanceMethod yX0_work, Cond.selects RX0 yX0_work yX0_work, Cond.code yX0_work cX0_work 5 none, Cond.methodLink RX0 85 Lib.Math.min.name, Cond.static Lib.Math.min.name, Cond.initialized "java/lang/Math", Cond.code Lib.Math.min.name Lib.Math.min.code 2 (some .int), Cond.methodLink RX0 82 yX0_addIce, Cond.instanceMethod yX0_addIce, Cond.selects RX0 yX0_addIce yX0_addIce, Cond.code yX0_addIce cX0_addIce 2 none, Cond.methodLink RX0 88 yX0_addSnow, Cond.instanceMethod yX0_addSnow, Cond.selects RX0 yX0_addSnow yX0_addSnow, Cond.code yX0_addSnow cX0_addSnow 3 none, Cond.methodLink RX0 78 yX0_melt, Cond.instanceMethod yX0_melt, Cond.selects RX0 yX0_melt yX0_melt, Cond.code yX0_melt cX0_melt 3 none, Cond.methodLink RX0 47 Lib.Math.max.name, Cond.static Lib.Math.max.name, Cond.code Lib.Math.max.name Lib.Math.max.code 2 (some .int)]
def wsX5_advise_r4 : List Cond := [Cond.methodLink RX0 96 yX0_takeSnow, Cond.instanceMethod yX0_takeSnow, Cond.selects RX0 yX0_takeSnow yX0_takeSnow, Cond.code yX0_takeSnow cX0_takeSnow 3 none, Cond.methodLink RX5 190 yX0_allSnow, Cond.instanceMethod yX0_allSnow, Cond.selects RX0 yX0_allSnow yX0_allSnow, Cond.code yX0_allSnow cX0_allSnow 1 (some .int), Cond.static yX5_sum, Cond.code yX5_sum cX5_sum 6 (some .int), Cond.methodLink RX5 214 yX5_snowWithPump, Cond.instanceMethod yX5_snowWithPump, Cond.selects RX5 yX5_snowWithPump yX5_snowWithPump, Cond.code yX5_snowWithPump cX5_snowWithPump 3 (some .int)]
def wsX5_advise : List Cond := .code yX5_advise cX5_advise 6 (some .int) :: ((wsX5_advise_r1 ++ (wsX5_advise_r2 ++ (wsX5_advise_r3 ++ wsX5_advise_r4))) ++ wsX50 ++ wsX30 ++ wsX00 ++ wsX40 ++ (vx_atS RX5 64 "java/lang/IllegalArgumentException" ["java/lang/RuntimeException", "java/lang/Exception"]).filter goodWord)
def wsX5_mean : List Cond := .code yX5_mean cX5_mean 1 (some .double) :: ([.fieldLink RX5 45 "SnowPumps" "jumps" "LSnowPumps$Jumps;", .fieldLink RX5 138 "SnowPumps$Jumps" "count" "I", .methodLink RX5 217 yX1_allPoints, .instanceMethod yX1_allPoints, .selects RX1 yX1_allPoints yX1_allPoints, .initialized RX1, .code yX1_allPoints cX1_allPoints 1 (some .int), .fieldLink RX1 18 "SnowPumps$Jumps" "points" "[I", .static yX5_sum, .initialized RX5, .code yX5_sum cX5_sum 6 (some .int)] ++ wsX50 ++ wsX10)
def wsX5_addPumpsTo : List Cond := .code yX5_addPumpsTo cX5_addPumpsTo 6 (some .long) :: ([.fieldLink RX5 19 "SnowPumps" "pumps" "LSnowPumps$Pumps;", .fieldLink RX5 87 "SnowPumps$Pumps" "count" "I", .constantLong RX5 222 (31), .fieldLink RX5 233 "SnowPumps$Pumps" "part" "[I", .fieldLink RX5 236 "SnowPumps$Pumps" "flow" "[I", .fieldLink RX5 28 "SnowPumps" "hill" "LSnowPumps$Hill;", .fieldLink RX5 102 "SnowPumps$Hill" "runs" "[Z"] ++ wsX50 ++ wsX30 ++ wsX00)
def wsX5_digest_r1 : List Cond := [Cond.constantLong RX5 220 (1181), Cond.constantLong RX5 222 (31), Cond.fieldLink RX5 10 "SnowPumps" "weather" "LSnowPumps$Weather;", Cond.fieldLink RX5 38 "SnowPumps" "jury" "LSnowPumps$Jury;", Cond.fieldLink RX5 45 "SnowPumps" "jumps" "LSnowPumps$Jumps;", Cond.methodLink RX5 185 yX5_tellCount, Cond.instanceMethod yX5_tellCount, Cond.selects RX5 yX5_tellCount yX5_tellCount, Cond.initialized RX5, Cond.code yX5_tellCount cX5_tellCount 2 (some .int), Cond.fieldLink RX5 28 "SnowPumps" "hill" "LSnowPumps$Hill;", Cond.fieldLink RX5 161 "SnowPumps$Hill" "hour" "I", Cond.fieldLink RX5 76 "SnowPumps$Weather" "gust" "[I", Cond.fieldLink RX5 108 "SnowPumps$Hill" "water" "I", Cond.fieldLink RX5 19 "SnowPumps" "pumps" "LSnowPumps$Pumps;", Cond.fieldLink RX5 87 "SnowPumps$Pumps" "count" "I", Cond.fieldLink RX5 138 "SnowPumps$Jumps" "count" "I", Cond.methodLink RX5 141 yX0_hourOfDay, Cond.instanceMethod yX0_hourOfDay, Cond.selects RX0 yX0_hourOfDay yX0_hourOfDay, Cond.initialized RX0, Cond.code yX0_hourOfDay cX0_hourOfDay 1 (some .int), Cond.fieldLink RX0 34 "SnowPumps$Hill" "hour" "I", Cond.methodLink RX0 37 yJ9_floorMod_7cf53]
def wsX5_digest_r2 : List Cond := [Cond.static yJ9_floorMod_7cf53, Cond.initialized RJ9, Cond.code yJ9_floorMod_7cf53 cJ9_floorMod_7cf53 3 (some .int), Cond.methodLink RX5 79 yX4_wetCold, Cond.instanceMethod yX4_wetCold, Cond.selects RX4 yX4_wetCold yX4_wetCold, Cond.initialized RX4, Cond.code yX4_wetCold cX4_wetCold 2 (some .int), Cond.fieldLink RX4 9 "SnowPumps$Weather" "warmth" "[I", Cond.fieldLink RX4 15 "SnowPumps$Weather" "damp" "[I", Cond.methodLink RX5 245 yX0_countRunning, Cond.instanceMethod yX0_countRunning, Cond.selects RX0 yX0_countRunning yX0_countRunning, Cond.code yX0_countRunning cX0_countRunning 6 (some .int), Cond.fieldLink RX0 18 "SnowPumps$Hill" "runs" "[Z", Cond.methodLink RX5 190 yX0_allSnow, Cond.instanceMethod yX0_allSnow, Cond.selects RX0 yX0_allSnow yX0_allSnow, Cond.code yX0_allSnow cX0_allSnow 1 (some .int), Cond.fieldLink RX0 9 "SnowPumps$Hill" "snow" "[I", Cond.static yX5_sum, Cond.code yX5_sum cX5_sum 6 (some .int), Cond.methodLink RX5 211 yX0_allIce, Cond.instanceMethod yX0_allIce]
def wsX5_digest_r3 : List Cond := [Cond.selects RX0 yX0_allIce yX0_allIce, Cond.code yX0_allIce cX0_allIce 1 (some .int), Cond.fieldLink RX0 15 "SnowPumps$Hill" "ice" "[I", Cond.methodLink RX5 248 yX1_countFalls, Cond.instanceMethod yX1_countFalls, Cond.selects RX1 yX1_countFalls yX1_countFalls, Cond.initialized RX1, Cond.code yX1_countFalls cX1_countFalls 1 (some .int), Cond.fieldLink RX1 21 "SnowPumps$Jumps" "fall" "[I", Cond.methodLink RX5 180 yX5_tellPart, Cond.instanceMethod yX5_tellPart, Cond.selects RX5 yX5_tellPart yX5_tellPart, Cond.code yX5_tellPart cX5_tellPart 3 (some .int), Cond.fieldLink RX5 203 "SnowPumps$Hill" "snow" "[I", Cond.fieldLink RX5 239 "SnowPumps$Hill" "ice" "[I", Cond.methodLink RX5 242 yX3_countAt, Cond.instanceMethod yX3_countAt, Cond.selects RX3 yX3_countAt yX3_countAt, Cond.initialized RX3, Cond.code yX3_countAt cX3_countAt 4 (some .int), Cond.fieldLink RX3 18 "SnowPumps$Pumps" "count" "I", Cond.fieldLink RX3 9 "SnowPumps$Pumps" "part" "[I", Cond.methodLink RX5 149 yX0_fallsAt, Cond.instanceMethod yX0_fallsAt]
def wsX5_digest_r4 : List Cond := [Cond.selects RX0 yX0_fallsAt yX0_fallsAt, Cond.code yX0_fallsAt cX0_fallsAt 2 (some .boolean), Cond.methodLink RX5 224 yX4_addTo, Cond.instanceMethod yX4_addTo, Cond.selects RX4 yX4_addTo yX4_addTo, Cond.code yX4_addTo cX4_addTo 6 (some .long), Cond.constantLong RX4 21 (31), Cond.fieldLink RX4 18 "SnowPumps$Weather" "gust" "[I", Cond.methodLink RX5 228 yX2_addTo, Cond.instanceMethod yX2_addTo, Cond.selects RX2 yX2_addTo yX2_addTo, Cond.initialized RX2, Cond.code yX2_addTo cX2_addTo 6 (some .long), Cond.constantLong RX2 32 (31), Cond.fieldLink RX2 9 "SnowPumps$Jury" "strict" "[I", Cond.methodLink RX5 229 yX5_addPumpsTo, Cond.instanceMethod yX5_addPumpsTo, Cond.selects RX5 yX5_addPumpsTo yX5_addPumpsTo, Cond.code yX5_addPumpsTo cX5_addPumpsTo 6 (some .long), Cond.fieldLink RX5 233 "SnowPumps$Pumps" "part" "[I", Cond.fieldLink RX5 236 "SnowPumps$Pumps" "flow" "[I", Cond.fieldLink RX5 102 "SnowPumps$Hill" "runs" "[Z", Cond.methodLink RX5 232 yX1_addTo, Cond.instanceMethod yX1_addTo]
def wsX5_digest_r5 : List Cond := [Cond.selects RX1 yX1_addTo yX1_addTo, Cond.code yX1_addTo cX1_addTo 7 (some .long), Cond.fieldLink RX1 27 "SnowPumps$Jumps" "count" "I", Cond.constantLong RX1 44 (31), Cond.methodLink RX1 46 yX1_tell, Cond.instanceMethod yX1_tell, Cond.selects RX1 yX1_tell yX1_tell, Cond.code yX1_tell cX1_tell 3 (some .int), Cond.fieldLink RX1 9 "SnowPumps$Jumps" "jumper" "[I", Cond.fieldLink RX1 15 "SnowPumps$Jumps" "length" "[I", Cond.fieldLink RX1 18 "SnowPumps$Jumps" "points" "[I", Cond.fieldLink RX1 24 "SnowPumps$Jumps" "hour" "[I", Cond.methodLink RX5 175 yX1_bestTwo, Cond.instanceMethod yX1_bestTwo, Cond.selects RX1 yX1_bestTwo yX1_bestTwo, Cond.code yX1_bestTwo cX1_bestTwo 5 (some .int), Cond.methodLink RX1 31 Lib.Math.min.name, Cond.static Lib.Math.min.name, Cond.initialized "java/lang/Math", Cond.code Lib.Math.min.name Lib.Math.min.code 2 (some .int), Cond.methodLink RX1 37 Lib.Math.max.name, Cond.static Lib.Math.max.name, Cond.code Lib.Math.max.name Lib.Math.max.code 2 (some .int)]
def wsX5_digest : List Cond := .code yX5_digest cX5_digest 5 (some .long) :: ((wsX5_digest_r1 ++ (wsX5_digest_r2 ++ (wsX5_digest_r3 ++ (wsX5_digest_r4 ++ wsX5_digest_r5)))) ++ wsX50 ++ wsX00 ++ wsX40 ++ wsX30 ++ wsX10 ++ wsX20)
def wsX6_init : List Cond := .code yX6_init cX6_init 1 none :: ([.methodLink RX6 3 objectInit, .instanceMethod objectInit, .code objectInit ⟨#[0xb1]⟩ 1 none, .arrayClass .int, .fieldLink RX6 9 "SnowPumpsModel$State" "snow" "[I", .fieldLink RX6 15 "SnowPumpsModel$State" "ice" "[I", .fieldLink RX6 18 "SnowPumpsModel$State" "runs" "[I"] ++ wsX60)
def wsX6_become : List Cond := .code yX6_become cX6_become 2 none :: ([.fieldLink RX6 21 "SnowPumpsModel$State" "hour" "I", .fieldLink RX6 25 "SnowPumpsModel$State" "water" "I", .fieldLink RX6 9 "SnowPumpsModel$State" "snow" "[I", .methodLink RX6 28 arraycopyName, .native arraycopyName, .static arraycopyName, .initialized "java/lang/System", .fieldLink RX6 15 "SnowPumpsModel$State" "ice" "[I", .fieldLink RX6 18 "SnowPumpsModel$State" "runs" "[I"] ++ wsX60)
def wsX7_isIn : List Cond := .code yX7_isIn cX7_isIn 3 (some .boolean) :: ([])
def wsX6_lay : List Cond := .code yX6_lay cX6_lay 3 none :: ([.fieldLink RX6 9 "SnowPumpsModel$State" "snow" "[I", .methodLink RX6 38 Lib.Math.min.name, .static Lib.Math.min.name, .initialized "java/lang/Math", .code Lib.Math.min.name Lib.Math.min.code 2 (some .int), .static yX7_isIn, .initialized RX7, .code yX7_isIn cX7_isIn 3 (some .boolean)] ++ wsX60)
def wsX6_isBad : List Cond := .code yX6_isBad cX6_isBad 2 (some .boolean) :: ([.fieldLink RX6 9 "SnowPumpsModel$State" "snow" "[I", .fieldLink RX6 15 "SnowPumpsModel$State" "ice" "[I"] ++ wsX60)
def wsX7_init : List Cond := .code yX7_init cX7_init 2 none :: ([.methodLink RX7 1 objectInit, .instanceMethod objectInit, .code objectInit ⟨#[0xb1]⟩ 1 none, .arrayClass .int, .fieldLink RX7 9 "SnowPumpsModel" "warmth" "[I", .fieldLink RX7 13 "SnowPumpsModel" "damp" "[I", .fieldLink RX7 16 "SnowPumpsModel" "gust" "[I", .fieldLink RX7 19 "SnowPumpsModel" "part" "[I", .fieldLink RX7 22 "SnowPumpsModel" "flow" "[I", .fieldLink RX7 25 "SnowPumpsModel" "strict" "[I", .fieldLink RX7 28 "SnowPumpsModel" "book" "[I", .classLink RX7 31 RX6, .instantiable RX6 5, .initialized RX6, .fieldLink RX7 34 "SnowPumpsModel" "s" "LSnowPumpsModel$State;", .fieldLink RX7 38 "SnowPumpsModel" "ahead" "LSnowPumpsModel$State;", .instanceMethod yX6_init, .code yX6_init cX6_init 1 none, .methodLink RX6 3 objectInit, .fieldLink RX6 9 "SnowPumpsModel$State" "snow" "[I", .fieldLink RX6 15 "SnowPumpsModel$State" "ice" "[I", .fieldLink RX6 18 "SnowPumpsModel$State" "runs" "[I"] ++ wsX70 ++ wsX60)
def wsX7_thrown : List Cond := .code yX7_thrown cX7_thrown 1 (some .int) :: ([.fieldLink RX7 41 "SnowPumpsModel" "thrown" "I"] ++ wsX70)
def wsX7_no : List Cond := .code yX7_no cX7_no 2 (some .int) :: ([.fieldLink RX7 41 "SnowPumpsModel" "thrown" "I"] ++ wsX70)
def wsX7_isPart : List Cond := .code yX7_isPart cX7_isPart 1 (some .boolean) :: ([.methodLink RX7 45 yX7_isIn, .static yX7_isIn, .initialized RX7, .code yX7_isIn cX7_isIn 3 (some .boolean)])
def wsX7_isPump : List Cond := .code yX7_isPump cX7_isPump 2 (some .boolean) :: ([.fieldLink RX7 49 "SnowPumpsModel" "pumps" "I", .methodLink RX7 45 yX7_isIn, .static yX7_isIn, .initialized RX7, .code yX7_isIn cX7_isIn 3 (some .boolean)] ++ wsX70)
def wsX7_sum : List Cond := .code yX7_sum cX7_sum 6 (some .int) :: ([])
def wsX7_wet : List Cond := .code yX7_wet cX7_wet 2 (some .int) :: ([.fieldLink RX7 9 "SnowPumpsModel" "warmth" "[I", .fieldLink RX7 13 "SnowPumpsModel" "damp" "[I"] ++ wsX70)
def wsX7_work : List Cond := .code yX7_work cX7_work 6 none :: ([.fieldLink RX7 22 "SnowPumpsModel" "flow" "[I", .fieldLink RX7 19 "SnowPumpsModel" "part" "[I", .methodLink RX7 61 Lib.Math.min.name, .static Lib.Math.min.name, .initialized "java/lang/Math", .code Lib.Math.min.name Lib.Math.min.code 2 (some .int), .methodLink RX7 67 yX6_lay, .instanceMethod yX6_lay, .selects RX6 yX6_lay yX6_lay, .initialized RX6, .code yX6_lay cX6_lay 3 none, .fieldLink RX6 9 "SnowPumpsModel$State" "snow" "[I", .methodLink RX6 38 Lib.Math.min.name, .static yX7_isIn, .initialized RX7, .code yX7_isIn cX7_isIn 3 (some .boolean)] ++ wsX60 ++ wsX70)
def wsX7_pass_r1 : List Cond := [Cond.fieldLink RX7 49 "SnowPumpsModel" "pumps" "I", Cond.fieldLink RX7 9 "SnowPumpsModel" "warmth" "[I", Cond.methodLink RX7 85 Lib.Math.max.name, Cond.static Lib.Math.max.name, Cond.initialized "java/lang/Math", Cond.code Lib.Math.max.name Lib.Math.max.code 2 (some .int), Cond.methodLink RX7 74 yX7_wet, Cond.instanceMethod yX7_wet, Cond.selects RX7 yX7_wet yX7_wet, Cond.initialized RX7, Cond.code yX7_wet cX7_wet 2 (some .int), Cond.fieldLink RX7 13 "SnowPumpsModel" "damp" "[I", Cond.methodLink RX7 78 yX7_work, Cond.instanceMethod yX7_work, Cond.selects RX7 yX7_work yX7_work, Cond.code yX7_work cX7_work 6 none, Cond.fieldLink RX7 22 "SnowPumpsModel" "flow" "[I", Cond.fieldLink RX7 19 "SnowPumpsModel" "part" "[I", Cond.methodLink RX7 61 Lib.Math.min.name, Cond.static Lib.Math.min.name, Cond.code Lib.Math.min.name Lib.Math.min.code 2 (some .int), Cond.methodLink RX7 67 yX6_lay, Cond.instanceMethod yX6_lay, Cond.selects RX6 yX6_lay yX6_lay]
def wsX7_pass_r2 : List Cond := [Cond.initialized RX6, Cond.code yX6_lay cX6_lay 3 none, Cond.fieldLink RX6 9 "SnowPumpsModel$State" "snow" "[I", Cond.methodLink RX6 38 Lib.Math.min.name, Cond.static yX7_isIn, Cond.code yX7_isIn cX7_isIn 3 (some .boolean)]
def wsX7_pass : List Cond := .code yX7_pass cX7_pass 4 none :: ((wsX7_pass_r1 ++ wsX7_pass_r2) ++ wsX60 ++ wsX70)
def wsX7_setWeather : List Cond := .code yX7_setWeather cX7_setWeather 5 (some .int) :: ([.fieldLink RX7 41 "SnowPumpsModel" "thrown" "I", .fieldLink RX7 9 "SnowPumpsModel" "warmth" "[I", .fieldLink RX7 13 "SnowPumpsModel" "damp" "[I", .fieldLink RX7 16 "SnowPumpsModel" "gust" "[I", .methodLink RX7 45 yX7_isIn, .static yX7_isIn, .initialized RX7, .code yX7_isIn cX7_isIn 3 (some .boolean), .methodLink RX7 88 yX7_no, .instanceMethod yX7_no, .selects RX7 yX7_no yX7_no, .code yX7_no cX7_no 2 (some .int), .methodLink RX7 74 yX7_wet, .instanceMethod yX7_wet, .selects RX7 yX7_wet yX7_wet, .code yX7_wet cX7_wet 2 (some .int)] ++ wsX70)
def wsX7_pump : List Cond := .code yX7_pump cX7_pump 3 (some .int) :: ([.fieldLink RX7 41 "SnowPumpsModel" "thrown" "I", .fieldLink RX7 49 "SnowPumpsModel" "pumps" "I", .fieldLink RX7 19 "SnowPumpsModel" "part" "[I", .fieldLink RX7 22 "SnowPumpsModel" "flow" "[I", .methodLink RX7 91 yX7_isPart, .static yX7_isPart, .initialized RX7, .code yX7_isPart cX7_isPart 1 (some .boolean), .methodLink RX7 45 yX7_isIn, .static yX7_isIn, .code yX7_isIn cX7_isIn 3 (some .boolean), .methodLink RX7 88 yX7_no, .instanceMethod yX7_no, .selects RX7 yX7_no yX7_no, .code yX7_no cX7_no 2 (some .int)] ++ wsX70)
def wsX7_run : List Cond := .code yX7_run cX7_run 2 (some .boolean) :: ([.fieldLink RX7 41 "SnowPumpsModel" "thrown" "I", .fieldLink RX7 34 "SnowPumpsModel" "s" "LSnowPumpsModel$State;", .methodLink RX7 95 yX7_isPump, .instanceMethod yX7_isPump, .selects RX7 yX7_isPump yX7_isPump, .initialized RX7, .code yX7_isPump cX7_isPump 2 (some .boolean), .fieldLink RX7 49 "SnowPumpsModel" "pumps" "I", .methodLink RX7 45 yX7_isIn, .static yX7_isIn, .code yX7_isIn cX7_isIn 3 (some .boolean)] ++ wsX70 ++ wsX60)
def wsX7_fill : List Cond := .code yX7_fill cX7_fill 2 (some .int) :: ([.fieldLink RX7 41 "SnowPumpsModel" "thrown" "I", .fieldLink RX7 34 "SnowPumpsModel" "s" "LSnowPumpsModel$State;", .methodLink RX7 61 Lib.Math.min.name, .static Lib.Math.min.name, .initialized "java/lang/Math", .code Lib.Math.min.name Lib.Math.min.code 2 (some .int), .methodLink RX7 45 yX7_isIn, .static yX7_isIn, .initialized RX7, .code yX7_isIn cX7_isIn 3 (some .boolean), .methodLink RX7 88 yX7_no, .instanceMethod yX7_no, .selects RX7 yX7_no yX7_no, .code yX7_no cX7_no 2 (some .int)] ++ wsX70 ++ wsX60)
def wsX7_groom : List Cond := .code yX7_groom cX7_groom 6 (some .int) :: ([.fieldLink RX7 41 "SnowPumpsModel" "thrown" "I", .fieldLink RX7 34 "SnowPumpsModel" "s" "LSnowPumpsModel$State;", .methodLink RX7 91 yX7_isPart, .static yX7_isPart, .initialized RX7, .code yX7_isPart cX7_isPart 1 (some .boolean), .methodLink RX7 45 yX7_isIn, .static yX7_isIn, .code yX7_isIn cX7_isIn 3 (some .boolean), .methodLink RX7 88 yX7_no, .instanceMethod yX7_no, .selects RX7 yX7_no yX7_no, .code yX7_no cX7_no 2 (some .int)] ++ wsX70 ++ wsX60)
def wsX7_judge : List Cond := .code yX7_judge cX7_judge 4 (some .int) :: ([.fieldLink RX7 41 "SnowPumpsModel" "thrown" "I", .fieldLink RX7 25 "SnowPumpsModel" "strict" "[I", .methodLink RX7 45 yX7_isIn, .static yX7_isIn, .initialized RX7, .code yX7_isIn cX7_isIn 3 (some .boolean), .methodLink RX7 88 yX7_no, .instanceMethod yX7_no, .selects RX7 yX7_no yX7_no, .code yX7_no cX7_no 2 (some .int)] ++ wsX70)
def wsX7_gustNow : List Cond := .code yX7_gustNow cX7_gustNow 1 (some .int) :: ([.fieldLink RX7 16 "SnowPumpsModel" "gust" "[I", .fieldLink RX7 34 "SnowPumpsModel" "s" "LSnowPumpsModel$State;"] ++ wsX70 ++ wsX60)
def wsX7_length : List Cond := .code yX7_length cX7_length 3 (some .int) :: ([.methodLink RX7 61 Lib.Math.min.name, .static Lib.Math.min.name, .initialized "java/lang/Math", .code Lib.Math.min.name Lib.Math.min.code 2 (some .int), .methodLink RX7 85 Lib.Math.max.name, .static Lib.Math.max.name, .code Lib.Math.max.name Lib.Math.max.code 2 (some .int), .methodLink RX7 98 yX7_gustNow, .instanceMethod yX7_gustNow, .selects RX7 yX7_gustNow yX7_gustNow, .initialized RX7, .code yX7_gustNow cX7_gustNow 1 (some .int), .fieldLink RX7 16 "SnowPumpsModel" "gust" "[I", .fieldLink RX7 34 "SnowPumpsModel" "s" "LSnowPumpsModel$State;"] ++ wsX70 ++ wsX60)
def wsX7_jump_r1 : List Cond := [Cond.fieldLink RX7 41 "SnowPumpsModel" "thrown" "I", Cond.fieldLink RX7 102 "SnowPumpsModel" "jumps" "I", Cond.fieldLink RX7 34 "SnowPumpsModel" "s" "LSnowPumpsModel$State;", Cond.fieldLink RX7 25 "SnowPumpsModel" "strict" "[I", Cond.methodLink RX7 111 Lib.Math.abs.name, Cond.static Lib.Math.abs.name, Cond.initialized "java/lang/Math", Cond.code Lib.Math.abs.name Lib.Math.abs.code 1 (some .int), Cond.methodLink RX7 61 Lib.Math.min.name, Cond.static Lib.Math.min.name, Cond.code Lib.Math.min.name Lib.Math.min.code 2 (some .int), Cond.methodLink RX7 85 Lib.Math.max.name, Cond.static Lib.Math.max.name, Cond.code Lib.Math.max.name Lib.Math.max.code 2 (some .int), Cond.arrayClass .int, Cond.fieldLink RX7 28 "SnowPumpsModel" "book" "[I", Cond.methodLink RX7 114 arraycopyName, Cond.native arraycopyName, Cond.static arraycopyName, Cond.initialized "java/lang/System", Cond.methodLink RX7 45 yX7_isIn, Cond.static yX7_isIn, Cond.initialized RX7, Cond.code yX7_isIn cX7_isIn 3 (some .boolean)]
def wsX7_jump_r2 : List Cond := [Cond.methodLink RX7 88 yX7_no, Cond.instanceMethod yX7_no, Cond.selects RX7 yX7_no yX7_no, Cond.code yX7_no cX7_no 2 (some .int), Cond.methodLink RX7 105 yX7_length, Cond.instanceMethod yX7_length, Cond.selects RX7 yX7_length yX7_length, Cond.code yX7_length cX7_length 3 (some .int), Cond.methodLink RX7 98 yX7_gustNow, Cond.instanceMethod yX7_gustNow, Cond.selects RX7 yX7_gustNow yX7_gustNow, Cond.code yX7_gustNow cX7_gustNow 1 (some .int), Cond.fieldLink RX7 16 "SnowPumpsModel" "gust" "[I", Cond.methodLink RX7 108 yX6_isBad, Cond.instanceMethod yX6_isBad, Cond.selects RX6 yX6_isBad yX6_isBad, Cond.initialized RX6, Cond.code yX6_isBad cX6_isBad 2 (some .boolean), Cond.fieldLink RX6 9 "SnowPumpsModel$State" "snow" "[I", Cond.fieldLink RX6 15 "SnowPumpsModel$State" "ice" "[I"]
def wsX7_jump : List Cond := .code yX7_jump cX7_jump 15 (some .int) :: ((wsX7_jump_r1 ++ wsX7_jump_r2) ++ wsX70 ++ wsX60)
def wsX7_told : List Cond := .code yX7_told cX7_told 3 (some .int) :: ([.fieldLink RX7 41 "SnowPumpsModel" "thrown" "I", .fieldLink RX7 102 "SnowPumpsModel" "jumps" "I", .fieldLink RX7 28 "SnowPumpsModel" "book" "[I", .methodLink RX7 45 yX7_isIn, .static yX7_isIn, .initialized RX7, .code yX7_isIn cX7_isIn 3 (some .boolean), .methodLink RX7 88 yX7_no, .instanceMethod yX7_no, .selects RX7 yX7_no yX7_no, .code yX7_no cX7_no 2 (some .int)] ++ wsX70)
def wsX7_scoreOf : List Cond := .code yX7_scoreOf cX7_scoreOf 6 (some .int) :: ([.fieldLink RX7 102 "SnowPumpsModel" "jumps" "I", .fieldLink RX7 28 "SnowPumpsModel" "book" "[I", .methodLink RX7 61 Lib.Math.min.name, .static Lib.Math.min.name, .initialized "java/lang/Math", .code Lib.Math.min.name Lib.Math.min.code 2 (some .int), .methodLink RX7 85 Lib.Math.max.name, .static Lib.Math.max.name, .code Lib.Math.max.name Lib.Math.max.code 2 (some .int)] ++ wsX70)
def wsX7_score : List Cond := .code yX7_score cX7_score 2 (some .int) :: ([.fieldLink RX7 41 "SnowPumpsModel" "thrown" "I", .methodLink RX7 45 yX7_isIn, .static yX7_isIn, .initialized RX7, .code yX7_isIn cX7_isIn 3 (some .boolean), .methodLink RX7 120 yX7_scoreOf, .instanceMethod yX7_scoreOf, .selects RX7 yX7_scoreOf yX7_scoreOf, .code yX7_scoreOf cX7_scoreOf 6 (some .int), .fieldLink RX7 102 "SnowPumpsModel" "jumps" "I", .fieldLink RX7 28 "SnowPumpsModel" "book" "[I", .methodLink RX7 61 Lib.Math.min.name, .static Lib.Math.min.name, .initialized "java/lang/Math", .code Lib.Math.min.name Lib.Math.min.code 2 (some .int), .methodLink RX7 85 Lib.Math.max.name, .static Lib.Math.max.name, .code Lib.Math.max.name Lib.Math.max.code 2 (some .int), .methodLink RX7 88 yX7_no, .instanceMethod yX7_no, .selects RX7 yX7_no yX7_no, .code yX7_no cX7_no 2 (some .int)] ++ wsX70)
def wsX7_leader : List Cond := .code yX7_leader cX7_leader 3 (some .int) :: ([.fieldLink RX7 41 "SnowPumpsModel" "thrown" "I", .fieldLink RX7 102 "SnowPumpsModel" "jumps" "I", .methodLink RX7 120 yX7_scoreOf, .instanceMethod yX7_scoreOf, .selects RX7 yX7_scoreOf yX7_scoreOf, .initialized RX7, .code yX7_scoreOf cX7_scoreOf 6 (some .int), .fieldLink RX7 28 "SnowPumpsModel" "book" "[I", .methodLink RX7 61 Lib.Math.min.name, .static Lib.Math.min.name, .initialized "java/lang/Math", .code Lib.Math.min.name Lib.Math.min.code 2 (some .int), .methodLink RX7 85 Lib.Math.max.name, .static Lib.Math.max.name, .code Lib.Math.max.name Lib.Math.max.code 2 (some .int)] ++ wsX70)
def wsX7_partTold : List Cond := .code yX7_partTold cX7_partTold 5 (some .int) :: ([.fieldLink RX7 49 "SnowPumpsModel" "pumps" "I", .fieldLink RX7 19 "SnowPumpsModel" "part" "[I", .fieldLink RX7 34 "SnowPumpsModel" "s" "LSnowPumpsModel$State;", .methodLink RX7 108 yX6_isBad, .instanceMethod yX6_isBad, .selects RX6 yX6_isBad yX6_isBad, .initialized RX6, .code yX6_isBad cX6_isBad 2 (some .boolean), .fieldLink RX6 9 "SnowPumpsModel$State" "snow" "[I", .fieldLink RX6 15 "SnowPumpsModel$State" "ice" "[I"] ++ wsX70 ++ wsX60)
def wsX7_part_r1 : List Cond := [Cond.fieldLink RX7 41 "SnowPumpsModel" "thrown" "I", Cond.methodLink RX7 91 yX7_isPart, Cond.static yX7_isPart, Cond.initialized RX7, Cond.code yX7_isPart cX7_isPart 1 (some .boolean), Cond.methodLink RX7 45 yX7_isIn, Cond.static yX7_isIn, Cond.code yX7_isIn cX7_isIn 3 (some .boolean), Cond.methodLink RX7 123 yX7_partTold, Cond.instanceMethod yX7_partTold, Cond.selects RX7 yX7_partTold yX7_partTold, Cond.code yX7_partTold cX7_partTold 5 (some .int), Cond.fieldLink RX7 49 "SnowPumpsModel" "pumps" "I", Cond.fieldLink RX7 19 "SnowPumpsModel" "part" "[I", Cond.fieldLink RX7 34 "SnowPumpsModel" "s" "LSnowPumpsModel$State;", Cond.methodLink RX7 108 yX6_isBad, Cond.instanceMethod yX6_isBad, Cond.selects RX6 yX6_isBad yX6_isBad, Cond.initialized RX6, Cond.code yX6_isBad cX6_isBad 2 (some .boolean), Cond.fieldLink RX6 9 "SnowPumpsModel$State" "snow" "[I", Cond.fieldLink RX6 15 "SnowPumpsModel$State" "ice" "[I", Cond.methodLink RX7 88 yX7_no, Cond.instanceMethod yX7_no]
def wsX7_part_r2 : List Cond := [Cond.selects RX7 yX7_no yX7_no, Cond.code yX7_no cX7_no 2 (some .int)]
def wsX7_part : List Cond := .code yX7_part cX7_part 3 (some .int) :: ((wsX7_part_r1 ++ wsX7_part_r2) ++ wsX70 ++ wsX60)
def wsX7_counted : List Cond := .code yX7_counted cX7_counted 6 (some .int) :: ([.fieldLink RX7 102 "SnowPumpsModel" "jumps" "I", .fieldLink RX7 28 "SnowPumpsModel" "book" "[I", .arrayClass .int, .fieldLink RX7 16 "SnowPumpsModel" "gust" "[I", .fieldLink RX7 49 "SnowPumpsModel" "pumps" "I", .methodLink RX7 74 yX7_wet, .instanceMethod yX7_wet, .selects RX7 yX7_wet yX7_wet, .initialized RX7, .code yX7_wet cX7_wet 2 (some .int), .fieldLink RX7 9 "SnowPumpsModel" "warmth" "[I", .fieldLink RX7 13 "SnowPumpsModel" "damp" "[I", .methodLink RX7 126 yX7_sum, .static yX7_sum, .code yX7_sum cX7_sum 6 (some .int)] ++ wsX70 ++ wsX60)
def wsX7_count_r1 : List Cond := [Cond.fieldLink RX7 41 "SnowPumpsModel" "thrown" "I", Cond.fieldLink RX7 34 "SnowPumpsModel" "s" "LSnowPumpsModel$State;", Cond.methodLink RX7 45 yX7_isIn, Cond.static yX7_isIn, Cond.initialized RX7, Cond.code yX7_isIn cX7_isIn 3 (some .boolean), Cond.methodLink RX7 130 yX7_counted, Cond.instanceMethod yX7_counted, Cond.selects RX7 yX7_counted yX7_counted, Cond.code yX7_counted cX7_counted 6 (some .int), Cond.fieldLink RX7 102 "SnowPumpsModel" "jumps" "I", Cond.fieldLink RX7 28 "SnowPumpsModel" "book" "[I", Cond.arrayClass .int, Cond.fieldLink RX7 16 "SnowPumpsModel" "gust" "[I", Cond.fieldLink RX7 49 "SnowPumpsModel" "pumps" "I", Cond.methodLink RX7 74 yX7_wet, Cond.instanceMethod yX7_wet, Cond.selects RX7 yX7_wet yX7_wet, Cond.code yX7_wet cX7_wet 2 (some .int), Cond.fieldLink RX7 9 "SnowPumpsModel" "warmth" "[I", Cond.fieldLink RX7 13 "SnowPumpsModel" "damp" "[I", Cond.methodLink RX7 126 yX7_sum, Cond.static yX7_sum, Cond.code yX7_sum cX7_sum 6 (some .int)]
def wsX7_count_r2 : List Cond := [Cond.methodLink RX7 88 yX7_no, Cond.instanceMethod yX7_no, Cond.selects RX7 yX7_no yX7_no, Cond.code yX7_no cX7_no 2 (some .int)]
def wsX7_count : List Cond := .code yX7_count cX7_count 2 (some .int) :: ((wsX7_count_r1 ++ wsX7_count_r2) ++ wsX70 ++ wsX60)
def wsX7_pass__r1 : List Cond := [Cond.fieldLink RX7 41 "SnowPumpsModel" "thrown" "I", Cond.fieldLink RX7 34 "SnowPumpsModel" "s" "LSnowPumpsModel$State;", Cond.methodLink RX7 45 yX7_isIn, Cond.static yX7_isIn, Cond.initialized RX7, Cond.code yX7_isIn cX7_isIn 3 (some .boolean), Cond.methodLink RX7 88 yX7_no, Cond.instanceMethod yX7_no, Cond.selects RX7 yX7_no yX7_no, Cond.code yX7_no cX7_no 2 (some .int), Cond.methodLink RX7 126 yX7_sum, Cond.static yX7_sum, Cond.code yX7_sum cX7_sum 6 (some .int), Cond.methodLink RX7 134 yX7_pass, Cond.instanceMethod yX7_pass, Cond.selects RX7 yX7_pass yX7_pass, Cond.code yX7_pass cX7_pass 4 none, Cond.fieldLink RX7 49 "SnowPumpsModel" "pumps" "I", Cond.fieldLink RX7 9 "SnowPumpsModel" "warmth" "[I", Cond.methodLink RX7 85 Lib.Math.max.name, Cond.static Lib.Math.max.name, Cond.initialized "java/lang/Math", Cond.code Lib.Math.max.name Lib.Math.max.code 2 (some .int), Cond.methodLink RX7 74 yX7_wet]
def wsX7_pass__r2 : List Cond := [Cond.instanceMethod yX7_wet, Cond.selects RX7 yX7_wet yX7_wet, Cond.code yX7_wet cX7_wet 2 (some .int), Cond.fieldLink RX7 13 "SnowPumpsModel" "damp" "[I", Cond.methodLink RX7 78 yX7_work, Cond.instanceMethod yX7_work, Cond.selects RX7 yX7_work yX7_work, Cond.code yX7_work cX7_work 6 none, Cond.fieldLink RX7 22 "SnowPumpsModel" "flow" "[I", Cond.fieldLink RX7 19 "SnowPumpsModel" "part" "[I", Cond.methodLink RX7 61 Lib.Math.min.name, Cond.static Lib.Math.min.name, Cond.code Lib.Math.min.name Lib.Math.min.code 2 (some .int), Cond.methodLink RX7 67 yX6_lay, Cond.instanceMethod yX6_lay, Cond.selects RX6 yX6_lay yX6_lay, Cond.initialized RX6, Cond.code yX6_lay cX6_lay 3 none, Cond.fieldLink RX6 9 "SnowPumpsModel$State" "snow" "[I", Cond.methodLink RX6 38 Lib.Math.min.name]
def wsX7_pass_ : List Cond := .code yX7_pass_ cX7_pass_ 4 (some .int) :: ((wsX7_pass__r1 ++ wsX7_pass__r2) ++ wsX70 ++ wsX60)
def wsX7_enough_r1 : List Cond := [Cond.fieldLink RX7 41 "SnowPumpsModel" "thrown" "I", Cond.fieldLink RX7 38 "SnowPumpsModel" "ahead" "LSnowPumpsModel$State;", Cond.fieldLink RX7 34 "SnowPumpsModel" "s" "LSnowPumpsModel$State;", Cond.methodLink RX7 91 yX7_isPart, Cond.static yX7_isPart, Cond.initialized RX7, Cond.code yX7_isPart cX7_isPart 1 (some .boolean), Cond.methodLink RX7 45 yX7_isIn, Cond.static yX7_isIn, Cond.code yX7_isIn cX7_isIn 3 (some .boolean), Cond.methodLink RX7 88 yX7_no, Cond.instanceMethod yX7_no, Cond.selects RX7 yX7_no yX7_no, Cond.code yX7_no cX7_no 2 (some .int), Cond.methodLink RX7 138 yX6_become, Cond.instanceMethod yX6_become, Cond.selects RX6 yX6_become yX6_become, Cond.initialized RX6, Cond.code yX6_become cX6_become 2 none, Cond.fieldLink RX6 21 "SnowPumpsModel$State" "hour" "I", Cond.fieldLink RX6 25 "SnowPumpsModel$State" "water" "I", Cond.fieldLink RX6 9 "SnowPumpsModel$State" "snow" "[I", Cond.methodLink RX6 28 arraycopyName, Cond.native arraycopyName]
def wsX7_enough_r2 : List Cond := [Cond.static arraycopyName, Cond.initialized "java/lang/System", Cond.fieldLink RX6 15 "SnowPumpsModel$State" "ice" "[I", Cond.fieldLink RX6 18 "SnowPumpsModel$State" "runs" "[I", Cond.methodLink RX7 134 yX7_pass, Cond.instanceMethod yX7_pass, Cond.selects RX7 yX7_pass yX7_pass, Cond.code yX7_pass cX7_pass 4 none, Cond.fieldLink RX7 49 "SnowPumpsModel" "pumps" "I", Cond.fieldLink RX7 9 "SnowPumpsModel" "warmth" "[I", Cond.methodLink RX7 85 Lib.Math.max.name, Cond.static Lib.Math.max.name, Cond.initialized "java/lang/Math", Cond.code Lib.Math.max.name Lib.Math.max.code 2 (some .int), Cond.methodLink RX7 74 yX7_wet, Cond.instanceMethod yX7_wet, Cond.selects RX7 yX7_wet yX7_wet, Cond.code yX7_wet cX7_wet 2 (some .int), Cond.fieldLink RX7 13 "SnowPumpsModel" "damp" "[I", Cond.methodLink RX7 78 yX7_work, Cond.instanceMethod yX7_work, Cond.selects RX7 yX7_work yX7_work, Cond.code yX7_work cX7_work 6 none, Cond.fieldLink RX7 22 "SnowPumpsModel" "flow" "[I"]
def wsX7_enough_r3 : List Cond := [Cond.fieldLink RX7 19 "SnowPumpsModel" "part" "[I", Cond.methodLink RX7 61 Lib.Math.min.name, Cond.static Lib.Math.min.name, Cond.code Lib.Math.min.name Lib.Math.min.code 2 (some .int), Cond.methodLink RX7 67 yX6_lay, Cond.instanceMethod yX6_lay, Cond.selects RX6 yX6_lay yX6_lay, Cond.code yX6_lay cX6_lay 3 none, Cond.methodLink RX6 38 Lib.Math.min.name]
def wsX7_enough : List Cond := .code yX7_enough cX7_enough 4 (some .int) :: ((wsX7_enough_r1 ++ (wsX7_enough_r2 ++ wsX7_enough_r3)) ++ wsX70 ++ wsX60)
def wsX7_foresee_r1 : List Cond := [Cond.fieldLink RX7 41 "SnowPumpsModel" "thrown" "I", Cond.fieldLink RX7 38 "SnowPumpsModel" "ahead" "LSnowPumpsModel$State;", Cond.fieldLink RX7 34 "SnowPumpsModel" "s" "LSnowPumpsModel$State;", Cond.methodLink RX7 45 yX7_isIn, Cond.static yX7_isIn, Cond.initialized RX7, Cond.code yX7_isIn cX7_isIn 3 (some .boolean), Cond.methodLink RX7 88 yX7_no, Cond.instanceMethod yX7_no, Cond.selects RX7 yX7_no yX7_no, Cond.code yX7_no cX7_no 2 (some .int), Cond.methodLink RX7 138 yX6_become, Cond.instanceMethod yX6_become, Cond.selects RX6 yX6_become yX6_become, Cond.initialized RX6, Cond.code yX6_become cX6_become 2 none, Cond.fieldLink RX6 21 "SnowPumpsModel$State" "hour" "I", Cond.fieldLink RX6 25 "SnowPumpsModel$State" "water" "I", Cond.fieldLink RX6 9 "SnowPumpsModel$State" "snow" "[I", Cond.methodLink RX6 28 arraycopyName, Cond.native arraycopyName, Cond.static arraycopyName, Cond.initialized "java/lang/System", Cond.fieldLink RX6 15 "SnowPumpsModel$State" "ice" "[I"]
def wsX7_foresee_r2 : List Cond := [Cond.fieldLink RX6 18 "SnowPumpsModel$State" "runs" "[I", Cond.methodLink RX7 134 yX7_pass, Cond.instanceMethod yX7_pass, Cond.selects RX7 yX7_pass yX7_pass, Cond.code yX7_pass cX7_pass 4 none, Cond.fieldLink RX7 49 "SnowPumpsModel" "pumps" "I", Cond.fieldLink RX7 9 "SnowPumpsModel" "warmth" "[I", Cond.methodLink RX7 85 Lib.Math.max.name, Cond.static Lib.Math.max.name, Cond.initialized "java/lang/Math", Cond.code Lib.Math.max.name Lib.Math.max.code 2 (some .int), Cond.methodLink RX7 74 yX7_wet, Cond.instanceMethod yX7_wet, Cond.selects RX7 yX7_wet yX7_wet, Cond.code yX7_wet cX7_wet 2 (some .int), Cond.fieldLink RX7 13 "SnowPumpsModel" "damp" "[I", Cond.methodLink RX7 78 yX7_work, Cond.instanceMethod yX7_work, Cond.selects RX7 yX7_work yX7_work, Cond.code yX7_work cX7_work 6 none, Cond.fieldLink RX7 22 "SnowPumpsModel" "flow" "[I", Cond.fieldLink RX7 19 "SnowPumpsModel" "part" "[I", Cond.methodLink RX7 61 Lib.Math.min.name, Cond.static Lib.Math.min.name]
def wsX7_foresee_r3 : List Cond := [Cond.code Lib.Math.min.name Lib.Math.min.code 2 (some .int), Cond.methodLink RX7 67 yX6_lay, Cond.instanceMethod yX6_lay, Cond.selects RX6 yX6_lay yX6_lay, Cond.code yX6_lay cX6_lay 3 none, Cond.methodLink RX6 38 Lib.Math.min.name, Cond.methodLink RX7 130 yX7_counted, Cond.instanceMethod yX7_counted, Cond.selects RX7 yX7_counted yX7_counted, Cond.code yX7_counted cX7_counted 6 (some .int), Cond.fieldLink RX7 102 "SnowPumpsModel" "jumps" "I", Cond.fieldLink RX7 28 "SnowPumpsModel" "book" "[I", Cond.arrayClass .int, Cond.fieldLink RX7 16 "SnowPumpsModel" "gust" "[I", Cond.methodLink RX7 126 yX7_sum, Cond.static yX7_sum, Cond.code yX7_sum cX7_sum 6 (some .int)]
def wsX7_foresee : List Cond := .code yX7_foresee cX7_foresee 4 (some .int) :: ((wsX7_foresee_r1 ++ (wsX7_foresee_r2 ++ wsX7_foresee_r3)) ++ wsX70 ++ wsX60)
def wsX7_gate_r1 : List Cond := [Cond.fieldLink RX7 41 "SnowPumpsModel" "thrown" "I", Cond.fieldLink RX7 34 "SnowPumpsModel" "s" "LSnowPumpsModel$State;", Cond.methodLink RX7 45 yX7_isIn, Cond.static yX7_isIn, Cond.initialized RX7, Cond.code yX7_isIn cX7_isIn 3 (some .boolean), Cond.methodLink RX7 88 yX7_no, Cond.instanceMethod yX7_no, Cond.selects RX7 yX7_no yX7_no, Cond.code yX7_no cX7_no 2 (some .int), Cond.methodLink RX7 105 yX7_length, Cond.instanceMethod yX7_length, Cond.selects RX7 yX7_length yX7_length, Cond.code yX7_length cX7_length 3 (some .int), Cond.methodLink RX7 61 Lib.Math.min.name, Cond.static Lib.Math.min.name, Cond.initialized "java/lang/Math", Cond.code Lib.Math.min.name Lib.Math.min.code 2 (some .int), Cond.methodLink RX7 85 Lib.Math.max.name, Cond.static Lib.Math.max.name, Cond.code Lib.Math.max.name Lib.Math.max.code 2 (some .int), Cond.methodLink RX7 98 yX7_gustNow, Cond.instanceMethod yX7_gustNow, Cond.selects RX7 yX7_gustNow yX7_gustNow]
def wsX7_gate_r2 : List Cond := [Cond.code yX7_gustNow cX7_gustNow 1 (some .int), Cond.fieldLink RX7 16 "SnowPumpsModel" "gust" "[I", Cond.methodLink RX7 108 yX6_isBad, Cond.instanceMethod yX6_isBad, Cond.selects RX6 yX6_isBad yX6_isBad, Cond.initialized RX6, Cond.code yX6_isBad cX6_isBad 2 (some .boolean), Cond.fieldLink RX6 9 "SnowPumpsModel$State" "snow" "[I", Cond.fieldLink RX6 15 "SnowPumpsModel$State" "ice" "[I"]
def wsX7_gate : List Cond := .code yX7_gate cX7_gate 3 (some .int) :: ((wsX7_gate_r1 ++ wsX7_gate_r2) ++ wsX70 ++ wsX60)
def wsX7_snowWith_r1 : List Cond := [Cond.fieldLink RX7 38 "SnowPumpsModel" "ahead" "LSnowPumpsModel$State;", Cond.fieldLink RX7 34 "SnowPumpsModel" "s" "LSnowPumpsModel$State;", Cond.methodLink RX7 138 yX6_become, Cond.instanceMethod yX6_become, Cond.selects RX6 yX6_become yX6_become, Cond.initialized RX6, Cond.code yX6_become cX6_become 2 none, Cond.fieldLink RX6 21 "SnowPumpsModel$State" "hour" "I", Cond.fieldLink RX6 25 "SnowPumpsModel$State" "water" "I", Cond.fieldLink RX6 9 "SnowPumpsModel$State" "snow" "[I", Cond.methodLink RX6 28 arraycopyName, Cond.native arraycopyName, Cond.static arraycopyName, Cond.initialized "java/lang/System", Cond.fieldLink RX6 15 "SnowPumpsModel$State" "ice" "[I", Cond.fieldLink RX6 18 "SnowPumpsModel$State" "runs" "[I", Cond.methodLink RX7 134 yX7_pass, Cond.instanceMethod yX7_pass, Cond.selects RX7 yX7_pass yX7_pass, Cond.initialized RX7, Cond.code yX7_pass cX7_pass 4 none, Cond.fieldLink RX7 49 "SnowPumpsModel" "pumps" "I", Cond.fieldLink RX7 9 "SnowPumpsModel" "warmth" "[I", Cond.methodLink RX7 85 Lib.Math.max.name]
def wsX7_snowWith_r2 : List Cond := [Cond.static Lib.Math.max.name, Cond.initialized "java/lang/Math", Cond.code Lib.Math.max.name Lib.Math.max.code 2 (some .int), Cond.methodLink RX7 74 yX7_wet, Cond.instanceMethod yX7_wet, Cond.selects RX7 yX7_wet yX7_wet, Cond.code yX7_wet cX7_wet 2 (some .int), Cond.fieldLink RX7 13 "SnowPumpsModel" "damp" "[I", Cond.methodLink RX7 78 yX7_work, Cond.instanceMethod yX7_work, Cond.selects RX7 yX7_work yX7_work, Cond.code yX7_work cX7_work 6 none, Cond.fieldLink RX7 22 "SnowPumpsModel" "flow" "[I", Cond.fieldLink RX7 19 "SnowPumpsModel" "part" "[I", Cond.methodLink RX7 61 Lib.Math.min.name, Cond.static Lib.Math.min.name, Cond.code Lib.Math.min.name Lib.Math.min.code 2 (some .int), Cond.methodLink RX7 67 yX6_lay, Cond.instanceMethod yX6_lay, Cond.selects RX6 yX6_lay yX6_lay, Cond.code yX6_lay cX6_lay 3 none, Cond.methodLink RX6 38 Lib.Math.min.name, Cond.static yX7_isIn, Cond.code yX7_isIn cX7_isIn 3 (some .boolean)]
def wsX7_snowWith_r3 : List Cond := [Cond.methodLink RX7 126 yX7_sum, Cond.static yX7_sum, Cond.code yX7_sum cX7_sum 6 (some .int)]
def wsX7_snowWith : List Cond := .code yX7_snowWith cX7_snowWith 4 (some .int) :: ((wsX7_snowWith_r1 ++ (wsX7_snowWith_r2 ++ wsX7_snowWith_r3)) ++ wsX70 ++ wsX60)
def wsX7_advise_r1 : List Cond := [Cond.fieldLink RX7 41 "SnowPumpsModel" "thrown" "I", Cond.fieldLink RX7 49 "SnowPumpsModel" "pumps" "I", Cond.fieldLink RX7 34 "SnowPumpsModel" "s" "LSnowPumpsModel$State;", Cond.methodLink RX7 45 yX7_isIn, Cond.static yX7_isIn, Cond.initialized RX7, Cond.code yX7_isIn cX7_isIn 3 (some .boolean), Cond.methodLink RX7 88 yX7_no, Cond.instanceMethod yX7_no, Cond.selects RX7 yX7_no yX7_no, Cond.code yX7_no cX7_no 2 (some .int), Cond.methodLink RX7 141 yX7_snowWith, Cond.instanceMethod yX7_snowWith, Cond.selects RX7 yX7_snowWith yX7_snowWith, Cond.code yX7_snowWith cX7_snowWith 4 (some .int), Cond.fieldLink RX7 38 "SnowPumpsModel" "ahead" "LSnowPumpsModel$State;", Cond.methodLink RX7 138 yX6_become, Cond.instanceMethod yX6_become, Cond.selects RX6 yX6_become yX6_become, Cond.initialized RX6, Cond.code yX6_become cX6_become 2 none, Cond.fieldLink RX6 21 "SnowPumpsModel$State" "hour" "I", Cond.fieldLink RX6 25 "SnowPumpsModel$State" "water" "I", Cond.fieldLink RX6 9 "SnowPumpsModel$State" "snow" "[I"]
def wsX7_advise_r2 : List Cond := [Cond.methodLink RX6 28 arraycopyName, Cond.native arraycopyName, Cond.static arraycopyName, Cond.initialized "java/lang/System", Cond.fieldLink RX6 15 "SnowPumpsModel$State" "ice" "[I", Cond.fieldLink RX6 18 "SnowPumpsModel$State" "runs" "[I", Cond.methodLink RX7 134 yX7_pass, Cond.instanceMethod yX7_pass, Cond.selects RX7 yX7_pass yX7_pass, Cond.code yX7_pass cX7_pass 4 none, Cond.fieldLink RX7 9 "SnowPumpsModel" "warmth" "[I", Cond.methodLink RX7 85 Lib.Math.max.name, Cond.static Lib.Math.max.name, Cond.initialized "java/lang/Math", Cond.code Lib.Math.max.name Lib.Math.max.code 2 (some .int), Cond.methodLink RX7 74 yX7_wet, Cond.instanceMethod yX7_wet, Cond.selects RX7 yX7_wet yX7_wet, Cond.code yX7_wet cX7_wet 2 (some .int), Cond.fieldLink RX7 13 "SnowPumpsModel" "damp" "[I", Cond.methodLink RX7 78 yX7_work, Cond.instanceMethod yX7_work, Cond.selects RX7 yX7_work yX7_work, Cond.code yX7_work cX7_work 6 none]
def wsX7_advise_r3 : List Cond := [Cond.fieldLink RX7 22 "SnowPumpsModel" "flow" "[I", Cond.fieldLink RX7 19 "SnowPumpsModel" "part" "[I", Cond.methodLink RX7 61 Lib.Math.min.name, Cond.static Lib.Math.min.name, Cond.code Lib.Math.min.name Lib.Math.min.code 2 (some .int), Cond.methodLink RX7 67 yX6_lay, Cond.instanceMethod yX6_lay, Cond.selects RX6 yX6_lay yX6_lay, Cond.code yX6_lay cX6_lay 3 none, Cond.methodLink RX6 38 Lib.Math.min.name, Cond.methodLink RX7 126 yX7_sum, Cond.static yX7_sum, Cond.code yX7_sum cX7_sum 6 (some .int)]
def wsX7_advise : List Cond := .code yX7_advise cX7_advise 6 (some .int) :: ((wsX7_advise_r1 ++ (wsX7_advise_r2 ++ wsX7_advise_r3)) ++ wsX70 ++ wsX60)
def wsX7_mean : List Cond := .code yX7_mean cX7_mean 3 (some .double) :: ([.fieldLink RX7 41 "SnowPumpsModel" "thrown" "I", .fieldLink RX7 102 "SnowPumpsModel" "jumps" "I", .fieldLink RX7 28 "SnowPumpsModel" "book" "[I"] ++ wsX70)
def wsX7_digest_r1 : List Cond := [Cond.fieldLink RX7 41 "SnowPumpsModel" "thrown" "I", Cond.constantLong RX7 144 (1181), Cond.constantLong RX7 146 (31), Cond.fieldLink RX7 34 "SnowPumpsModel" "s" "LSnowPumpsModel$State;", Cond.fieldLink RX7 9 "SnowPumpsModel" "warmth" "[I", Cond.fieldLink RX7 13 "SnowPumpsModel" "damp" "[I", Cond.fieldLink RX7 16 "SnowPumpsModel" "gust" "[I", Cond.fieldLink RX7 25 "SnowPumpsModel" "strict" "[I", Cond.fieldLink RX7 49 "SnowPumpsModel" "pumps" "I", Cond.fieldLink RX7 19 "SnowPumpsModel" "part" "[I", Cond.fieldLink RX7 22 "SnowPumpsModel" "flow" "[I", Cond.fieldLink RX7 102 "SnowPumpsModel" "jumps" "I", Cond.fieldLink RX7 28 "SnowPumpsModel" "book" "[I", Cond.methodLink RX7 130 yX7_counted, Cond.instanceMethod yX7_counted, Cond.selects RX7 yX7_counted yX7_counted, Cond.initialized RX7, Cond.code yX7_counted cX7_counted 6 (some .int), Cond.arrayClass .int, Cond.methodLink RX7 74 yX7_wet, Cond.instanceMethod yX7_wet, Cond.selects RX7 yX7_wet yX7_wet, Cond.code yX7_wet cX7_wet 2 (some .int), Cond.methodLink RX7 126 yX7_sum]
def wsX7_digest_r2 : List Cond := [Cond.static yX7_sum, Cond.code yX7_sum cX7_sum 6 (some .int), Cond.methodLink RX7 123 yX7_partTold, Cond.instanceMethod yX7_partTold, Cond.selects RX7 yX7_partTold yX7_partTold, Cond.code yX7_partTold cX7_partTold 5 (some .int), Cond.methodLink RX7 108 yX6_isBad, Cond.instanceMethod yX6_isBad, Cond.selects RX6 yX6_isBad yX6_isBad, Cond.initialized RX6, Cond.code yX6_isBad cX6_isBad 2 (some .boolean), Cond.fieldLink RX6 9 "SnowPumpsModel$State" "snow" "[I", Cond.fieldLink RX6 15 "SnowPumpsModel$State" "ice" "[I", Cond.methodLink RX7 120 yX7_scoreOf, Cond.instanceMethod yX7_scoreOf, Cond.selects RX7 yX7_scoreOf yX7_scoreOf, Cond.code yX7_scoreOf cX7_scoreOf 6 (some .int), Cond.methodLink RX7 61 Lib.Math.min.name, Cond.static Lib.Math.min.name, Cond.initialized "java/lang/Math", Cond.code Lib.Math.min.name Lib.Math.min.code 2 (some .int), Cond.methodLink RX7 85 Lib.Math.max.name, Cond.static Lib.Math.max.name, Cond.code Lib.Math.max.name Lib.Math.max.code 2 (some .int)]
def wsX7_digest : List Cond := .code yX7_digest cX7_digest 7 (some .long) :: ((wsX7_digest_r1 ++ wsX7_digest_r2) ++ wsX70 ++ wsX60)
def wsJ9_abs_0f7a4 : List Cond := .code yJ9_abs_0f7a4 cJ9_abs_0f7a4 1 (some .int) :: ([])
def wsJ9_max_7cf53 : List Cond := .code yJ9_max_7cf53 cJ9_max_7cf53 2 (some .int) :: ([])
def wsJ9_min_7cf53 : List Cond := .code yJ9_min_7cf53 cJ9_min_7cf53 2 (some .int) :: ([])
def wsL_setWeather_r1 : List Cond := [Cond.classLink RL 13 "java/lang/IndexOutOfBoundsException", Cond.classLink RL 15 "java/lang/IllegalArgumentException", Cond.methodLink RL 7 yX5_setWeather, Cond.instanceMethod yX5_setWeather, Cond.selects RX5 yX5_setWeather yX5_setWeather, Cond.initialized RX5, Cond.code yX5_setWeather cX5_setWeather 5 (some .int), Cond.classLink RX5 53 "java/lang/IndexOutOfBoundsException", Cond.initialized "java/lang/IndexOutOfBoundsException", Cond.classLink RX5 60 "java/lang/IllegalArgumentException", Cond.initialized "java/lang/IllegalArgumentException", Cond.fieldLink RX5 10 "SnowPumps" "weather" "LSnowPumps$Weather;", Cond.fieldLink RX5 69 "SnowPumps$Weather" "warmth" "[I", Cond.fieldLink RX5 73 "SnowPumps$Weather" "damp" "[I", Cond.fieldLink RX5 76 "SnowPumps$Weather" "gust" "[I", Cond.methodLink RX5 49 yX5_isOutside, Cond.static yX5_isOutside, Cond.code yX5_isOutside cX5_isOutside 3 (some .boolean), Cond.methodLink RX5 79 yX4_wetCold, Cond.instanceMethod yX4_wetCold, Cond.selects RX4 yX4_wetCold yX4_wetCold, Cond.initialized RX4, Cond.code yX4_wetCold cX4_wetCold 2 (some .int), Cond.fieldLink RX4 9 "SnowPumps$Weather" "warmth" "[I"]
def wsL_setWeather_r2 : List Cond := [Cond.fieldLink RX4 15 "SnowPumps$Weather" "damp" "[I"]
def wsL_setWeather : List Cond := .codeWith yL_setWeather cL_setWeather 7 (some .int) [(0, 14, 17, 13), (0, 14, 21, 15)] :: ((wsL_setWeather_r1 ++ wsL_setWeather_r2) ++ wsX50 ++ wsX40 ++ (vx_atS RX5 57 "java/lang/IndexOutOfBoundsException" ["java/lang/RuntimeException", "java/lang/Exception"]).filter goodWord ++ (vx_atS RX5 64 "java/lang/IllegalArgumentException" ["java/lang/RuntimeException", "java/lang/Exception"]).filter goodWord)
def wsL_pump_r1 : List Cond := [Cond.classLink RL 13 "java/lang/IndexOutOfBoundsException", Cond.classLink RL 15 "java/lang/IllegalArgumentException", Cond.classLink RL 21 "java/lang/IllegalStateException", Cond.methodLink RL 17 yX5_pump, Cond.instanceMethod yX5_pump, Cond.selects RX5 yX5_pump yX5_pump, Cond.initialized RX5, Cond.code yX5_pump cX5_pump 3 (some .int), Cond.classLink RX5 53 "java/lang/IndexOutOfBoundsException", Cond.initialized "java/lang/IndexOutOfBoundsException", Cond.classLink RX5 60 "java/lang/IllegalArgumentException", Cond.initialized "java/lang/IllegalArgumentException", Cond.classLink RX5 91 "java/lang/IllegalStateException", Cond.initialized "java/lang/IllegalStateException", Cond.fieldLink RX5 19 "SnowPumps" "pumps" "LSnowPumps$Pumps;", Cond.fieldLink RX5 87 "SnowPumps$Pumps" "count" "I", Cond.methodLink RX5 49 yX5_isOutside, Cond.static yX5_isOutside, Cond.code yX5_isOutside cX5_isOutside 3 (some .boolean), Cond.methodLink RX5 96 yX3_setUp, Cond.instanceMethod yX3_setUp, Cond.selects RX3 yX3_setUp yX3_setUp, Cond.initialized RX3, Cond.code yX3_setUp cX3_setUp 4 (some .int)]
def wsL_pump_r2 : List Cond := [Cond.fieldLink RX3 18 "SnowPumps$Pumps" "count" "I", Cond.fieldLink RX3 9 "SnowPumps$Pumps" "part" "[I", Cond.fieldLink RX3 15 "SnowPumps$Pumps" "flow" "[I"]
def wsL_pump : List Cond := .codeWith yL_pump cL_pump 5 (some .int) [(0, 10, 13, 13), (0, 10, 17, 15), (0, 10, 21, 21)] :: ((wsL_pump_r1 ++ wsL_pump_r2) ++ wsX50 ++ wsX30 ++ (vx_atS RX5 57 "java/lang/IndexOutOfBoundsException" ["java/lang/RuntimeException", "java/lang/Exception"]).filter goodWord ++ (vx_atS RX5 64 "java/lang/IllegalArgumentException" ["java/lang/RuntimeException", "java/lang/Exception"]).filter goodWord ++ (vx_atS RX5 95 "java/lang/IllegalStateException" ["java/lang/RuntimeException", "java/lang/Exception"]).filter goodWord)
def wsL_run : List Cond := .codeWith yL_run cL_run 4 (some .int) [(0, 16, 19, 13)] :: ([.classLink RL 13 "java/lang/IndexOutOfBoundsException", .methodLink RL 23 yX5_run, .instanceMethod yX5_run, .selects RX5 yX5_run yX5_run, .initialized RX5, .code yX5_run cX5_run 2 (some .boolean), .classLink RX5 53 "java/lang/IndexOutOfBoundsException", .initialized "java/lang/IndexOutOfBoundsException", .fieldLink RX5 19 "SnowPumps" "pumps" "LSnowPumps$Pumps;", .fieldLink RX5 87 "SnowPumps$Pumps" "count" "I", .fieldLink RX5 28 "SnowPumps" "hill" "LSnowPumps$Hill;", .fieldLink RX5 102 "SnowPumps$Hill" "runs" "[Z", .methodLink RX5 49 yX5_isOutside, .static yX5_isOutside, .code yX5_isOutside cX5_isOutside 3 (some .boolean)] ++ wsX50 ++ wsX30 ++ wsX00 ++ (vx_atS RX5 57 "java/lang/IndexOutOfBoundsException" ["java/lang/RuntimeException", "java/lang/Exception"]).filter goodWord)
def wsL_fill : List Cond := .codeWith yL_fill cL_fill 4 (some .int) [(0, 9, 12, 15)] :: ([.classLink RL 15 "java/lang/IllegalArgumentException", .methodLink RL 27 yX5_fill, .instanceMethod yX5_fill, .selects RX5 yX5_fill yX5_fill, .initialized RX5, .code yX5_fill cX5_fill 2 (some .int), .classLink RX5 60 "java/lang/IllegalArgumentException", .initialized "java/lang/IllegalArgumentException", .fieldLink RX5 28 "SnowPumps" "hill" "LSnowPumps$Hill;", .fieldLink RX5 108 "SnowPumps$Hill" "water" "I", .methodLink RX5 111 Lib.Math.min.name, .static Lib.Math.min.name, .initialized "java/lang/Math", .code Lib.Math.min.name Lib.Math.min.code 2 (some .int), .methodLink RX5 49 yX5_isOutside, .static yX5_isOutside, .code yX5_isOutside cX5_isOutside 3 (some .boolean)] ++ wsX50 ++ wsX00 ++ (vx_atS RX5 64 "java/lang/IllegalArgumentException" ["java/lang/RuntimeException", "java/lang/Exception"]).filter goodWord)
def wsL_groom : List Cond := .codeWith yL_groom cL_groom 5 (some .int) [(0, 10, 13, 13), (0, 10, 17, 15)] :: ([.classLink RL 13 "java/lang/IndexOutOfBoundsException", .classLink RL 15 "java/lang/IllegalArgumentException", .methodLink RL 31 yX5_groom, .instanceMethod yX5_groom, .selects RX5 yX5_groom yX5_groom, .initialized RX5, .code yX5_groom cX5_groom 3 (some .int), .classLink RX5 53 "java/lang/IndexOutOfBoundsException", .initialized "java/lang/IndexOutOfBoundsException", .classLink RX5 60 "java/lang/IllegalArgumentException", .initialized "java/lang/IllegalArgumentException", .fieldLink RX5 28 "SnowPumps" "hill" "LSnowPumps$Hill;", .methodLink RX5 49 yX5_isOutside, .static yX5_isOutside, .code yX5_isOutside cX5_isOutside 3 (some .boolean), .methodLink RX5 122 yX0_spreadSnow, .instanceMethod yX0_spreadSnow, .selects RX0 yX0_spreadSnow yX0_spreadSnow, .initialized RX0, .code yX0_spreadSnow cX0_spreadSnow 8 (some .int), .fieldLink RX0 9 "SnowPumps$Hill" "snow" "[I", .fieldLink RX0 15 "SnowPumps$Hill" "ice" "[I"] ++ wsX50 ++ wsX00 ++ (vx_atS RX5 57 "java/lang/IndexOutOfBoundsException" ["java/lang/RuntimeException", "java/lang/Exception"]).filter goodWord ++ (vx_atS RX5 64 "java/lang/IllegalArgumentException" ["java/lang/RuntimeException", "java/lang/Exception"]).filter goodWord)
def wsL_judge : List Cond := .codeWith yL_judge cL_judge 5 (some .int) [(0, 10, 13, 13), (0, 10, 17, 15)] :: ([.classLink RL 13 "java/lang/IndexOutOfBoundsException", .classLink RL 15 "java/lang/IllegalArgumentException", .methodLink RL 34 yX5_judge, .instanceMethod yX5_judge, .selects RX5 yX5_judge yX5_judge, .initialized RX5, .code yX5_judge cX5_judge 4 (some .int), .classLink RX5 53 "java/lang/IndexOutOfBoundsException", .initialized "java/lang/IndexOutOfBoundsException", .classLink RX5 60 "java/lang/IllegalArgumentException", .initialized "java/lang/IllegalArgumentException", .fieldLink RX5 38 "SnowPumps" "jury" "LSnowPumps$Jury;", .fieldLink RX5 129 "SnowPumps$Jury" "strict" "[I", .methodLink RX5 49 yX5_isOutside, .static yX5_isOutside, .code yX5_isOutside cX5_isOutside 3 (some .boolean)] ++ wsX50 ++ wsX20 ++ (vx_atS RX5 57 "java/lang/IndexOutOfBoundsException" ["java/lang/RuntimeException", "java/lang/Exception"]).filter goodWord ++ (vx_atS RX5 64 "java/lang/IllegalArgumentException" ["java/lang/RuntimeException", "java/lang/Exception"]).filter goodWord)
def wsL_jump_r1 : List Cond := [Cond.classLink RL 15 "java/lang/IllegalArgumentException", Cond.classLink RL 21 "java/lang/IllegalStateException", Cond.methodLink RL 37 yX5_jump, Cond.instanceMethod yX5_jump, Cond.selects RX5 yX5_jump yX5_jump, Cond.initialized RX5, Cond.code yX5_jump cX5_jump 8 (some .int), Cond.classLink RX5 60 "java/lang/IllegalArgumentException", Cond.initialized "java/lang/IllegalArgumentException", Cond.classLink RX5 91 "java/lang/IllegalStateException", Cond.initialized "java/lang/IllegalStateException", Cond.fieldLink RX5 45 "SnowPumps" "jumps" "LSnowPumps$Jumps;", Cond.fieldLink RX5 138 "SnowPumps$Jumps" "count" "I", Cond.fieldLink RX5 10 "SnowPumps" "weather" "LSnowPumps$Weather;", Cond.fieldLink RX5 76 "SnowPumps$Weather" "gust" "[I", Cond.fieldLink RX5 28 "SnowPumps" "hill" "LSnowPumps$Hill;", Cond.fieldLink RX5 38 "SnowPumps" "jury" "LSnowPumps$Jury;", Cond.fieldLink RX5 161 "SnowPumps$Hill" "hour" "I", Cond.methodLink RX5 49 yX5_isOutside, Cond.static yX5_isOutside, Cond.code yX5_isOutside cX5_isOutside 3 (some .boolean), Cond.methodLink RX5 141 yX0_hourOfDay, Cond.instanceMethod yX0_hourOfDay, Cond.selects RX0 yX0_hourOfDay yX0_hourOfDay]
def wsL_jump_r2 : List Cond := [Cond.initialized RX0, Cond.code yX0_hourOfDay cX0_hourOfDay 1 (some .int), Cond.fieldLink RX0 34 "SnowPumps$Hill" "hour" "I", Cond.methodLink RX0 37 yJ9_floorMod_7cf53, Cond.static yJ9_floorMod_7cf53, Cond.initialized RJ9, Cond.code yJ9_floorMod_7cf53 cJ9_floorMod_7cf53 3 (some .int), Cond.methodLink RX5 145 yX5_lengthFrom, Cond.static yX5_lengthFrom, Cond.code yX5_lengthFrom cX5_lengthFrom 3 (some .int), Cond.methodLink RX5 251 yX5_hold, Cond.static yX5_hold, Cond.code yX5_hold cX5_hold 3 (some .int), Cond.methodLink RX5 111 Lib.Math.min.name, Cond.static Lib.Math.min.name, Cond.initialized "java/lang/Math", Cond.code Lib.Math.min.name Lib.Math.min.code 2 (some .int), Cond.methodLink RX5 254 Lib.Math.max.name, Cond.static Lib.Math.max.name, Cond.code Lib.Math.max.name Lib.Math.max.code 2 (some .int), Cond.methodLink RX5 149 yX0_fallsAt, Cond.instanceMethod yX0_fallsAt, Cond.selects RX0 yX0_fallsAt yX0_fallsAt, Cond.code yX0_fallsAt cX0_fallsAt 2 (some .boolean)]
def wsL_jump_r3 : List Cond := [Cond.fieldLink RX0 9 "SnowPumps$Hill" "snow" "[I", Cond.fieldLink RX0 15 "SnowPumps$Hill" "ice" "[I", Cond.methodLink RX5 153 yX0_takeSnow, Cond.instanceMethod yX0_takeSnow, Cond.selects RX0 yX0_takeSnow yX0_takeSnow, Cond.code yX0_takeSnow cX0_takeSnow 3 none, Cond.methodLink RX0 47 Lib.Math.max.name, Cond.methodLink RX5 157 yX2_marks, Cond.instanceMethod yX2_marks, Cond.selects RX2 yX2_marks yX2_marks, Cond.initialized RX2, Cond.code yX2_marks cX2_marks 10 (some .int), Cond.methodLink RX2 15 Lib.Math.abs.name, Cond.static Lib.Math.abs.name, Cond.code Lib.Math.abs.name Lib.Math.abs.code 1 (some .int), Cond.fieldLink RX2 9 "SnowPumps$Jury" "strict" "[I", Cond.methodLink RX2 25 Lib.Math.max.name, Cond.methodLink RX2 29 Lib.Math.min.name, Cond.methodLink RX5 164 yX1_add, Cond.instanceMethod yX1_add, Cond.selects RX1 yX1_add yX1_add, Cond.initialized RX1, Cond.code yX1_add cX1_add 7 (some .int), Cond.fieldLink RX1 27 "SnowPumps$Jumps" "count" "I"]
def wsL_jump_r4 : List Cond := [Cond.fieldLink RX1 9 "SnowPumps$Jumps" "jumper" "[I", Cond.fieldLink RX1 15 "SnowPumps$Jumps" "length" "[I", Cond.fieldLink RX1 18 "SnowPumps$Jumps" "points" "[I", Cond.fieldLink RX1 21 "SnowPumps$Jumps" "fall" "[I", Cond.fieldLink RX1 24 "SnowPumps$Jumps" "hour" "[I"]
def wsL_jump : List Cond := .codeWith yL_jump cL_jump 6 (some .int) [(0, 12, 15, 15), (0, 12, 19, 21)] :: ((wsL_jump_r1 ++ (wsL_jump_r2 ++ (wsL_jump_r3 ++ wsL_jump_r4))) ++ wsX50 ++ wsX10 ++ wsX40 ++ wsX00 ++ wsX20 ++ (vx_atS RX5 64 "java/lang/IllegalArgumentException" ["java/lang/RuntimeException", "java/lang/Exception"]).filter goodWord ++ (vx_atS RX5 95 "java/lang/IllegalStateException" ["java/lang/RuntimeException", "java/lang/Exception"]).filter goodWord)
def wsL_told : List Cond := .codeWith yL_told cL_told 5 (some .int) [(0, 10, 13, 13)] :: ([.classLink RL 13 "java/lang/IndexOutOfBoundsException", .methodLink RL 41 yX5_told, .instanceMethod yX5_told, .selects RX5 yX5_told yX5_told, .initialized RX5, .code yX5_told cX5_told 3 (some .int), .classLink RX5 53 "java/lang/IndexOutOfBoundsException", .initialized "java/lang/IndexOutOfBoundsException", .fieldLink RX5 45 "SnowPumps" "jumps" "LSnowPumps$Jumps;", .fieldLink RX5 138 "SnowPumps$Jumps" "count" "I", .methodLink RX5 49 yX5_isOutside, .static yX5_isOutside, .code yX5_isOutside cX5_isOutside 3 (some .boolean), .methodLink RX5 172 yX1_tell, .instanceMethod yX1_tell, .selects RX1 yX1_tell yX1_tell, .initialized RX1, .code yX1_tell cX1_tell 3 (some .int), .fieldLink RX1 9 "SnowPumps$Jumps" "jumper" "[I", .fieldLink RX1 15 "SnowPumps$Jumps" "length" "[I", .fieldLink RX1 18 "SnowPumps$Jumps" "points" "[I", .fieldLink RX1 21 "SnowPumps$Jumps" "fall" "[I", .fieldLink RX1 24 "SnowPumps$Jumps" "hour" "[I"] ++ wsX50 ++ wsX10 ++ (vx_atS RX5 57 "java/lang/IndexOutOfBoundsException" ["java/lang/RuntimeException", "java/lang/Exception"]).filter goodWord)
def wsL_score_r1 : List Cond := [Cond.classLink RL 13 "java/lang/IndexOutOfBoundsException", Cond.methodLink RL 44 yX5_score, Cond.instanceMethod yX5_score, Cond.selects RX5 yX5_score yX5_score, Cond.initialized RX5, Cond.code yX5_score cX5_score 2 (some .int), Cond.classLink RX5 53 "java/lang/IndexOutOfBoundsException", Cond.initialized "java/lang/IndexOutOfBoundsException", Cond.fieldLink RX5 45 "SnowPumps" "jumps" "LSnowPumps$Jumps;", Cond.methodLink RX5 49 yX5_isOutside, Cond.static yX5_isOutside, Cond.code yX5_isOutside cX5_isOutside 3 (some .boolean), Cond.methodLink RX5 175 yX1_bestTwo, Cond.instanceMethod yX1_bestTwo, Cond.selects RX1 yX1_bestTwo yX1_bestTwo, Cond.initialized RX1, Cond.code yX1_bestTwo cX1_bestTwo 5 (some .int), Cond.fieldLink RX1 27 "SnowPumps$Jumps" "count" "I", Cond.fieldLink RX1 9 "SnowPumps$Jumps" "jumper" "[I", Cond.fieldLink RX1 18 "SnowPumps$Jumps" "points" "[I", Cond.methodLink RX1 31 Lib.Math.min.name, Cond.static Lib.Math.min.name, Cond.initialized "java/lang/Math", Cond.code Lib.Math.min.name Lib.Math.min.code 2 (some .int)]
def wsL_score_r2 : List Cond := [Cond.methodLink RX1 37 Lib.Math.max.name, Cond.static Lib.Math.max.name, Cond.code Lib.Math.max.name Lib.Math.max.code 2 (some .int)]
def wsL_score : List Cond := .codeWith yL_score cL_score 4 (some .int) [(0, 9, 12, 13)] :: ((wsL_score_r1 ++ wsL_score_r2) ++ wsX50 ++ wsX10 ++ (vx_atS RX5 57 "java/lang/IndexOutOfBoundsException" ["java/lang/RuntimeException", "java/lang/Exception"]).filter goodWord)
def wsL_part_r1 : List Cond := [Cond.classLink RL 13 "java/lang/IndexOutOfBoundsException", Cond.methodLink RL 47 yX5_part, Cond.instanceMethod yX5_part, Cond.selects RX5 yX5_part yX5_part, Cond.initialized RX5, Cond.code yX5_part cX5_part 3 (some .int), Cond.classLink RX5 53 "java/lang/IndexOutOfBoundsException", Cond.initialized "java/lang/IndexOutOfBoundsException", Cond.methodLink RX5 49 yX5_isOutside, Cond.static yX5_isOutside, Cond.code yX5_isOutside cX5_isOutside 3 (some .boolean), Cond.methodLink RX5 180 yX5_tellPart, Cond.instanceMethod yX5_tellPart, Cond.selects RX5 yX5_tellPart yX5_tellPart, Cond.code yX5_tellPart cX5_tellPart 3 (some .int), Cond.fieldLink RX5 28 "SnowPumps" "hill" "LSnowPumps$Hill;", Cond.fieldLink RX5 203 "SnowPumps$Hill" "snow" "[I", Cond.fieldLink RX5 239 "SnowPumps$Hill" "ice" "[I", Cond.fieldLink RX5 19 "SnowPumps" "pumps" "LSnowPumps$Pumps;", Cond.methodLink RX5 242 yX3_countAt, Cond.instanceMethod yX3_countAt, Cond.selects RX3 yX3_countAt yX3_countAt, Cond.initialized RX3, Cond.code yX3_countAt cX3_countAt 4 (some .int)]
def wsL_part_r2 : List Cond := [Cond.fieldLink RX3 18 "SnowPumps$Pumps" "count" "I", Cond.fieldLink RX3 9 "SnowPumps$Pumps" "part" "[I", Cond.methodLink RX5 149 yX0_fallsAt, Cond.instanceMethod yX0_fallsAt, Cond.selects RX0 yX0_fallsAt yX0_fallsAt, Cond.initialized RX0, Cond.code yX0_fallsAt cX0_fallsAt 2 (some .boolean), Cond.fieldLink RX0 9 "SnowPumps$Hill" "snow" "[I", Cond.fieldLink RX0 15 "SnowPumps$Hill" "ice" "[I"]
def wsL_part : List Cond := .codeWith yL_part cL_part 5 (some .int) [(0, 10, 13, 13)] :: ((wsL_part_r1 ++ wsL_part_r2) ++ wsX50 ++ wsX00 ++ wsX30 ++ (vx_atS RX5 57 "java/lang/IndexOutOfBoundsException" ["java/lang/RuntimeException", "java/lang/Exception"]).filter goodWord)
def wsL_count_r1 : List Cond := [Cond.classLink RL 13 "java/lang/IndexOutOfBoundsException", Cond.methodLink RL 50 yX5_count, Cond.instanceMethod yX5_count, Cond.selects RX5 yX5_count yX5_count, Cond.initialized RX5, Cond.code yX5_count cX5_count 2 (some .int), Cond.classLink RX5 53 "java/lang/IndexOutOfBoundsException", Cond.initialized "java/lang/IndexOutOfBoundsException", Cond.methodLink RX5 49 yX5_isOutside, Cond.static yX5_isOutside, Cond.code yX5_isOutside cX5_isOutside 3 (some .boolean), Cond.methodLink RX5 185 yX5_tellCount, Cond.instanceMethod yX5_tellCount, Cond.selects RX5 yX5_tellCount yX5_tellCount, Cond.code yX5_tellCount cX5_tellCount 2 (some .int), Cond.fieldLink RX5 28 "SnowPumps" "hill" "LSnowPumps$Hill;", Cond.fieldLink RX5 161 "SnowPumps$Hill" "hour" "I", Cond.fieldLink RX5 10 "SnowPumps" "weather" "LSnowPumps$Weather;", Cond.fieldLink RX5 76 "SnowPumps$Weather" "gust" "[I", Cond.fieldLink RX5 108 "SnowPumps$Hill" "water" "I", Cond.fieldLink RX5 19 "SnowPumps" "pumps" "LSnowPumps$Pumps;", Cond.fieldLink RX5 87 "SnowPumps$Pumps" "count" "I", Cond.fieldLink RX5 45 "SnowPumps" "jumps" "LSnowPumps$Jumps;", Cond.fieldLink RX5 138 "SnowPumps$Jumps" "count" "I"]
def wsL_count_r2 : List Cond := [Cond.methodLink RX5 141 yX0_hourOfDay, Cond.instanceMethod yX0_hourOfDay, Cond.selects RX0 yX0_hourOfDay yX0_hourOfDay, Cond.initialized RX0, Cond.code yX0_hourOfDay cX0_hourOfDay 1 (some .int), Cond.fieldLink RX0 34 "SnowPumps$Hill" "hour" "I", Cond.methodLink RX0 37 yJ9_floorMod_7cf53, Cond.static yJ9_floorMod_7cf53, Cond.initialized RJ9, Cond.code yJ9_floorMod_7cf53 cJ9_floorMod_7cf53 3 (some .int), Cond.methodLink RX5 79 yX4_wetCold, Cond.instanceMethod yX4_wetCold, Cond.selects RX4 yX4_wetCold yX4_wetCold, Cond.initialized RX4, Cond.code yX4_wetCold cX4_wetCold 2 (some .int), Cond.fieldLink RX4 9 "SnowPumps$Weather" "warmth" "[I", Cond.fieldLink RX4 15 "SnowPumps$Weather" "damp" "[I", Cond.methodLink RX5 245 yX0_countRunning, Cond.instanceMethod yX0_countRunning, Cond.selects RX0 yX0_countRunning yX0_countRunning, Cond.code yX0_countRunning cX0_countRunning 6 (some .int), Cond.fieldLink RX0 18 "SnowPumps$Hill" "runs" "[Z", Cond.methodLink RX5 190 yX0_allSnow, Cond.instanceMethod yX0_allSnow]
def wsL_count_r3 : List Cond := [Cond.selects RX0 yX0_allSnow yX0_allSnow, Cond.code yX0_allSnow cX0_allSnow 1 (some .int), Cond.fieldLink RX0 9 "SnowPumps$Hill" "snow" "[I", Cond.static yX5_sum, Cond.code yX5_sum cX5_sum 6 (some .int), Cond.methodLink RX5 211 yX0_allIce, Cond.instanceMethod yX0_allIce, Cond.selects RX0 yX0_allIce yX0_allIce, Cond.code yX0_allIce cX0_allIce 1 (some .int), Cond.fieldLink RX0 15 "SnowPumps$Hill" "ice" "[I", Cond.methodLink RX5 248 yX1_countFalls, Cond.instanceMethod yX1_countFalls, Cond.selects RX1 yX1_countFalls yX1_countFalls, Cond.initialized RX1, Cond.code yX1_countFalls cX1_countFalls 1 (some .int), Cond.fieldLink RX1 21 "SnowPumps$Jumps" "fall" "[I"]
def wsL_count : List Cond := .codeWith yL_count cL_count 4 (some .int) [(0, 9, 12, 13)] :: ((wsL_count_r1 ++ (wsL_count_r2 ++ wsL_count_r3)) ++ wsX50 ++ wsX00 ++ wsX40 ++ wsX30 ++ wsX10 ++ (vx_atS RX5 57 "java/lang/IndexOutOfBoundsException" ["java/lang/RuntimeException", "java/lang/Exception"]).filter goodWord)
def wsL_pass_r1 : List Cond := [Cond.classLink RL 15 "java/lang/IllegalArgumentException", Cond.methodLink RL 53 yX5_pass, Cond.instanceMethod yX5_pass, Cond.selects RX5 yX5_pass yX5_pass, Cond.initialized RX5, Cond.code yX5_pass cX5_pass 3 (some .int), Cond.classLink RX5 60 "java/lang/IllegalArgumentException", Cond.initialized "java/lang/IllegalArgumentException", Cond.fieldLink RX5 28 "SnowPumps" "hill" "LSnowPumps$Hill;", Cond.methodLink RX5 49 yX5_isOutside, Cond.static yX5_isOutside, Cond.code yX5_isOutside cX5_isOutside 3 (some .boolean), Cond.methodLink RX5 190 yX0_allSnow, Cond.instanceMethod yX0_allSnow, Cond.selects RX0 yX0_allSnow yX0_allSnow, Cond.initialized RX0, Cond.code yX0_allSnow cX0_allSnow 1 (some .int), Cond.fieldLink RX0 9 "SnowPumps$Hill" "snow" "[I", Cond.static yX5_sum, Cond.code yX5_sum cX5_sum 6 (some .int), Cond.methodLink RX5 193 yX0_letHoursGoBy, Cond.instanceMethod yX0_letHoursGoBy, Cond.selects RX0 yX0_letHoursGoBy yX0_letHoursGoBy, Cond.code yX0_letHoursGoBy cX0_letHoursGoBy 3 none]
def wsL_pass_r2 : List Cond := [Cond.methodLink RX0 50 yX0_letHourGoBy, Cond.instanceMethod yX0_letHourGoBy, Cond.selects RX0 yX0_letHourGoBy yX0_letHourGoBy, Cond.code yX0_letHourGoBy cX0_letHourGoBy 5 none, Cond.fieldLink RX0 22 "SnowPumps$Hill" "weather" "LSnowPumps$Weather;", Cond.fieldLink RX0 57 "SnowPumps$Weather" "warmth" "[I", Cond.fieldLink RX0 18 "SnowPumps$Hill" "runs" "[Z", Cond.fieldLink RX0 26 "SnowPumps$Hill" "pumps" "LSnowPumps$Pumps;", Cond.fieldLink RX0 66 "SnowPumps$Pumps" "part" "[I", Cond.fieldLink RX0 71 "SnowPumps$Pumps" "flow" "[I", Cond.fieldLink RX0 34 "SnowPumps$Hill" "hour" "I", Cond.methodLink RX0 53 yX0_hourOfDay, Cond.instanceMethod yX0_hourOfDay, Cond.selects RX0 yX0_hourOfDay yX0_hourOfDay, Cond.code yX0_hourOfDay cX0_hourOfDay 1 (some .int), Cond.methodLink RX0 37 yJ9_floorMod_7cf53, Cond.static yJ9_floorMod_7cf53, Cond.initialized RJ9, Cond.code yJ9_floorMod_7cf53 cJ9_floorMod_7cf53 3 (some .int), Cond.methodLink RX0 62 yX4_wetCold, Cond.instanceMethod yX4_wetCold, Cond.selects RX4 yX4_wetCold yX4_wetCold, Cond.initialized RX4, Cond.code yX4_wetCold cX4_wetCold 2 (some .int)]
def wsL_pass_r3 : List Cond := [Cond.fieldLink RX4 9 "SnowPumps$Weather" "warmth" "[I", Cond.fieldLink RX4 15 "SnowPumps$Weather" "damp" "[I", Cond.methodLink RX0 74 yX0_work, Cond.instanceMethod yX0_work, Cond.selects RX0 yX0_work yX0_work, Cond.code yX0_work cX0_work 5 none, Cond.fieldLink RX0 30 "SnowPumps$Hill" "water" "I", Cond.methodLink RX0 85 Lib.Math.min.name, Cond.static Lib.Math.min.name, Cond.initialized "java/lang/Math", Cond.code Lib.Math.min.name Lib.Math.min.code 2 (some .int), Cond.methodLink RX0 82 yX0_addIce, Cond.instanceMethod yX0_addIce, Cond.selects RX0 yX0_addIce yX0_addIce, Cond.code yX0_addIce cX0_addIce 2 none, Cond.fieldLink RX0 15 "SnowPumps$Hill" "ice" "[I", Cond.methodLink RX0 88 yX0_addSnow, Cond.instanceMethod yX0_addSnow, Cond.selects RX0 yX0_addSnow yX0_addSnow, Cond.code yX0_addSnow cX0_addSnow 3 none, Cond.methodLink RX0 78 yX0_melt, Cond.instanceMethod yX0_melt, Cond.selects RX0 yX0_melt yX0_melt, Cond.code yX0_melt cX0_melt 3 none]
def wsL_pass_r4 : List Cond := [Cond.methodLink RX0 47 Lib.Math.max.name, Cond.static Lib.Math.max.name, Cond.code Lib.Math.max.name Lib.Math.max.code 2 (some .int), Cond.methodLink RX0 96 yX0_takeSnow, Cond.instanceMethod yX0_takeSnow, Cond.selects RX0 yX0_takeSnow yX0_takeSnow, Cond.code yX0_takeSnow cX0_takeSnow 3 none]
def wsL_pass : List Cond := .codeWith yL_pass cL_pass 4 (some .int) [(0, 9, 12, 15)] :: ((wsL_pass_r1 ++ (wsL_pass_r2 ++ (wsL_pass_r3 ++ wsL_pass_r4))) ++ wsX50 ++ wsX00 ++ wsX40 ++ wsX30 ++ (vx_atS RX5 64 "java/lang/IllegalArgumentException" ["java/lang/RuntimeException", "java/lang/Exception"]).filter goodWord)
def wsL_enough_r1 : List Cond := [Cond.classLink RL 13 "java/lang/IndexOutOfBoundsException", Cond.classLink RL 15 "java/lang/IllegalArgumentException", Cond.methodLink RL 56 yX5_enough, Cond.instanceMethod yX5_enough, Cond.selects RX5 yX5_enough yX5_enough, Cond.initialized RX5, Cond.code yX5_enough cX5_enough 4 (some .int), Cond.classLink RX5 53 "java/lang/IndexOutOfBoundsException", Cond.initialized "java/lang/IndexOutOfBoundsException", Cond.classLink RX5 60 "java/lang/IllegalArgumentException", Cond.initialized "java/lang/IllegalArgumentException", Cond.fieldLink RX5 32 "SnowPumps" "ahead" "LSnowPumps$Hill;", Cond.fieldLink RX5 28 "SnowPumps" "hill" "LSnowPumps$Hill;", Cond.fieldLink RX5 203 "SnowPumps$Hill" "snow" "[I", Cond.methodLink RX5 49 yX5_isOutside, Cond.static yX5_isOutside, Cond.code yX5_isOutside cX5_isOutside 3 (some .boolean), Cond.methodLink RX5 199 yX0_becomeLike, Cond.instanceMethod yX0_becomeLike, Cond.selects RX0 yX0_becomeLike yX0_becomeLike, Cond.initialized RX0, Cond.code yX0_becomeLike cX0_becomeLike 3 none, Cond.fieldLink RX0 9 "SnowPumps$Hill" "snow" "[I", Cond.fieldLink RX0 15 "SnowPumps$Hill" "ice" "[I"]
def wsL_enough_r2 : List Cond := [Cond.fieldLink RX0 18 "SnowPumps$Hill" "runs" "[Z", Cond.fieldLink RX0 30 "SnowPumps$Hill" "water" "I", Cond.fieldLink RX0 34 "SnowPumps$Hill" "hour" "I", Cond.methodLink RX5 206 yX0_letHourGoBy, Cond.instanceMethod yX0_letHourGoBy, Cond.selects RX0 yX0_letHourGoBy yX0_letHourGoBy, Cond.code yX0_letHourGoBy cX0_letHourGoBy 5 none, Cond.fieldLink RX0 22 "SnowPumps$Hill" "weather" "LSnowPumps$Weather;", Cond.fieldLink RX0 57 "SnowPumps$Weather" "warmth" "[I", Cond.fieldLink RX0 26 "SnowPumps$Hill" "pumps" "LSnowPumps$Pumps;", Cond.fieldLink RX0 66 "SnowPumps$Pumps" "part" "[I", Cond.fieldLink RX0 71 "SnowPumps$Pumps" "flow" "[I", Cond.methodLink RX0 53 yX0_hourOfDay, Cond.instanceMethod yX0_hourOfDay, Cond.selects RX0 yX0_hourOfDay yX0_hourOfDay, Cond.code yX0_hourOfDay cX0_hourOfDay 1 (some .int), Cond.methodLink RX0 37 yJ9_floorMod_7cf53, Cond.static yJ9_floorMod_7cf53, Cond.initialized RJ9, Cond.code yJ9_floorMod_7cf53 cJ9_floorMod_7cf53 3 (some .int), Cond.methodLink RX0 62 yX4_wetCold, Cond.instanceMethod yX4_wetCold, Cond.selects RX4 yX4_wetCold yX4_wetCold, Cond.initialized RX4]
def wsL_enough_r3 : List Cond := [Cond.code yX4_wetCold cX4_wetCold 2 (some .int), Cond.fieldLink RX4 9 "SnowPumps$Weather" "warmth" "[I", Cond.fieldLink RX4 15 "SnowPumps$Weather" "damp" "[I", Cond.methodLink RX0 74 yX0_work, Cond.instanceMethod yX0_work, Cond.selects RX0 yX0_work yX0_work, Cond.code yX0_work cX0_work 5 none, Cond.methodLink RX0 85 Lib.Math.min.name, Cond.static Lib.Math.min.name, Cond.initialized "java/lang/Math", Cond.code Lib.Math.min.name Lib.Math.min.code 2 (some .int), Cond.methodLink RX0 82 yX0_addIce, Cond.instanceMethod yX0_addIce, Cond.selects RX0 yX0_addIce yX0_addIce, Cond.code yX0_addIce cX0_addIce 2 none, Cond.methodLink RX0 88 yX0_addSnow, Cond.instanceMethod yX0_addSnow, Cond.selects RX0 yX0_addSnow yX0_addSnow, Cond.code yX0_addSnow cX0_addSnow 3 none, Cond.methodLink RX0 78 yX0_melt, Cond.instanceMethod yX0_melt, Cond.selects RX0 yX0_melt yX0_melt, Cond.code yX0_melt cX0_melt 3 none, Cond.methodLink RX0 47 Lib.Math.max.name]
def wsL_enough_r4 : List Cond := [Cond.static Lib.Math.max.name, Cond.code Lib.Math.max.name Lib.Math.max.code 2 (some .int), Cond.methodLink RX0 96 yX0_takeSnow, Cond.instanceMethod yX0_takeSnow, Cond.selects RX0 yX0_takeSnow yX0_takeSnow, Cond.code yX0_takeSnow cX0_takeSnow 3 none]
def wsL_enough : List Cond := .codeWith yL_enough cL_enough 5 (some .int) [(0, 10, 13, 13), (0, 10, 17, 15)] :: ((wsL_enough_r1 ++ (wsL_enough_r2 ++ (wsL_enough_r3 ++ wsL_enough_r4))) ++ wsX50 ++ wsX00 ++ wsX40 ++ wsX30 ++ (vx_atS RX5 57 "java/lang/IndexOutOfBoundsException" ["java/lang/RuntimeException", "java/lang/Exception"]).filter goodWord ++ (vx_atS RX5 64 "java/lang/IllegalArgumentException" ["java/lang/RuntimeException", "java/lang/Exception"]).filter goodWord)
def wsL_foresee_r1 : List Cond := [Cond.classLink RL 15 "java/lang/IllegalArgumentException", Cond.classLink RL 13 "java/lang/IndexOutOfBoundsException", Cond.methodLink RL 59 yX5_foresee, Cond.instanceMethod yX5_foresee, Cond.selects RX5 yX5_foresee yX5_foresee, Cond.initialized RX5, Cond.code yX5_foresee cX5_foresee 3 (some .int), Cond.classLink RX5 60 "java/lang/IllegalArgumentException", Cond.initialized "java/lang/IllegalArgumentException", Cond.classLink RX5 53 "java/lang/IndexOutOfBoundsException", Cond.initialized "java/lang/IndexOutOfBoundsException", Cond.fieldLink RX5 32 "SnowPumps" "ahead" "LSnowPumps$Hill;", Cond.fieldLink RX5 28 "SnowPumps" "hill" "LSnowPumps$Hill;", Cond.fieldLink RX5 108 "SnowPumps$Hill" "water" "I", Cond.methodLink RX5 49 yX5_isOutside, Cond.static yX5_isOutside, Cond.code yX5_isOutside cX5_isOutside 3 (some .boolean), Cond.methodLink RX5 199 yX0_becomeLike, Cond.instanceMethod yX0_becomeLike, Cond.selects RX0 yX0_becomeLike yX0_becomeLike, Cond.initialized RX0, Cond.code yX0_becomeLike cX0_becomeLike 3 none, Cond.fieldLink RX0 9 "SnowPumps$Hill" "snow" "[I", Cond.fieldLink RX0 15 "SnowPumps$Hill" "ice" "[I"]
def wsL_foresee_r2 : List Cond := [Cond.fieldLink RX0 18 "SnowPumps$Hill" "runs" "[Z", Cond.fieldLink RX0 30 "SnowPumps$Hill" "water" "I", Cond.fieldLink RX0 34 "SnowPumps$Hill" "hour" "I", Cond.methodLink RX5 193 yX0_letHoursGoBy, Cond.instanceMethod yX0_letHoursGoBy, Cond.selects RX0 yX0_letHoursGoBy yX0_letHoursGoBy, Cond.code yX0_letHoursGoBy cX0_letHoursGoBy 3 none, Cond.methodLink RX0 50 yX0_letHourGoBy, Cond.instanceMethod yX0_letHourGoBy, Cond.selects RX0 yX0_letHourGoBy yX0_letHourGoBy, Cond.code yX0_letHourGoBy cX0_letHourGoBy 5 none, Cond.fieldLink RX0 22 "SnowPumps$Hill" "weather" "LSnowPumps$Weather;", Cond.fieldLink RX0 57 "SnowPumps$Weather" "warmth" "[I", Cond.fieldLink RX0 26 "SnowPumps$Hill" "pumps" "LSnowPumps$Pumps;", Cond.fieldLink RX0 66 "SnowPumps$Pumps" "part" "[I", Cond.fieldLink RX0 71 "SnowPumps$Pumps" "flow" "[I", Cond.methodLink RX0 53 yX0_hourOfDay, Cond.instanceMethod yX0_hourOfDay, Cond.selects RX0 yX0_hourOfDay yX0_hourOfDay, Cond.code yX0_hourOfDay cX0_hourOfDay 1 (some .int), Cond.methodLink RX0 37 yJ9_floorMod_7cf53, Cond.static yJ9_floorMod_7cf53, Cond.initialized RJ9, Cond.code yJ9_floorMod_7cf53 cJ9_floorMod_7cf53 3 (some .int)]
def wsL_foresee_r3 : List Cond := [Cond.methodLink RX0 62 yX4_wetCold, Cond.instanceMethod yX4_wetCold, Cond.selects RX4 yX4_wetCold yX4_wetCold, Cond.initialized RX4, Cond.code yX4_wetCold cX4_wetCold 2 (some .int), Cond.fieldLink RX4 9 "SnowPumps$Weather" "warmth" "[I", Cond.fieldLink RX4 15 "SnowPumps$Weather" "damp" "[I", Cond.methodLink RX0 74 yX0_work, Cond.instanceMethod yX0_work, Cond.selects RX0 yX0_work yX0_work, Cond.code yX0_work cX0_work 5 none, Cond.methodLink RX0 85 Lib.Math.min.name, Cond.static Lib.Math.min.name, Cond.initialized "java/lang/Math", Cond.code Lib.Math.min.name Lib.Math.min.code 2 (some .int), Cond.methodLink RX0 82 yX0_addIce, Cond.instanceMethod yX0_addIce, Cond.selects RX0 yX0_addIce yX0_addIce, Cond.code yX0_addIce cX0_addIce 2 none, Cond.methodLink RX0 88 yX0_addSnow, Cond.instanceMethod yX0_addSnow, Cond.selects RX0 yX0_addSnow yX0_addSnow, Cond.code yX0_addSnow cX0_addSnow 3 none, Cond.methodLink RX0 78 yX0_melt]
def wsL_foresee_r4 : List Cond := [Cond.instanceMethod yX0_melt, Cond.selects RX0 yX0_melt yX0_melt, Cond.code yX0_melt cX0_melt 3 none, Cond.methodLink RX0 47 Lib.Math.max.name, Cond.static Lib.Math.max.name, Cond.code Lib.Math.max.name Lib.Math.max.code 2 (some .int), Cond.methodLink RX0 96 yX0_takeSnow, Cond.instanceMethod yX0_takeSnow, Cond.selects RX0 yX0_takeSnow yX0_takeSnow, Cond.code yX0_takeSnow cX0_takeSnow 3 none, Cond.methodLink RX5 190 yX0_allSnow, Cond.instanceMethod yX0_allSnow, Cond.selects RX0 yX0_allSnow yX0_allSnow, Cond.code yX0_allSnow cX0_allSnow 1 (some .int), Cond.static yX5_sum, Cond.code yX5_sum cX5_sum 6 (some .int), Cond.methodLink RX5 211 yX0_allIce, Cond.instanceMethod yX0_allIce, Cond.selects RX0 yX0_allIce yX0_allIce, Cond.code yX0_allIce cX0_allIce 1 (some .int)]
def wsL_foresee : List Cond := .codeWith yL_foresee cL_foresee 5 (some .int) [(0, 10, 13, 15), (0, 10, 17, 13)] :: ((wsL_foresee_r1 ++ (wsL_foresee_r2 ++ (wsL_foresee_r3 ++ wsL_foresee_r4))) ++ wsX50 ++ wsX00 ++ wsX40 ++ wsX30 ++ (vx_atS RX5 64 "java/lang/IllegalArgumentException" ["java/lang/RuntimeException", "java/lang/Exception"]).filter goodWord ++ (vx_atS RX5 57 "java/lang/IndexOutOfBoundsException" ["java/lang/RuntimeException", "java/lang/Exception"]).filter goodWord)
def wsL_gate_r1 : List Cond := [Cond.classLink RL 15 "java/lang/IllegalArgumentException", Cond.methodLink RL 62 yX5_gate, Cond.instanceMethod yX5_gate, Cond.selects RX5 yX5_gate yX5_gate, Cond.initialized RX5, Cond.code yX5_gate cX5_gate 4 (some .int), Cond.classLink RX5 60 "java/lang/IllegalArgumentException", Cond.initialized "java/lang/IllegalArgumentException", Cond.fieldLink RX5 10 "SnowPumps" "weather" "LSnowPumps$Weather;", Cond.fieldLink RX5 76 "SnowPumps$Weather" "gust" "[I", Cond.fieldLink RX5 28 "SnowPumps" "hill" "LSnowPumps$Hill;", Cond.methodLink RX5 49 yX5_isOutside, Cond.static yX5_isOutside, Cond.code yX5_isOutside cX5_isOutside 3 (some .boolean), Cond.methodLink RX5 141 yX0_hourOfDay, Cond.instanceMethod yX0_hourOfDay, Cond.selects RX0 yX0_hourOfDay yX0_hourOfDay, Cond.initialized RX0, Cond.code yX0_hourOfDay cX0_hourOfDay 1 (some .int), Cond.fieldLink RX0 34 "SnowPumps$Hill" "hour" "I", Cond.methodLink RX0 37 yJ9_floorMod_7cf53, Cond.static yJ9_floorMod_7cf53, Cond.initialized RJ9, Cond.code yJ9_floorMod_7cf53 cJ9_floorMod_7cf53 3 (some .int)]
def wsL_gate_r2 : List Cond := [Cond.methodLink RX5 145 yX5_lengthFrom, Cond.static yX5_lengthFrom, Cond.code yX5_lengthFrom cX5_lengthFrom 3 (some .int), Cond.methodLink RX5 251 yX5_hold, Cond.static yX5_hold, Cond.code yX5_hold cX5_hold 3 (some .int), Cond.methodLink RX5 111 Lib.Math.min.name, Cond.static Lib.Math.min.name, Cond.initialized "java/lang/Math", Cond.code Lib.Math.min.name Lib.Math.min.code 2 (some .int), Cond.methodLink RX5 254 Lib.Math.max.name, Cond.static Lib.Math.max.name, Cond.code Lib.Math.max.name Lib.Math.max.code 2 (some .int), Cond.methodLink RX5 149 yX0_fallsAt, Cond.instanceMethod yX0_fallsAt, Cond.selects RX0 yX0_fallsAt yX0_fallsAt, Cond.code yX0_fallsAt cX0_fallsAt 2 (some .boolean), Cond.fieldLink RX0 9 "SnowPumps$Hill" "snow" "[I", Cond.fieldLink RX0 15 "SnowPumps$Hill" "ice" "[I"]
def wsL_gate : List Cond := .codeWith yL_gate cL_gate 4 (some .int) [(0, 9, 12, 15)] :: ((wsL_gate_r1 ++ wsL_gate_r2) ++ wsX50 ++ wsX40 ++ wsX00 ++ (vx_atS RX5 64 "java/lang/IllegalArgumentException" ["java/lang/RuntimeException", "java/lang/Exception"]).filter goodWord)
def wsL_advise_r1 : List Cond := [Cond.classLink RL 15 "java/lang/IllegalArgumentException", Cond.methodLink RL 65 yX5_advise, Cond.instanceMethod yX5_advise, Cond.selects RX5 yX5_advise yX5_advise, Cond.initialized RX5, Cond.code yX5_advise cX5_advise 6 (some .int), Cond.classLink RX5 60 "java/lang/IllegalArgumentException", Cond.initialized "java/lang/IllegalArgumentException", Cond.fieldLink RX5 32 "SnowPumps" "ahead" "LSnowPumps$Hill;", Cond.fieldLink RX5 28 "SnowPumps" "hill" "LSnowPumps$Hill;", Cond.fieldLink RX5 19 "SnowPumps" "pumps" "LSnowPumps$Pumps;", Cond.fieldLink RX5 87 "SnowPumps$Pumps" "count" "I", Cond.fieldLink RX5 102 "SnowPumps$Hill" "runs" "[Z", Cond.methodLink RX5 49 yX5_isOutside, Cond.static yX5_isOutside, Cond.code yX5_isOutside cX5_isOutside 3 (some .boolean), Cond.methodLink RX5 199 yX0_becomeLike, Cond.instanceMethod yX0_becomeLike, Cond.selects RX0 yX0_becomeLike yX0_becomeLike, Cond.initialized RX0, Cond.code yX0_becomeLike cX0_becomeLike 3 none, Cond.fieldLink RX0 9 "SnowPumps$Hill" "snow" "[I", Cond.fieldLink RX0 15 "SnowPumps$Hill" "ice" "[I", Cond.fieldLink RX0 18 "SnowPumps$Hill" "runs" "[Z"]
def wsL_advise_r2 : List Cond := [Cond.fieldLink RX0 30 "SnowPumps$Hill" "water" "I", Cond.fieldLink RX0 34 "SnowPumps$Hill" "hour" "I", Cond.methodLink RX5 193 yX0_letHoursGoBy, Cond.instanceMethod yX0_letHoursGoBy, Cond.selects RX0 yX0_letHoursGoBy yX0_letHoursGoBy, Cond.code yX0_letHoursGoBy cX0_letHoursGoBy 3 none, Cond.methodLink RX0 50 yX0_letHourGoBy, Cond.instanceMethod yX0_letHourGoBy, Cond.selects RX0 yX0_letHourGoBy yX0_letHourGoBy, Cond.code yX0_letHourGoBy cX0_letHourGoBy 5 none, Cond.fieldLink RX0 22 "SnowPumps$Hill" "weather" "LSnowPumps$Weather;", Cond.fieldLink RX0 57 "SnowPumps$Weather" "warmth" "[I", Cond.fieldLink RX0 26 "SnowPumps$Hill" "pumps" "LSnowPumps$Pumps;", Cond.fieldLink RX0 66 "SnowPumps$Pumps" "part" "[I", Cond.fieldLink RX0 71 "SnowPumps$Pumps" "flow" "[I", Cond.methodLink RX0 53 yX0_hourOfDay, Cond.instanceMethod yX0_hourOfDay, Cond.selects RX0 yX0_hourOfDay yX0_hourOfDay, Cond.code yX0_hourOfDay cX0_hourOfDay 1 (some .int), Cond.methodLink RX0 37 yJ9_floorMod_7cf53, Cond.static yJ9_floorMod_7cf53, Cond.initialized RJ9, Cond.code yJ9_floorMod_7cf53 cJ9_floorMod_7cf53 3 (some .int), Cond.methodLink RX0 62 yX4_wetCold]
def wsL_advise_r3 : List Cond := [Cond.instanceMethod yX4_wetCold, Cond.selects RX4 yX4_wetCold yX4_wetCold, Cond.initialized RX4, Cond.code yX4_wetCold cX4_wetCold 2 (some .int), Cond.fieldLink RX4 9 "SnowPumps$Weather" "warmth" "[I", Cond.fieldLink RX4 15 "SnowPumps$Weather" "damp" "[I", Cond.methodLink RX0 74 yX0_work, Cond.instanceMethod yX0_work, Cond.selects RX0 yX0_work yX0_work, Cond.code yX0_work cX0_work 5 none, Cond.methodLink RX0 85 Lib.Math.min.name, Cond.static Lib.Math.min.name, Cond.initialized "java/lang/Math", Cond.code Lib.Math.min.name Lib.Math.min.code 2 (some .int), Cond.methodLink RX0 82 yX0_addIce, Cond.instanceMethod yX0_addIce, Cond.selects RX0 yX0_addIce yX0_addIce, Cond.code yX0_addIce cX0_addIce 2 none, Cond.methodLink RX0 88 yX0_addSnow, Cond.instanceMethod yX0_addSnow, Cond.selects RX0 yX0_addSnow yX0_addSnow, Cond.code yX0_addSnow cX0_addSnow 3 none, Cond.methodLink RX0 78 yX0_melt, Cond.instanceMethod yX0_melt]
def wsL_advise_r4 : List Cond := [Cond.selects RX0 yX0_melt yX0_melt, Cond.code yX0_melt cX0_melt 3 none, Cond.methodLink RX0 47 Lib.Math.max.name, Cond.static Lib.Math.max.name, Cond.code Lib.Math.max.name Lib.Math.max.code 2 (some .int), Cond.methodLink RX0 96 yX0_takeSnow, Cond.instanceMethod yX0_takeSnow, Cond.selects RX0 yX0_takeSnow yX0_takeSnow, Cond.code yX0_takeSnow cX0_takeSnow 3 none, Cond.methodLink RX5 190 yX0_allSnow, Cond.instanceMethod yX0_allSnow, Cond.selects RX0 yX0_allSnow yX0_allSnow, Cond.code yX0_allSnow cX0_allSnow 1 (some .int), Cond.static yX5_sum, Cond.code yX5_sum cX5_sum 6 (some .int), Cond.methodLink RX5 214 yX5_snowWithPump, Cond.instanceMethod yX5_snowWithPump, Cond.selects RX5 yX5_snowWithPump yX5_snowWithPump, Cond.code yX5_snowWithPump cX5_snowWithPump 3 (some .int)]
def wsL_advise : List Cond := .codeWith yL_advise cL_advise 4 (some .int) [(0, 9, 12, 15)] :: ((wsL_advise_r1 ++ (wsL_advise_r2 ++ (wsL_advise_r3 ++ wsL_advise_r4))) ++ wsX50 ++ wsX30 ++ wsX00 ++ wsX40 ++ (vx_atS RX5 64 "java/lang/IllegalArgumentException" ["java/lang/RuntimeException", "java/lang/Exception"]).filter goodWord)
def wsL_law0_r1 : List Cond := [Cond.classLink RL 8 RX5, Cond.instantiable RX5 6, Cond.initialized RX5, Cond.classLink RL 69 RX7, Cond.instantiable RX7 12, Cond.initialized RX7, Cond.arrayClass .long, Cond.methodLink RL 68 yX5_init, Cond.instanceMethod yX5_init, Cond.code yX5_init cX5_init 1 none, Cond.methodLink RX5 1 objectInit, Cond.instanceMethod objectInit, Cond.code objectInit ⟨#[0xb1]⟩ 1 none, Cond.classLink RX5 7 RX4, Cond.instantiable RX4 3, Cond.initialized RX4, Cond.fieldLink RX5 10 "SnowPumps" "weather" "LSnowPumps$Weather;", Cond.classLink RX5 16 RX3, Cond.instantiable RX3 3, Cond.initialized RX3, Cond.fieldLink RX5 19 "SnowPumps" "pumps" "LSnowPumps$Pumps;", Cond.classLink RX5 23 RX0, Cond.instantiable RX0 7, Cond.initialized RX0]
def wsL_law0_r2 : List Cond := [Cond.fieldLink RX5 28 "SnowPumps" "hill" "LSnowPumps$Hill;", Cond.fieldLink RX5 32 "SnowPumps" "ahead" "LSnowPumps$Hill;", Cond.classLink RX5 35 RX2, Cond.instantiable RX2 1, Cond.initialized RX2, Cond.fieldLink RX5 38 "SnowPumps" "jury" "LSnowPumps$Jury;", Cond.classLink RX5 42 RX1, Cond.instantiable RX1 6, Cond.initialized RX1, Cond.fieldLink RX5 45 "SnowPumps" "jumps" "LSnowPumps$Jumps;", Cond.methodLink RX5 9 yX4_init, Cond.instanceMethod yX4_init, Cond.code yX4_init cX4_init 2 none, Cond.methodLink RX4 3 objectInit, Cond.arrayClass .int, Cond.fieldLink RX4 9 "SnowPumps$Weather" "warmth" "[I", Cond.fieldLink RX4 15 "SnowPumps$Weather" "damp" "[I", Cond.fieldLink RX4 18 "SnowPumps$Weather" "gust" "[I", Cond.instanceMethod yX3_init, Cond.code yX3_init cX3_init 1 none, Cond.methodLink RX3 3 objectInit, Cond.fieldLink RX3 9 "SnowPumps$Pumps" "part" "[I", Cond.fieldLink RX3 15 "SnowPumps$Pumps" "flow" "[I", Cond.methodLink RX5 25 yX0_init]
def wsL_law0_r3 : List Cond := [Cond.instanceMethod yX0_init, Cond.code yX0_init cX0_init 3 none, Cond.methodLink RX0 3 objectInit, Cond.fieldLink RX0 9 "SnowPumps$Hill" "snow" "[I", Cond.fieldLink RX0 15 "SnowPumps$Hill" "ice" "[I", Cond.arrayClass .boolean, Cond.fieldLink RX0 18 "SnowPumps$Hill" "runs" "[Z", Cond.fieldLink RX0 22 "SnowPumps$Hill" "weather" "LSnowPumps$Weather;", Cond.fieldLink RX0 26 "SnowPumps$Hill" "pumps" "LSnowPumps$Pumps;", Cond.methodLink RX5 37 yX2_init, Cond.instanceMethod yX2_init, Cond.code yX2_init cX2_init 2 none, Cond.methodLink RX2 3 objectInit, Cond.fieldLink RX2 9 "SnowPumps$Jury" "strict" "[I", Cond.instanceMethod yX1_init, Cond.code yX1_init cX1_init 1 none, Cond.methodLink RX1 3 objectInit, Cond.fieldLink RX1 9 "SnowPumps$Jumps" "jumper" "[I", Cond.fieldLink RX1 15 "SnowPumps$Jumps" "length" "[I", Cond.fieldLink RX1 18 "SnowPumps$Jumps" "points" "[I", Cond.fieldLink RX1 21 "SnowPumps$Jumps" "fall" "[I", Cond.fieldLink RX1 24 "SnowPumps$Jumps" "hour" "[I", Cond.methodLink RL 71 yX7_init, Cond.instanceMethod yX7_init]
def wsL_law0_r4 : List Cond := [Cond.code yX7_init cX7_init 2 none, Cond.methodLink RX7 1 objectInit, Cond.fieldLink RX7 9 "SnowPumpsModel" "warmth" "[I", Cond.fieldLink RX7 13 "SnowPumpsModel" "damp" "[I", Cond.fieldLink RX7 16 "SnowPumpsModel" "gust" "[I", Cond.fieldLink RX7 19 "SnowPumpsModel" "part" "[I", Cond.fieldLink RX7 22 "SnowPumpsModel" "flow" "[I", Cond.fieldLink RX7 25 "SnowPumpsModel" "strict" "[I", Cond.fieldLink RX7 28 "SnowPumpsModel" "book" "[I", Cond.classLink RX7 31 RX6, Cond.instantiable RX6 5, Cond.initialized RX6, Cond.fieldLink RX7 34 "SnowPumpsModel" "s" "LSnowPumpsModel$State;", Cond.fieldLink RX7 38 "SnowPumpsModel" "ahead" "LSnowPumpsModel$State;", Cond.instanceMethod yX6_init, Cond.code yX6_init cX6_init 1 none, Cond.methodLink RX6 3 objectInit, Cond.fieldLink RX6 9 "SnowPumpsModel$State" "snow" "[I", Cond.fieldLink RX6 15 "SnowPumpsModel$State" "ice" "[I", Cond.fieldLink RX6 18 "SnowPumpsModel$State" "runs" "[I", Cond.methodLink RL 72 yL_setWeather, Cond.static yL_setWeather, Cond.initialized RL, Cond.codeWith yL_setWeather cL_setWeather 7 (some .int) [(0, 14, 17, 13), (0, 14, 21, 15)]]
def wsL_law0_r5 : List Cond := [Cond.classLink RL 13 "java/lang/IndexOutOfBoundsException", Cond.classLink RL 15 "java/lang/IllegalArgumentException", Cond.methodLink RL 7 yX5_setWeather, Cond.instanceMethod yX5_setWeather, Cond.selects RX5 yX5_setWeather yX5_setWeather, Cond.code yX5_setWeather cX5_setWeather 5 (some .int), Cond.classLink RX5 53 "java/lang/IndexOutOfBoundsException", Cond.initialized "java/lang/IndexOutOfBoundsException", Cond.classLink RX5 60 "java/lang/IllegalArgumentException", Cond.initialized "java/lang/IllegalArgumentException", Cond.fieldLink RX5 69 "SnowPumps$Weather" "warmth" "[I", Cond.fieldLink RX5 73 "SnowPumps$Weather" "damp" "[I", Cond.fieldLink RX5 76 "SnowPumps$Weather" "gust" "[I", Cond.methodLink RX5 49 yX5_isOutside, Cond.static yX5_isOutside, Cond.code yX5_isOutside cX5_isOutside 3 (some .boolean), Cond.methodLink RX5 79 yX4_wetCold, Cond.instanceMethod yX4_wetCold, Cond.selects RX4 yX4_wetCold yX4_wetCold, Cond.code yX4_wetCold cX4_wetCold 2 (some .int), Cond.methodLink RL 77 yX7_setWeather, Cond.instanceMethod yX7_setWeather, Cond.selects RX7 yX7_setWeather yX7_setWeather, Cond.code yX7_setWeather cX7_setWeather 5 (some .int)]
def wsL_law0_r6 : List Cond := [Cond.fieldLink RX7 41 "SnowPumpsModel" "thrown" "I", Cond.methodLink RX7 45 yX7_isIn, Cond.static yX7_isIn, Cond.code yX7_isIn cX7_isIn 3 (some .boolean), Cond.methodLink RX7 88 yX7_no, Cond.instanceMethod yX7_no, Cond.selects RX7 yX7_no yX7_no, Cond.code yX7_no cX7_no 2 (some .int), Cond.methodLink RX7 74 yX7_wet, Cond.instanceMethod yX7_wet, Cond.selects RX7 yX7_wet yX7_wet, Cond.code yX7_wet cX7_wet 2 (some .int), Cond.methodLink RL 78 yX7_thrown, Cond.instanceMethod yX7_thrown, Cond.selects RX7 yX7_thrown yX7_thrown, Cond.code yX7_thrown cX7_thrown 1 (some .int), Cond.methodLink RL 82 yL_pump, Cond.static yL_pump, Cond.codeWith yL_pump cL_pump 5 (some .int) [(0, 10, 13, 13), (0, 10, 17, 15), (0, 10, 21, 21)], Cond.classLink RL 21 "java/lang/IllegalStateException", Cond.methodLink RL 17 yX5_pump, Cond.instanceMethod yX5_pump, Cond.selects RX5 yX5_pump yX5_pump, Cond.code yX5_pump cX5_pump 3 (some .int)]
def wsL_law0_r7 : List Cond := [Cond.classLink RX5 91 "java/lang/IllegalStateException", Cond.initialized "java/lang/IllegalStateException", Cond.fieldLink RX5 87 "SnowPumps$Pumps" "count" "I", Cond.methodLink RX5 96 yX3_setUp, Cond.instanceMethod yX3_setUp, Cond.selects RX3 yX3_setUp yX3_setUp, Cond.code yX3_setUp cX3_setUp 4 (some .int), Cond.fieldLink RX3 18 "SnowPumps$Pumps" "count" "I", Cond.methodLink RL 85 yX7_pump, Cond.instanceMethod yX7_pump, Cond.selects RX7 yX7_pump yX7_pump, Cond.code yX7_pump cX7_pump 3 (some .int), Cond.fieldLink RX7 49 "SnowPumpsModel" "pumps" "I", Cond.methodLink RX7 91 yX7_isPart, Cond.static yX7_isPart, Cond.code yX7_isPart cX7_isPart 1 (some .boolean), Cond.methodLink RL 86 yL_run, Cond.static yL_run, Cond.codeWith yL_run cL_run 4 (some .int) [(0, 16, 19, 13)], Cond.methodLink RL 23 yX5_run, Cond.instanceMethod yX5_run, Cond.selects RX5 yX5_run yX5_run, Cond.code yX5_run cX5_run 2 (some .boolean), Cond.fieldLink RX5 102 "SnowPumps$Hill" "runs" "[Z"]
def wsL_law0_r8 : List Cond := [Cond.methodLink RL 89 yX7_run, Cond.instanceMethod yX7_run, Cond.selects RX7 yX7_run yX7_run, Cond.code yX7_run cX7_run 2 (some .boolean), Cond.methodLink RX7 95 yX7_isPump, Cond.instanceMethod yX7_isPump, Cond.selects RX7 yX7_isPump yX7_isPump, Cond.code yX7_isPump cX7_isPump 2 (some .boolean), Cond.methodLink RL 90 yL_fill, Cond.static yL_fill, Cond.codeWith yL_fill cL_fill 4 (some .int) [(0, 9, 12, 15)], Cond.methodLink RL 27 yX5_fill, Cond.instanceMethod yX5_fill, Cond.selects RX5 yX5_fill yX5_fill, Cond.code yX5_fill cX5_fill 2 (some .int), Cond.fieldLink RX5 108 "SnowPumps$Hill" "water" "I", Cond.methodLink RX5 111 Lib.Math.min.name, Cond.static Lib.Math.min.name, Cond.initialized "java/lang/Math", Cond.code Lib.Math.min.name Lib.Math.min.code 2 (some .int), Cond.methodLink RL 92 yX7_fill, Cond.instanceMethod yX7_fill, Cond.selects RX7 yX7_fill yX7_fill, Cond.code yX7_fill cX7_fill 2 (some .int)]
def wsL_law0_r9 : List Cond := [Cond.methodLink RX7 61 Lib.Math.min.name, Cond.methodLink RL 93 yL_groom, Cond.static yL_groom, Cond.codeWith yL_groom cL_groom 5 (some .int) [(0, 10, 13, 13), (0, 10, 17, 15)], Cond.methodLink RL 31 yX5_groom, Cond.instanceMethod yX5_groom, Cond.selects RX5 yX5_groom yX5_groom, Cond.code yX5_groom cX5_groom 3 (some .int), Cond.methodLink RX5 122 yX0_spreadSnow, Cond.instanceMethod yX0_spreadSnow, Cond.selects RX0 yX0_spreadSnow yX0_spreadSnow, Cond.code yX0_spreadSnow cX0_spreadSnow 8 (some .int), Cond.methodLink RL 95 yX7_groom, Cond.instanceMethod yX7_groom, Cond.selects RX7 yX7_groom yX7_groom, Cond.code yX7_groom cX7_groom 6 (some .int), Cond.methodLink RL 96 yL_judge, Cond.static yL_judge, Cond.codeWith yL_judge cL_judge 5 (some .int) [(0, 10, 13, 13), (0, 10, 17, 15)], Cond.methodLink RL 34 yX5_judge, Cond.instanceMethod yX5_judge, Cond.selects RX5 yX5_judge yX5_judge, Cond.code yX5_judge cX5_judge 4 (some .int), Cond.fieldLink RX5 129 "SnowPumps$Jury" "strict" "[I"]
def wsL_law0_r10 : List Cond := [Cond.methodLink RL 98 yX7_judge, Cond.instanceMethod yX7_judge, Cond.selects RX7 yX7_judge yX7_judge, Cond.code yX7_judge cX7_judge 4 (some .int), Cond.methodLink RL 99 yL_jump, Cond.static yL_jump, Cond.codeWith yL_jump cL_jump 6 (some .int) [(0, 12, 15, 15), (0, 12, 19, 21)], Cond.methodLink RL 37 yX5_jump, Cond.instanceMethod yX5_jump, Cond.selects RX5 yX5_jump yX5_jump, Cond.code yX5_jump cX5_jump 8 (some .int), Cond.fieldLink RX5 138 "SnowPumps$Jumps" "count" "I", Cond.fieldLink RX5 161 "SnowPumps$Hill" "hour" "I", Cond.methodLink RX5 141 yX0_hourOfDay, Cond.instanceMethod yX0_hourOfDay, Cond.selects RX0 yX0_hourOfDay yX0_hourOfDay, Cond.code yX0_hourOfDay cX0_hourOfDay 1 (some .int), Cond.fieldLink RX0 34 "SnowPumps$Hill" "hour" "I", Cond.methodLink RX0 37 yJ9_floorMod_7cf53, Cond.static yJ9_floorMod_7cf53, Cond.initialized RJ9, Cond.code yJ9_floorMod_7cf53 cJ9_floorMod_7cf53 3 (some .int), Cond.methodLink RX5 145 yX5_lengthFrom, Cond.static yX5_lengthFrom]
def wsL_law0_r11 : List Cond := [Cond.code yX5_lengthFrom cX5_lengthFrom 3 (some .int), Cond.methodLink RX5 251 yX5_hold, Cond.static yX5_hold, Cond.code yX5_hold cX5_hold 3 (some .int), Cond.methodLink RX5 254 Lib.Math.max.name, Cond.static Lib.Math.max.name, Cond.code Lib.Math.max.name Lib.Math.max.code 2 (some .int), Cond.methodLink RX5 149 yX0_fallsAt, Cond.instanceMethod yX0_fallsAt, Cond.selects RX0 yX0_fallsAt yX0_fallsAt, Cond.code yX0_fallsAt cX0_fallsAt 2 (some .boolean), Cond.methodLink RX5 153 yX0_takeSnow, Cond.instanceMethod yX0_takeSnow, Cond.selects RX0 yX0_takeSnow yX0_takeSnow, Cond.code yX0_takeSnow cX0_takeSnow 3 none, Cond.methodLink RX0 47 Lib.Math.max.name, Cond.methodLink RX5 157 yX2_marks, Cond.instanceMethod yX2_marks, Cond.selects RX2 yX2_marks yX2_marks, Cond.code yX2_marks cX2_marks 10 (some .int), Cond.methodLink RX2 15 Lib.Math.abs.name, Cond.static Lib.Math.abs.name, Cond.code Lib.Math.abs.name Lib.Math.abs.code 1 (some .int), Cond.methodLink RX2 25 Lib.Math.max.name]
def wsL_law0_r12 : List Cond := [Cond.methodLink RX2 29 Lib.Math.min.name, Cond.methodLink RX5 164 yX1_add, Cond.instanceMethod yX1_add, Cond.selects RX1 yX1_add yX1_add, Cond.code yX1_add cX1_add 7 (some .int), Cond.fieldLink RX1 27 "SnowPumps$Jumps" "count" "I", Cond.methodLink RL 102 yX7_jump, Cond.instanceMethod yX7_jump, Cond.selects RX7 yX7_jump yX7_jump, Cond.code yX7_jump cX7_jump 15 (some .int), Cond.fieldLink RX7 102 "SnowPumpsModel" "jumps" "I", Cond.methodLink RX7 111 Lib.Math.abs.name, Cond.methodLink RX7 85 Lib.Math.max.name, Cond.methodLink RX7 114 arraycopyName, Cond.native arraycopyName, Cond.static arraycopyName, Cond.initialized "java/lang/System", Cond.methodLink RX7 105 yX7_length, Cond.instanceMethod yX7_length, Cond.selects RX7 yX7_length yX7_length, Cond.code yX7_length cX7_length 3 (some .int), Cond.methodLink RX7 98 yX7_gustNow, Cond.instanceMethod yX7_gustNow, Cond.selects RX7 yX7_gustNow yX7_gustNow]
def wsL_law0_r13 : List Cond := [Cond.code yX7_gustNow cX7_gustNow 1 (some .int), Cond.methodLink RX7 108 yX6_isBad, Cond.instanceMethod yX6_isBad, Cond.selects RX6 yX6_isBad yX6_isBad, Cond.code yX6_isBad cX6_isBad 2 (some .boolean), Cond.methodLink RL 103 yL_told, Cond.static yL_told, Cond.codeWith yL_told cL_told 5 (some .int) [(0, 10, 13, 13)], Cond.methodLink RL 41 yX5_told, Cond.instanceMethod yX5_told, Cond.selects RX5 yX5_told yX5_told, Cond.code yX5_told cX5_told 3 (some .int), Cond.methodLink RX5 172 yX1_tell, Cond.instanceMethod yX1_tell, Cond.selects RX1 yX1_tell yX1_tell, Cond.code yX1_tell cX1_tell 3 (some .int), Cond.methodLink RL 105 yX7_told, Cond.instanceMethod yX7_told, Cond.selects RX7 yX7_told yX7_told, Cond.code yX7_told cX7_told 3 (some .int), Cond.methodLink RL 106 yL_score, Cond.static yL_score, Cond.codeWith yL_score cL_score 4 (some .int) [(0, 9, 12, 13)], Cond.methodLink RL 44 yX5_score]
def wsL_law0_r14 : List Cond := [Cond.instanceMethod yX5_score, Cond.selects RX5 yX5_score yX5_score, Cond.code yX5_score cX5_score 2 (some .int), Cond.methodLink RX5 175 yX1_bestTwo, Cond.instanceMethod yX1_bestTwo, Cond.selects RX1 yX1_bestTwo yX1_bestTwo, Cond.code yX1_bestTwo cX1_bestTwo 5 (some .int), Cond.methodLink RX1 31 Lib.Math.min.name, Cond.methodLink RX1 37 Lib.Math.max.name, Cond.methodLink RL 108 yX7_score, Cond.instanceMethod yX7_score, Cond.selects RX7 yX7_score yX7_score, Cond.code yX7_score cX7_score 2 (some .int), Cond.methodLink RX7 120 yX7_scoreOf, Cond.instanceMethod yX7_scoreOf, Cond.selects RX7 yX7_scoreOf yX7_scoreOf, Cond.code yX7_scoreOf cX7_scoreOf 6 (some .int), Cond.methodLink RL 109 yX5_leader, Cond.instanceMethod yX5_leader, Cond.selects RX5 yX5_leader yX5_leader, Cond.code yX5_leader cX5_leader 5 (some .int), Cond.methodLink RL 112 yX7_leader, Cond.instanceMethod yX7_leader, Cond.selects RX7 yX7_leader yX7_leader]
def wsL_law0_r15 : List Cond := [Cond.code yX7_leader cX7_leader 3 (some .int), Cond.methodLink RL 113 yL_part, Cond.static yL_part, Cond.codeWith yL_part cL_part 5 (some .int) [(0, 10, 13, 13)], Cond.methodLink RL 47 yX5_part, Cond.instanceMethod yX5_part, Cond.selects RX5 yX5_part yX5_part, Cond.code yX5_part cX5_part 3 (some .int), Cond.methodLink RX5 180 yX5_tellPart, Cond.instanceMethod yX5_tellPart, Cond.selects RX5 yX5_tellPart yX5_tellPart, Cond.code yX5_tellPart cX5_tellPart 3 (some .int), Cond.fieldLink RX5 203 "SnowPumps$Hill" "snow" "[I", Cond.fieldLink RX5 239 "SnowPumps$Hill" "ice" "[I", Cond.methodLink RX5 242 yX3_countAt, Cond.instanceMethod yX3_countAt, Cond.selects RX3 yX3_countAt yX3_countAt, Cond.code yX3_countAt cX3_countAt 4 (some .int), Cond.methodLink RL 115 yX7_part, Cond.instanceMethod yX7_part, Cond.selects RX7 yX7_part yX7_part, Cond.code yX7_part cX7_part 3 (some .int), Cond.methodLink RX7 123 yX7_partTold, Cond.instanceMethod yX7_partTold]
def wsL_law0_r16 : List Cond := [Cond.selects RX7 yX7_partTold yX7_partTold, Cond.code yX7_partTold cX7_partTold 5 (some .int), Cond.methodLink RL 116 yL_count, Cond.static yL_count, Cond.codeWith yL_count cL_count 4 (some .int) [(0, 9, 12, 13)], Cond.methodLink RL 50 yX5_count, Cond.instanceMethod yX5_count, Cond.selects RX5 yX5_count yX5_count, Cond.code yX5_count cX5_count 2 (some .int), Cond.methodLink RX5 185 yX5_tellCount, Cond.instanceMethod yX5_tellCount, Cond.selects RX5 yX5_tellCount yX5_tellCount, Cond.code yX5_tellCount cX5_tellCount 2 (some .int), Cond.methodLink RX5 245 yX0_countRunning, Cond.instanceMethod yX0_countRunning, Cond.selects RX0 yX0_countRunning yX0_countRunning, Cond.code yX0_countRunning cX0_countRunning 6 (some .int), Cond.methodLink RX5 190 yX0_allSnow, Cond.instanceMethod yX0_allSnow, Cond.selects RX0 yX0_allSnow yX0_allSnow, Cond.code yX0_allSnow cX0_allSnow 1 (some .int), Cond.static yX5_sum, Cond.code yX5_sum cX5_sum 6 (some .int), Cond.methodLink RX5 211 yX0_allIce]
def wsL_law0_r17 : List Cond := [Cond.instanceMethod yX0_allIce, Cond.selects RX0 yX0_allIce yX0_allIce, Cond.code yX0_allIce cX0_allIce 1 (some .int), Cond.methodLink RX5 248 yX1_countFalls, Cond.instanceMethod yX1_countFalls, Cond.selects RX1 yX1_countFalls yX1_countFalls, Cond.code yX1_countFalls cX1_countFalls 1 (some .int), Cond.methodLink RL 118 yX7_count, Cond.instanceMethod yX7_count, Cond.selects RX7 yX7_count yX7_count, Cond.code yX7_count cX7_count 2 (some .int), Cond.methodLink RX7 130 yX7_counted, Cond.instanceMethod yX7_counted, Cond.selects RX7 yX7_counted yX7_counted, Cond.code yX7_counted cX7_counted 6 (some .int), Cond.methodLink RX7 126 yX7_sum, Cond.static yX7_sum, Cond.code yX7_sum cX7_sum 6 (some .int), Cond.methodLink RL 119 yL_pass, Cond.static yL_pass, Cond.codeWith yL_pass cL_pass 4 (some .int) [(0, 9, 12, 15)], Cond.methodLink RL 53 yX5_pass, Cond.instanceMethod yX5_pass, Cond.selects RX5 yX5_pass yX5_pass]
def wsL_law0_r18 : List Cond := [Cond.code yX5_pass cX5_pass 3 (some .int), Cond.methodLink RX5 193 yX0_letHoursGoBy, Cond.instanceMethod yX0_letHoursGoBy, Cond.selects RX0 yX0_letHoursGoBy yX0_letHoursGoBy, Cond.code yX0_letHoursGoBy cX0_letHoursGoBy 3 none, Cond.methodLink RX0 50 yX0_letHourGoBy, Cond.instanceMethod yX0_letHourGoBy, Cond.selects RX0 yX0_letHourGoBy yX0_letHourGoBy, Cond.code yX0_letHourGoBy cX0_letHourGoBy 5 none, Cond.fieldLink RX0 57 "SnowPumps$Weather" "warmth" "[I", Cond.fieldLink RX0 66 "SnowPumps$Pumps" "part" "[I", Cond.fieldLink RX0 71 "SnowPumps$Pumps" "flow" "[I", Cond.methodLink RX0 53 yX0_hourOfDay, Cond.methodLink RX0 62 yX4_wetCold, Cond.methodLink RX0 74 yX0_work, Cond.instanceMethod yX0_work, Cond.selects RX0 yX0_work yX0_work, Cond.code yX0_work cX0_work 5 none, Cond.fieldLink RX0 30 "SnowPumps$Hill" "water" "I", Cond.methodLink RX0 85 Lib.Math.min.name, Cond.methodLink RX0 82 yX0_addIce, Cond.instanceMethod yX0_addIce, Cond.selects RX0 yX0_addIce yX0_addIce, Cond.code yX0_addIce cX0_addIce 2 none]
def wsL_law0_r19 : List Cond := [Cond.methodLink RX0 88 yX0_addSnow, Cond.instanceMethod yX0_addSnow, Cond.selects RX0 yX0_addSnow yX0_addSnow, Cond.code yX0_addSnow cX0_addSnow 3 none, Cond.methodLink RX0 78 yX0_melt, Cond.instanceMethod yX0_melt, Cond.selects RX0 yX0_melt yX0_melt, Cond.code yX0_melt cX0_melt 3 none, Cond.methodLink RX0 96 yX0_takeSnow, Cond.methodLink RL 121 yX7_pass_, Cond.instanceMethod yX7_pass_, Cond.selects RX7 yX7_pass_ yX7_pass_, Cond.code yX7_pass_ cX7_pass_ 4 (some .int), Cond.methodLink RX7 134 yX7_pass, Cond.instanceMethod yX7_pass, Cond.selects RX7 yX7_pass yX7_pass, Cond.code yX7_pass cX7_pass 4 none, Cond.methodLink RX7 78 yX7_work, Cond.instanceMethod yX7_work, Cond.selects RX7 yX7_work yX7_work, Cond.code yX7_work cX7_work 6 none, Cond.methodLink RX7 67 yX6_lay, Cond.instanceMethod yX6_lay, Cond.selects RX6 yX6_lay yX6_lay]
def wsL_law0_r20 : List Cond := [Cond.code yX6_lay cX6_lay 3 none, Cond.methodLink RX6 38 Lib.Math.min.name, Cond.methodLink RL 122 yL_enough, Cond.static yL_enough, Cond.codeWith yL_enough cL_enough 5 (some .int) [(0, 10, 13, 13), (0, 10, 17, 15)], Cond.methodLink RL 56 yX5_enough, Cond.instanceMethod yX5_enough, Cond.selects RX5 yX5_enough yX5_enough, Cond.code yX5_enough cX5_enough 4 (some .int), Cond.methodLink RX5 199 yX0_becomeLike, Cond.instanceMethod yX0_becomeLike, Cond.selects RX0 yX0_becomeLike yX0_becomeLike, Cond.code yX0_becomeLike cX0_becomeLike 3 none, Cond.methodLink RX5 206 yX0_letHourGoBy, Cond.methodLink RL 124 yX7_enough, Cond.instanceMethod yX7_enough, Cond.selects RX7 yX7_enough yX7_enough, Cond.code yX7_enough cX7_enough 4 (some .int), Cond.methodLink RX7 138 yX6_become, Cond.instanceMethod yX6_become, Cond.selects RX6 yX6_become yX6_become, Cond.code yX6_become cX6_become 2 none, Cond.fieldLink RX6 21 "SnowPumpsModel$State" "hour" "I", Cond.fieldLink RX6 25 "SnowPumpsModel$State" "water" "I"]
def wsL_law0_r21 : List Cond := [Cond.methodLink RX6 28 arraycopyName, Cond.methodLink RL 125 yL_foresee, Cond.static yL_foresee, Cond.codeWith yL_foresee cL_foresee 5 (some .int) [(0, 10, 13, 15), (0, 10, 17, 13)], Cond.methodLink RL 59 yX5_foresee, Cond.instanceMethod yX5_foresee, Cond.selects RX5 yX5_foresee yX5_foresee, Cond.code yX5_foresee cX5_foresee 3 (some .int), Cond.methodLink RL 127 yX7_foresee, Cond.instanceMethod yX7_foresee, Cond.selects RX7 yX7_foresee yX7_foresee, Cond.code yX7_foresee cX7_foresee 4 (some .int), Cond.methodLink RL 128 yL_gate, Cond.static yL_gate, Cond.codeWith yL_gate cL_gate 4 (some .int) [(0, 9, 12, 15)], Cond.methodLink RL 62 yX5_gate, Cond.instanceMethod yX5_gate, Cond.selects RX5 yX5_gate yX5_gate, Cond.code yX5_gate cX5_gate 4 (some .int), Cond.methodLink RL 130 yX7_gate, Cond.instanceMethod yX7_gate, Cond.selects RX7 yX7_gate yX7_gate, Cond.code yX7_gate cX7_gate 3 (some .int), Cond.methodLink RL 131 yL_advise]
def wsL_law0_r22 : List Cond := [Cond.static yL_advise, Cond.codeWith yL_advise cL_advise 4 (some .int) [(0, 9, 12, 15)], Cond.methodLink RL 65 yX5_advise, Cond.instanceMethod yX5_advise, Cond.selects RX5 yX5_advise yX5_advise, Cond.code yX5_advise cX5_advise 6 (some .int), Cond.methodLink RX5 214 yX5_snowWithPump, Cond.instanceMethod yX5_snowWithPump, Cond.selects RX5 yX5_snowWithPump yX5_snowWithPump, Cond.code yX5_snowWithPump cX5_snowWithPump 3 (some .int), Cond.methodLink RL 133 yX7_advise, Cond.instanceMethod yX7_advise, Cond.selects RX7 yX7_advise yX7_advise, Cond.code yX7_advise cX7_advise 6 (some .int), Cond.methodLink RX7 141 yX7_snowWith, Cond.instanceMethod yX7_snowWith, Cond.selects RX7 yX7_snowWith yX7_snowWith, Cond.code yX7_snowWith cX7_snowWith 4 (some .int), Cond.methodLink RL 134 yX5_mean, Cond.instanceMethod yX5_mean, Cond.selects RX5 yX5_mean yX5_mean, Cond.code yX5_mean cX5_mean 1 (some .double), Cond.methodLink RX5 217 yX1_allPoints, Cond.instanceMethod yX1_allPoints]
def wsL_law0_r23 : List Cond := [Cond.selects RX1 yX1_allPoints yX1_allPoints, Cond.code yX1_allPoints cX1_allPoints 1 (some .int), Cond.methodLink RL 138 yX7_mean, Cond.instanceMethod yX7_mean, Cond.selects RX7 yX7_mean yX7_mean, Cond.code yX7_mean cX7_mean 3 (some .double), Cond.methodLink RL 139 yX5_digest, Cond.instanceMethod yX5_digest, Cond.selects RX5 yX5_digest yX5_digest, Cond.code yX5_digest cX5_digest 5 (some .long), Cond.constantLong RX5 220 (1181), Cond.constantLong RX5 222 (31), Cond.methodLink RX5 224 yX4_addTo, Cond.instanceMethod yX4_addTo, Cond.selects RX4 yX4_addTo yX4_addTo, Cond.code yX4_addTo cX4_addTo 6 (some .long), Cond.constantLong RX4 21 (31), Cond.methodLink RX5 228 yX2_addTo, Cond.instanceMethod yX2_addTo, Cond.selects RX2 yX2_addTo yX2_addTo, Cond.code yX2_addTo cX2_addTo 6 (some .long), Cond.constantLong RX2 32 (31), Cond.methodLink RX5 229 yX5_addPumpsTo, Cond.instanceMethod yX5_addPumpsTo]
def wsL_law0_r24 : List Cond := [Cond.selects RX5 yX5_addPumpsTo yX5_addPumpsTo, Cond.code yX5_addPumpsTo cX5_addPumpsTo 6 (some .long), Cond.fieldLink RX5 233 "SnowPumps$Pumps" "part" "[I", Cond.fieldLink RX5 236 "SnowPumps$Pumps" "flow" "[I", Cond.methodLink RX5 232 yX1_addTo, Cond.instanceMethod yX1_addTo, Cond.selects RX1 yX1_addTo yX1_addTo, Cond.code yX1_addTo cX1_addTo 7 (some .long), Cond.constantLong RX1 44 (31), Cond.methodLink RX1 46 yX1_tell, Cond.methodLink RL 143 yX7_digest, Cond.instanceMethod yX7_digest, Cond.selects RX7 yX7_digest yX7_digest, Cond.code yX7_digest cX7_digest 7 (some .long), Cond.constantLong RX7 144 (1181), Cond.constantLong RX7 146 (31)]
def wsL_law0 : List Cond := (wsL_law0_r1 ++ (wsL_law0_r2 ++ (wsL_law0_r3 ++ (wsL_law0_r4 ++ (wsL_law0_r5 ++ (wsL_law0_r6 ++ (wsL_law0_r7 ++ (wsL_law0_r8 ++ (wsL_law0_r9 ++ (wsL_law0_r10 ++ (wsL_law0_r11 ++ (wsL_law0_r12 ++ (wsL_law0_r13 ++ (wsL_law0_r14 ++ (wsL_law0_r15 ++ (wsL_law0_r16 ++ (wsL_law0_r17 ++ (wsL_law0_r18 ++ (wsL_law0_r19 ++ (wsL_law0_r20 ++ (wsL_law0_r21 ++ (wsL_law0_r22 ++ (wsL_law0_r23 ++ wsL_law0_r24))))))))))))))))))))))) ++ wsX50 ++ wsX70 ++ wsX40 ++ wsX30 ++ wsX00 ++ wsX20 ++ wsX10 ++ wsX60 ++ ([] : List Cond)
def wsL_law : List Cond := wsL_law0 ++ (vx_atS RX5 57 "java/lang/IndexOutOfBoundsException" ["java/lang/RuntimeException", "java/lang/Exception"]).filter goodWord ++ (vx_atS RX5 64 "java/lang/IllegalArgumentException" ["java/lang/RuntimeException", "java/lang/Exception"]).filter goodWord ++ (vx_atS RX5 95 "java/lang/IllegalStateException" ["java/lang/RuntimeException", "java/lang/Exception"]).filter goodWord
set_option maxRecDepth 20000 in
theorem gt_wsL_law0_r1 : GoodIn lw_tbl wsL_law0_r1 := goodIn_r _ [33, 34, 17, 585, 586, 23, 811, 35, 36, 37, 38, 39, 40, 41, 42, 18, 154, 62, 63, 19, 155, 83, 84, 20] (by decide +kernel) (by decide +kernel)
set_option maxRecDepth 20000 in
theorem gt_wsL_law0_r2 : GoodIn lw_tbl wsL_law0_r2 := goodIn_r _ [156, 157, 117, 118, 21, 158, 128, 129, 22, 159, 43, 44, 45, 46, 61, 47, 50, 52, 65, 66, 67, 68, 71, 85] (by decide +kernel) (by decide +kernel)
set_option maxRecDepth 20000 in
theorem gt_wsL_law0_r3 : GoodIn lw_tbl wsL_law0_r3 := goodIn_r _ [86, 87, 88, 91, 93, 116, 95, 89, 90, 119, 120, 121, 122, 123, 131, 132, 133, 134, 135, 136, 137, 138, 587, 588] (by decide +kernel) (by decide +kernel)
set_option maxRecDepth 20000 in
theorem gt_wsL_law0_r4 : GoodIn lw_tbl wsL_law0_r4 := goodIn_r _ [589, 590, 619, 620, 621, 623, 624, 625, 627, 591, 592, 24, 628, 629, 594, 595, 596, 601, 603, 605, 271, 272, 16, 273] (by decide +kernel) (by decide +kernel)
set_option maxRecDepth 20000 in
theorem gt_wsL_law0_r5 : GoodIn lw_tbl wsL_law0_r5 := goodIn_r _ [274, 275, 276, 277, 278, 279, 283, 28, 351, 29, 48, 51, 53, 280, 281, 282, 215, 216, 217, 218, 659, 660, 661, 662] (by decide +kernel) (by decide +kernel)
set_option maxRecDepth 20000 in
theorem gt_wsL_law0_r6 : GoodIn lw_tbl wsL_law0_r6 := goodIn_r _ [618, 663, 664, 665, 666, 668, 5, 669, 670, 672, 6, 673, 655, 656, 657, 658, 369, 370, 371, 372, 373, 374, 375, 376] (by decide +kernel) (by decide +kernel)
set_option maxRecDepth 20000 in
theorem gt_wsL_law0_r7 : GoodIn lw_tbl wsL_law0_r7 := goodIn_r _ [379, 30, 75, 395, 396, 397, 398, 74, 674, 675, 676, 677, 622, 678, 679, 680, 399, 400, 401, 402, 403, 404, 405, 96] (by decide +kernel) (by decide +kernel)
set_option maxRecDepth 20000 in
theorem gt_wsL_law0_r8 : GoodIn lw_tbl wsL_law0_r8 := goodIn_r _ [681, 682, 683, 684, 685, 687, 7, 688, 407, 408, 409, 410, 411, 412, 413, 98, 415, 182, 31, 183, 689, 690, 691, 692] (by decide +kernel) (by decide +kernel)
set_option maxRecDepth 20000 in
theorem gt_wsL_law0_r9 : GoodIn lw_tbl wsL_law0_r9 := goodIn_r _ [693, 416, 417, 418, 419, 420, 421, 422, 426, 427, 428, 429, 694, 695, 696, 697, 430, 431, 432, 433, 434, 435, 436, 124] (by decide +kernel) (by decide +kernel)
set_option maxRecDepth 20000 in
theorem gt_wsL_law0_r10 : GoodIn lw_tbl wsL_law0_r10 := goodIn_r _ [698, 699, 700, 701, 439, 440, 441, 442, 443, 444, 445, 140, 100, 208, 209, 210, 211, 99, 212, 213, 31, 214, 450, 451] (by decide +kernel) (by decide +kernel)
set_option maxRecDepth 20000 in
theorem gt_wsL_law0_r11 : GoodIn lw_tbl wsL_law0_r11 := goodIn_r _ [452, 453, 454, 455, 456, 185, 186, 244, 245, 246, 247, 457, 458, 459, 460, 461, 462, 463, 464, 465, 466, 467, 468, 470] (by decide +kernel) (by decide +kernel)
set_option maxRecDepth 20000 in
theorem gt_wsL_law0_r12 : GoodIn lw_tbl wsL_law0_r12 := goodIn_r _ [471, 472, 473, 474, 475, 139, 702, 703, 704, 705, 626, 719, 714, 720, 722, 721, 32, 706, 708, 8, 709, 710, 712, 9] (by decide +kernel) (by decide +kernel)
set_option maxRecDepth 20000 in
theorem gt_wsL_law0_r13 : GoodIn lw_tbl wsL_law0_r13 := goodIn_r _ [713, 715, 716, 717, 718, 476, 477, 478, 479, 480, 481, 482, 485, 268, 269, 270, 723, 724, 725, 726, 486, 487, 488, 489] (by decide +kernel) (by decide +kernel)
set_option maxRecDepth 20000 in
theorem gt_wsL_law0_r14 : GoodIn lw_tbl wsL_law0_r14 := goodIn_r _ [490, 491, 492, 177, 178, 179, 180, 181, 184, 727, 728, 729, 730, 731, 733, 10, 734, 173, 174, 175, 176, 735, 736, 737] (by decide +kernel) (by decide +kernel)
set_option maxRecDepth 20000 in
theorem gt_wsL_law0_r15 : GoodIn lw_tbl wsL_law0_r15 := goodIn_r _ [738, 493, 494, 495, 496, 497, 498, 499, 236, 238, 1, 239, 92, 94, 240, 241, 242, 243, 739, 740, 741, 742, 743, 745] (by decide +kernel) (by decide +kernel)
set_option maxRecDepth 20000 in
theorem gt_wsL_law0_r16 : GoodIn lw_tbl wsL_law0_r16 := goodIn_r _ [11, 746, 501, 502, 503, 504, 505, 506, 507, 204, 206, 0, 207, 219, 220, 221, 222, 223, 224, 225, 226, 196, 197, 228] (by decide +kernel) (by decide +kernel)
set_option maxRecDepth 20000 in
theorem gt_wsL_law0_r17 : GoodIn lw_tbl wsL_law0_r17 := goodIn_r _ [229, 230, 231, 232, 233, 234, 235, 747, 748, 749, 750, 751, 753, 12, 754, 755, 756, 757, 509, 510, 511, 512, 513, 514] (by decide +kernel) (by decide +kernel)
set_option maxRecDepth 20000 in
theorem gt_wsL_law0_r18 : GoodIn lw_tbl wsL_law0_r18 := goodIn_r _ [515, 517, 518, 519, 520, 521, 522, 523, 524, 49, 69, 72, 525, 526, 527, 528, 529, 530, 97, 536, 531, 532, 533, 534] (by decide +kernel) (by decide +kernel)
set_option maxRecDepth 20000 in
theorem gt_wsL_law0_r19 : GoodIn lw_tbl wsL_law0_r19 := goodIn_r _ [537, 538, 539, 540, 541, 542, 543, 544, 545, 758, 759, 760, 761, 762, 764, 13, 765, 766, 768, 14, 769, 770, 771, 772] (by decide +kernel) (by decide +kernel)
set_option maxRecDepth 20000 in
theorem gt_wsL_law0_r20 : GoodIn lw_tbl wsL_law0_r20 := goodIn_r _ [773, 775, 546, 547, 548, 549, 550, 551, 552, 554, 555, 556, 557, 558, 776, 777, 778, 779, 780, 781, 782, 783, 597, 599] (by decide +kernel) (by decide +kernel)
set_option maxRecDepth 20000 in
theorem gt_wsL_law0_r21 : GoodIn lw_tbl wsL_law0_r21 := goodIn_r _ [784, 559, 560, 561, 562, 563, 564, 565, 785, 786, 787, 788, 567, 568, 569, 570, 571, 572, 573, 789, 790, 791, 792, 574] (by decide +kernel) (by decide +kernel)
set_option maxRecDepth 20000 in
theorem gt_wsL_law0_r22 : GoodIn lw_tbl wsL_law0_r22 := goodIn_r _ [575, 576, 577, 578, 579, 580, 581, 583, 4, 584, 793, 794, 795, 796, 797, 799, 15, 800, 187, 188, 189, 190, 191, 192] (by decide +kernel) (by decide +kernel)
set_option maxRecDepth 20000 in
theorem gt_wsL_law0_r23 : GoodIn lw_tbl wsL_law0_r23 := goodIn_r _ [193, 194, 801, 802, 803, 804, 198, 199, 200, 201, 202, 203, 248, 249, 250, 251, 252, 253, 254, 255, 256, 257, 258, 260] (by decide +kernel) (by decide +kernel)
set_option maxRecDepth 20000 in
theorem gt_wsL_law0_r24 : GoodIn lw_tbl wsL_law0_r24 := goodIn_r _ [2, 261, 70, 73, 262, 263, 264, 265, 266, 267, 805, 806, 807, 808, 809, 810] (by decide +kernel) (by decide +kernel)
set_option maxRecDepth 20000 in
theorem gt_wsX50 : GoodIn lw_tbl wsX50 := goodIn_p _ [] rfl (by decide +kernel)
set_option maxRecDepth 20000 in
theorem gt_wsX70 : GoodIn lw_tbl wsX70 := goodIn_p _ [] rfl (by decide +kernel)
set_option maxRecDepth 20000 in
theorem gt_wsX40 : GoodIn lw_tbl wsX40 := goodIn_p _ [] rfl (by decide +kernel)
set_option maxRecDepth 20000 in
theorem gt_wsX30 : GoodIn lw_tbl wsX30 := goodIn_p _ [] rfl (by decide +kernel)
set_option maxRecDepth 20000 in
theorem gt_wsX00 : GoodIn lw_tbl wsX00 := goodIn_p _ [] rfl (by decide +kernel)
set_option maxRecDepth 20000 in
theorem gt_wsX20 : GoodIn lw_tbl wsX20 := goodIn_p _ [] rfl (by decide +kernel)
set_option maxRecDepth 20000 in
theorem gt_wsX10 : GoodIn lw_tbl wsX10 := goodIn_p _ [] rfl (by decide +kernel)
set_option maxRecDepth 20000 in
theorem gt_wsX60 : GoodIn lw_tbl wsX60 := goodIn_p _ [] rfl (by decide +kernel)
theorem gt_wsL_law0 : GoodIn lw_tbl wsL_law0 := goodIn_app (goodIn_app (goodIn_app (goodIn_app (goodIn_app (goodIn_app (goodIn_app (goodIn_app (goodIn_app (goodIn_app gt_wsL_law0_r1 (goodIn_app gt_wsL_law0_r2 (goodIn_app gt_wsL_law0_r3 (goodIn_app gt_wsL_law0_r4 (goodIn_app gt_wsL_law0_r5 (goodIn_app gt_wsL_law0_r6 (goodIn_app gt_wsL_law0_r7 (goodIn_app gt_wsL_law0_r8 (goodIn_app gt_wsL_law0_r9 (goodIn_app gt_wsL_law0_r10 (goodIn_app gt_wsL_law0_r11 (goodIn_app gt_wsL_law0_r12 (goodIn_app gt_wsL_law0_r13 (goodIn_app gt_wsL_law0_r14 (goodIn_app gt_wsL_law0_r15 (goodIn_app gt_wsL_law0_r16 (goodIn_app gt_wsL_law0_r17 (goodIn_app gt_wsL_law0_r18 (goodIn_app gt_wsL_law0_r19 (goodIn_app gt_wsL_law0_r20 (goodIn_app gt_wsL_law0_r21 (goodIn_app gt_wsL_law0_r22 (goodIn_app gt_wsL_law0_r23 (gt_wsL_law0_r24)))))))))))))))))))))))) gt_wsX50) gt_wsX70) gt_wsX40) gt_wsX30) gt_wsX00) gt_wsX20) gt_wsX10) gt_wsX60) (fun _ h => absurd h List.not_mem_nil)
theorem wsL_law_in0 : ∀ w ∈ wsL_law0, w ∈ lw_tbl := fun w h => (gt_wsL_law0 w h).1
theorem wsL_law_x0 : ∀ w ∈ (vx_atS RX5 57 "java/lang/IndexOutOfBoundsException" ["java/lang/RuntimeException", "java/lang/Exception"]).filter goodWord, w ∈ lw_tbl := by decide +kernel
theorem wsL_law_x1 : ∀ w ∈ (vx_atS RX5 64 "java/lang/IllegalArgumentException" ["java/lang/RuntimeException", "java/lang/Exception"]).filter goodWord, w ∈ lw_tbl := by decide +kernel
theorem wsL_law_x2 : ∀ w ∈ (vx_atS RX5 95 "java/lang/IllegalStateException" ["java/lang/RuntimeException", "java/lang/Exception"]).filter goodWord, w ∈ lw_tbl := by decide +kernel
theorem wsL_law_in : ∀ w ∈ wsL_law, w ∈ lw_tbl := fun w h => (List.mem_append.mp h).elim (fun h => (List.mem_append.mp h).elim (fun h => (List.mem_append.mp h).elim (fun h => wsL_law_in0 w h) (fun h => wsL_law_x0 w h)) (fun h => wsL_law_x1 w h)) (fun h => wsL_law_x2 w h)
theorem inlX0 : ∀ w ∈ wsX00, w ∈ wsL_law := fun _ h => List.mem_append_left _ (List.mem_append_left _ (List.mem_append_left _ (List.mem_append_left _ (List.mem_append_left _ (List.mem_append_left _ (List.mem_append_left _ (List.mem_append_right _ h)))))))
theorem inX0 : ∀ w ∈ wsX00, w ∈ lw_tbl := fun w h => wsL_law_in w (inlX0 w h)
theorem inlX1 : ∀ w ∈ wsX10, w ∈ wsL_law := fun _ h => List.mem_append_left _ (List.mem_append_left _ (List.mem_append_left _ (List.mem_append_left _ (List.mem_append_left _ (List.mem_append_right _ h)))))
theorem inX1 : ∀ w ∈ wsX10, w ∈ lw_tbl := fun w h => wsL_law_in w (inlX1 w h)
theorem inlX2 : ∀ w ∈ wsX20, w ∈ wsL_law := fun _ h => List.mem_append_left _ (List.mem_append_left _ (List.mem_append_left _ (List.mem_append_left _ (List.mem_append_left _ (List.mem_append_left _ (List.mem_append_right _ h))))))
theorem inX2 : ∀ w ∈ wsX20, w ∈ lw_tbl := fun w h => wsL_law_in w (inlX2 w h)
theorem inlX3 : ∀ w ∈ wsX30, w ∈ wsL_law := fun _ h => List.mem_append_left _ (List.mem_append_left _ (List.mem_append_left _ (List.mem_append_left _ (List.mem_append_left _ (List.mem_append_left _ (List.mem_append_left _ (List.mem_append_left _ (List.mem_append_right _ h))))))))
theorem inX3 : ∀ w ∈ wsX30, w ∈ lw_tbl := fun w h => wsL_law_in w (inlX3 w h)
theorem inlX4 : ∀ w ∈ wsX40, w ∈ wsL_law := fun _ h => List.mem_append_left _ (List.mem_append_left _ (List.mem_append_left _ (List.mem_append_left _ (List.mem_append_left _ (List.mem_append_left _ (List.mem_append_left _ (List.mem_append_left _ (List.mem_append_left _ (List.mem_append_right _ h)))))))))
theorem inX4 : ∀ w ∈ wsX40, w ∈ lw_tbl := fun w h => wsL_law_in w (inlX4 w h)
theorem inlX5 : ∀ w ∈ wsX50, w ∈ wsL_law := fun _ h => List.mem_append_left _ (List.mem_append_left _ (List.mem_append_left _ (List.mem_append_left _ (List.mem_append_left _ (List.mem_append_left _ (List.mem_append_left _ (List.mem_append_left _ (List.mem_append_left _ (List.mem_append_left _ (List.mem_append_left _ (List.mem_append_right _ h)))))))))))
theorem inX5 : ∀ w ∈ wsX50, w ∈ lw_tbl := fun w h => wsL_law_in w (inlX5 w h)
theorem inlX6 : ∀ w ∈ wsX60, w ∈ wsL_law := fun _ h => List.mem_append_left _ (List.mem_append_left _ (List.mem_append_left _ (List.mem_append_left _ (List.mem_append_right _ h))))
theorem inX6 : ∀ w ∈ wsX60, w ∈ lw_tbl := fun w h => wsL_law_in w (inlX6 w h)
theorem inlX7 : ∀ w ∈ wsX70, w ∈ wsL_law := fun _ h => List.mem_append_left _ (List.mem_append_left _ (List.mem_append_left _ (List.mem_append_left _ (List.mem_append_left _ (List.mem_append_left _ (List.mem_append_left _ (List.mem_append_left _ (List.mem_append_left _ (List.mem_append_left _ (List.mem_append_right _ h))))))))))
theorem inX7 : ∀ w ∈ wsX70, w ∈ lw_tbl := fun w h => wsL_law_in w (inlX7 w h)
end
section
theorem inJ9 : ∀ w ∈ wsJ90, w ∈ lw_tbl := by decide +kernel
theorem inJ0 : ∀ w ∈ wsJ00, w ∈ lw_tbl := by decide +kernel
theorem inJ10 : ∀ w ∈ wsJ100, w ∈ lw_tbl := by decide +kernel
theorem dX0_init_0 : decode cX0_init 0 = .ok (.aload_n 0, 1) := by decide +kernel
theorem dX0_init_1 : decode cX0_init 1 = .ok (.invokespecial 3, 3) := by decide +kernel
theorem dX0_init_4 : decode cX0_init 4 = .ok (.aload_n 0, 1) := by decide +kernel
theorem dX0_init_5 : decode cX0_init 5 = .ok (.bipush 20, 2) := by decide +kernel
theorem dX0_init_7 : decode cX0_init 7 = .ok (.newarray .int, 2) := by decide +kernel
theorem dX0_init_9 : decode cX0_init 9 = .ok (.putfield 9, 3) := by decide +kernel
theorem dX0_init_12 : decode cX0_init 12 = .ok (.aload_n 0, 1) := by decide +kernel
theorem dX0_init_13 : decode cX0_init 13 = .ok (.bipush 20, 2) := by decide +kernel
theorem dX0_init_15 : decode cX0_init 15 = .ok (.newarray .int, 2) := by decide +kernel
theorem dX0_init_17 : decode cX0_init 17 = .ok (.putfield 15, 3) := by decide +kernel
theorem dX0_init_20 : decode cX0_init 20 = .ok (.aload_n 0, 1) := by decide +kernel
theorem dX0_init_21 : decode cX0_init 21 = .ok (.iconst 5, 1) := by decide +kernel
theorem dX0_init_22 : decode cX0_init 22 = .ok (.newarray .boolean, 2) := by decide +kernel
theorem dX0_init_24 : decode cX0_init 24 = .ok (.putfield 18, 3) := by decide +kernel
theorem dX0_init_27 : decode cX0_init 27 = .ok (.aload_n 0, 1) := by decide +kernel
theorem dX0_init_28 : decode cX0_init 28 = .ok (.aload_n 1, 1) := by decide +kernel
theorem dX0_init_29 : decode cX0_init 29 = .ok (.putfield 22, 3) := by decide +kernel
theorem dX0_init_32 : decode cX0_init 32 = .ok (.aload_n 0, 1) := by decide +kernel
theorem dX0_init_33 : decode cX0_init 33 = .ok (.aload_n 2, 1) := by decide +kernel
theorem dX0_init_34 : decode cX0_init 34 = .ok (.putfield 26, 3) := by decide +kernel
theorem dX0_init_37 : decode cX0_init 37 = .ok (.return_, 1) := by decide +kernel
theorem dX0_becomeLike_0 : decode cX0_becomeLike 0 = .ok (.iconst 0, 1) := by decide +kernel
theorem dX0_becomeLike_1 : decode cX0_becomeLike 1 = .ok (.istore_n 2, 1) := by decide +kernel
theorem dX0_becomeLike_2 : decode cX0_becomeLike 2 = .ok (.iload_n 2, 1) := by decide +kernel
theorem dX0_becomeLike_3 : decode cX0_becomeLike 3 = .ok (.bipush 20, 2) := by decide +kernel
theorem dX0_becomeLike_5 : decode cX0_becomeLike 5 = .ok (.if_icmp .ge 33, 3) := by decide +kernel
theorem dX0_becomeLike_8 : decode cX0_becomeLike 8 = .ok (.aload_n 0, 1) := by decide +kernel
theorem dX0_becomeLike_9 : decode cX0_becomeLike 9 = .ok (.getfield 9, 3) := by decide +kernel
theorem dX0_becomeLike_12 : decode cX0_becomeLike 12 = .ok (.iload_n 2, 1) := by decide +kernel
theorem dX0_becomeLike_13 : decode cX0_becomeLike 13 = .ok (.aload_n 1, 1) := by decide +kernel
theorem dX0_becomeLike_14 : decode cX0_becomeLike 14 = .ok (.getfield 9, 3) := by decide +kernel
theorem dX0_becomeLike_17 : decode cX0_becomeLike 17 = .ok (.iload_n 2, 1) := by decide +kernel
theorem dX0_becomeLike_18 : decode cX0_becomeLike 18 = .ok (.iaload, 1) := by decide +kernel
theorem dX0_becomeLike_19 : decode cX0_becomeLike 19 = .ok (.iastore, 1) := by decide +kernel
theorem dX0_becomeLike_20 : decode cX0_becomeLike 20 = .ok (.aload_n 0, 1) := by decide +kernel
theorem dX0_becomeLike_21 : decode cX0_becomeLike 21 = .ok (.getfield 15, 3) := by decide +kernel
theorem dX0_becomeLike_24 : decode cX0_becomeLike 24 = .ok (.iload_n 2, 1) := by decide +kernel
theorem dX0_becomeLike_25 : decode cX0_becomeLike 25 = .ok (.aload_n 1, 1) := by decide +kernel
theorem dX0_becomeLike_26 : decode cX0_becomeLike 26 = .ok (.getfield 15, 3) := by decide +kernel
theorem dX0_becomeLike_29 : decode cX0_becomeLike 29 = .ok (.iload_n 2, 1) := by decide +kernel
theorem dX0_becomeLike_30 : decode cX0_becomeLike 30 = .ok (.iaload, 1) := by decide +kernel
theorem dX0_becomeLike_31 : decode cX0_becomeLike 31 = .ok (.iastore, 1) := by decide +kernel
theorem dX0_becomeLike_32 : decode cX0_becomeLike 32 = .ok (.iinc 2 1, 3) := by decide +kernel
theorem dX0_becomeLike_35 : decode cX0_becomeLike 35 = .ok (.goto (-33), 3) := by decide +kernel
theorem dX0_becomeLike_38 : decode cX0_becomeLike 38 = .ok (.iconst 0, 1) := by decide +kernel
theorem dX0_becomeLike_39 : decode cX0_becomeLike 39 = .ok (.istore_n 2, 1) := by decide +kernel
theorem dX0_becomeLike_40 : decode cX0_becomeLike 40 = .ok (.iload_n 2, 1) := by decide +kernel
theorem dX0_becomeLike_41 : decode cX0_becomeLike 41 = .ok (.iconst 5, 1) := by decide +kernel
theorem dX0_becomeLike_42 : decode cX0_becomeLike 42 = .ok (.if_icmp .ge 21, 3) := by decide +kernel
theorem dX0_becomeLike_45 : decode cX0_becomeLike 45 = .ok (.aload_n 0, 1) := by decide +kernel
theorem dX0_becomeLike_46 : decode cX0_becomeLike 46 = .ok (.getfield 18, 3) := by decide +kernel
theorem dX0_becomeLike_49 : decode cX0_becomeLike 49 = .ok (.iload_n 2, 1) := by decide +kernel
theorem dX0_becomeLike_50 : decode cX0_becomeLike 50 = .ok (.aload_n 1, 1) := by decide +kernel
theorem dX0_becomeLike_51 : decode cX0_becomeLike 51 = .ok (.getfield 18, 3) := by decide +kernel
theorem dX0_becomeLike_54 : decode cX0_becomeLike 54 = .ok (.iload_n 2, 1) := by decide +kernel
theorem dX0_becomeLike_55 : decode cX0_becomeLike 55 = .ok (.baload, 1) := by decide +kernel
theorem dX0_becomeLike_56 : decode cX0_becomeLike 56 = .ok (.bastore, 1) := by decide +kernel
theorem dX0_becomeLike_57 : decode cX0_becomeLike 57 = .ok (.iinc 2 1, 3) := by decide +kernel
theorem dX0_becomeLike_60 : decode cX0_becomeLike 60 = .ok (.goto (-20), 3) := by decide +kernel
theorem dX0_becomeLike_63 : decode cX0_becomeLike 63 = .ok (.aload_n 0, 1) := by decide +kernel
theorem dX0_becomeLike_64 : decode cX0_becomeLike 64 = .ok (.aload_n 1, 1) := by decide +kernel
theorem dX0_becomeLike_65 : decode cX0_becomeLike 65 = .ok (.getfield 30, 3) := by decide +kernel
theorem dX0_becomeLike_68 : decode cX0_becomeLike 68 = .ok (.putfield 30, 3) := by decide +kernel
theorem dX0_becomeLike_71 : decode cX0_becomeLike 71 = .ok (.aload_n 0, 1) := by decide +kernel
theorem dX0_becomeLike_72 : decode cX0_becomeLike 72 = .ok (.aload_n 1, 1) := by decide +kernel
theorem dX0_becomeLike_73 : decode cX0_becomeLike 73 = .ok (.getfield 34, 3) := by decide +kernel
theorem dX0_becomeLike_76 : decode cX0_becomeLike 76 = .ok (.putfield 34, 3) := by decide +kernel
theorem dX0_becomeLike_79 : decode cX0_becomeLike 79 = .ok (.return_, 1) := by decide +kernel
set_option maxRecDepth 20000 in
theorem ggX0_hourOfDay_J9_floorMod_7cf53 : GoodIn wsX0_hourOfDay wsJ9_floorMod_7cf53 := goodIn_r _ [5] (by decide +kernel) (by decide +kernel)
set_option maxRecDepth 20000 in
theorem gX0_hourOfDay_J9_floorMod_7cf53 : GoodIn wsX0_hourOfDay (va_wsS RX0 37 yJ9_floorMod_7cf53 wsJ9_floorMod_7cf53) := goodIn_app (goodIn_of _ (by decide +kernel)) ggX0_hourOfDay_J9_floorMod_7cf53
theorem dX0_hourOfDay_0 : decode cX0_hourOfDay 0 = .ok (.aload_n 0, 1) := by decide +kernel
theorem dX0_hourOfDay_1 : decode cX0_hourOfDay 1 = .ok (.getfield 34, 3) := by decide +kernel
theorem dX0_hourOfDay_4 : decode cX0_hourOfDay 4 = .ok (.bipush 24, 2) := by decide +kernel
theorem dX0_hourOfDay_6 : decode cX0_hourOfDay 6 = .ok (.invokestatic 37, 3) := by decide +kernel
theorem dX0_hourOfDay_9 : decode cX0_hourOfDay 9 = .ok (.ireturn, 1) := by decide +kernel
set_option maxRecDepth 20000 in
theorem ggX0_allSnow_X5_sum : GoodIn wsX0_allSnow wsX5_sum := goodIn_r _ [4] (by decide +kernel) (by decide +kernel)
set_option maxRecDepth 20000 in
theorem gX0_allSnow_X5_sum_n43 : GoodIn wsX0_allSnow (wsX5_sum) := ggX0_allSnow_X5_sum
theorem dX0_allSnow_0 : decode cX0_allSnow 0 = .ok (.aload_n 0, 1) := by decide +kernel
theorem dX0_allSnow_1 : decode cX0_allSnow 1 = .ok (.getfield 9, 3) := by decide +kernel
theorem dX0_allSnow_4 : decode cX0_allSnow 4 = .ok (.invokestatic 43, 3) := by decide +kernel
theorem dX0_allSnow_7 : decode cX0_allSnow 7 = .ok (.ireturn, 1) := by decide +kernel
set_option maxRecDepth 20000 in
theorem ggX0_allIce_X5_sum : GoodIn wsX0_allIce wsX5_sum := goodIn_r _ [4] (by decide +kernel) (by decide +kernel)
set_option maxRecDepth 20000 in
theorem gX0_allIce_X5_sum_n43 : GoodIn wsX0_allIce (wsX5_sum) := ggX0_allIce_X5_sum
theorem dX0_allIce_0 : decode cX0_allIce 0 = .ok (.aload_n 0, 1) := by decide +kernel
theorem dX0_allIce_1 : decode cX0_allIce 1 = .ok (.getfield 15, 3) := by decide +kernel
theorem dX0_allIce_4 : decode cX0_allIce 4 = .ok (.invokestatic 43, 3) := by decide +kernel
theorem dX0_allIce_7 : decode cX0_allIce 7 = .ok (.ireturn, 1) := by decide +kernel
theorem dX0_countRunning_0 : decode cX0_countRunning 0 = .ok (.iconst 0, 1) := by decide +kernel
theorem dX0_countRunning_1 : decode cX0_countRunning 1 = .ok (.istore_n 1, 1) := by decide +kernel
theorem dX0_countRunning_2 : decode cX0_countRunning 2 = .ok (.aload_n 0, 1) := by decide +kernel
theorem dX0_countRunning_3 : decode cX0_countRunning 3 = .ok (.getfield 18, 3) := by decide +kernel
theorem dX0_countRunning_6 : decode cX0_countRunning 6 = .ok (.astore_n 2, 1) := by decide +kernel
theorem dX0_countRunning_7 : decode cX0_countRunning 7 = .ok (.aload_n 2, 1) := by decide +kernel
theorem dX0_countRunning_8 : decode cX0_countRunning 8 = .ok (.arraylength, 1) := by decide +kernel
theorem dX0_countRunning_9 : decode cX0_countRunning 9 = .ok (.istore_n 3, 1) := by decide +kernel
theorem dX0_countRunning_10 : decode cX0_countRunning 10 = .ok (.iconst 0, 1) := by decide +kernel
theorem dX0_countRunning_11 : decode cX0_countRunning 11 = .ok (.istore 4, 2) := by decide +kernel
theorem dX0_countRunning_13 : decode cX0_countRunning 13 = .ok (.iload 4, 2) := by decide +kernel
theorem dX0_countRunning_15 : decode cX0_countRunning 15 = .ok (.iload_n 3, 1) := by decide +kernel
theorem dX0_countRunning_16 : decode cX0_countRunning 16 = .ok (.if_icmp .ge 23, 3) := by decide +kernel
theorem dX0_countRunning_19 : decode cX0_countRunning 19 = .ok (.aload_n 2, 1) := by decide +kernel
theorem dX0_countRunning_20 : decode cX0_countRunning 20 = .ok (.iload 4, 2) := by decide +kernel
theorem dX0_countRunning_22 : decode cX0_countRunning 22 = .ok (.baload, 1) := by decide +kernel
theorem dX0_countRunning_23 : decode cX0_countRunning 23 = .ok (.istore 5, 2) := by decide +kernel
theorem dX0_countRunning_25 : decode cX0_countRunning 25 = .ok (.iload 5, 2) := by decide +kernel
theorem dX0_countRunning_27 : decode cX0_countRunning 27 = .ok (.ifCond .eq 6, 3) := by decide +kernel
theorem dX0_countRunning_30 : decode cX0_countRunning 30 = .ok (.iinc 1 1, 3) := by decide +kernel
theorem dX0_countRunning_33 : decode cX0_countRunning 33 = .ok (.iinc 4 1, 3) := by decide +kernel
theorem dX0_countRunning_36 : decode cX0_countRunning 36 = .ok (.goto (-23), 3) := by decide +kernel
theorem dX0_countRunning_39 : decode cX0_countRunning 39 = .ok (.iload_n 1, 1) := by decide +kernel
theorem dX0_countRunning_40 : decode cX0_countRunning 40 = .ok (.ireturn, 1) := by decide +kernel
theorem dX0_fallsAt_0 : decode cX0_fallsAt 0 = .ok (.aload_n 0, 1) := by decide +kernel
theorem dX0_fallsAt_1 : decode cX0_fallsAt 1 = .ok (.getfield 9, 3) := by decide +kernel
theorem dX0_fallsAt_4 : decode cX0_fallsAt 4 = .ok (.iload_n 1, 1) := by decide +kernel
theorem dX0_fallsAt_5 : decode cX0_fallsAt 5 = .ok (.iaload, 1) := by decide +kernel
theorem dX0_fallsAt_6 : decode cX0_fallsAt 6 = .ok (.bipush 30, 2) := by decide +kernel
theorem dX0_fallsAt_8 : decode cX0_fallsAt 8 = .ok (.if_icmp .lt 14, 3) := by decide +kernel
theorem dX0_fallsAt_11 : decode cX0_fallsAt 11 = .ok (.aload_n 0, 1) := by decide +kernel
theorem dX0_fallsAt_12 : decode cX0_fallsAt 12 = .ok (.getfield 15, 3) := by decide +kernel
theorem dX0_fallsAt_15 : decode cX0_fallsAt 15 = .ok (.iload_n 1, 1) := by decide +kernel
theorem dX0_fallsAt_16 : decode cX0_fallsAt 16 = .ok (.iaload, 1) := by decide +kernel
theorem dX0_fallsAt_17 : decode cX0_fallsAt 17 = .ok (.bipush 10, 2) := by decide +kernel
theorem dX0_fallsAt_19 : decode cX0_fallsAt 19 = .ok (.if_icmp .lt 7, 3) := by decide +kernel
theorem dX0_fallsAt_22 : decode cX0_fallsAt 22 = .ok (.iconst 1, 1) := by decide +kernel
theorem dX0_fallsAt_23 : decode cX0_fallsAt 23 = .ok (.goto 4, 3) := by decide +kernel
theorem dX0_fallsAt_26 : decode cX0_fallsAt 26 = .ok (.iconst 0, 1) := by decide +kernel
theorem dX0_fallsAt_27 : decode cX0_fallsAt 27 = .ok (.ireturn, 1) := by decide +kernel
theorem dX0_takeSnow_0 : decode cX0_takeSnow 0 = .ok (.aload_n 0, 1) := by decide +kernel
theorem dX0_takeSnow_1 : decode cX0_takeSnow 1 = .ok (.getfield 9, 3) := by decide +kernel
theorem dX0_takeSnow_4 : decode cX0_takeSnow 4 = .ok (.iload_n 1, 1) := by decide +kernel
theorem dX0_takeSnow_5 : decode cX0_takeSnow 5 = .ok (.iconst 0, 1) := by decide +kernel
theorem dX0_takeSnow_6 : decode cX0_takeSnow 6 = .ok (.aload_n 0, 1) := by decide +kernel
theorem dX0_takeSnow_7 : decode cX0_takeSnow 7 = .ok (.getfield 9, 3) := by decide +kernel
theorem dX0_takeSnow_10 : decode cX0_takeSnow 10 = .ok (.iload_n 1, 1) := by decide +kernel
theorem dX0_takeSnow_11 : decode cX0_takeSnow 11 = .ok (.iaload, 1) := by decide +kernel
theorem dX0_takeSnow_12 : decode cX0_takeSnow 12 = .ok (.iload_n 2, 1) := by decide +kernel
theorem dX0_takeSnow_13 : decode cX0_takeSnow 13 = .ok (.isub, 1) := by decide +kernel
theorem dX0_takeSnow_14 : decode cX0_takeSnow 14 = .ok (.invokestatic 47, 3) := by decide +kernel
theorem dX0_takeSnow_17 : decode cX0_takeSnow 17 = .ok (.iastore, 1) := by decide +kernel
theorem dX0_takeSnow_18 : decode cX0_takeSnow 18 = .ok (.return_, 1) := by decide +kernel
theorem dX0_spreadSnow_0 : decode cX0_spreadSnow 0 = .ok (.iconst 0, 1) := by decide +kernel
theorem dX0_spreadSnow_1 : decode cX0_spreadSnow 1 = .ok (.istore_n 3, 1) := by decide +kernel
theorem dX0_spreadSnow_2 : decode cX0_spreadSnow 2 = .ok (.iload_n 1, 1) := by decide +kernel
theorem dX0_spreadSnow_3 : decode cX0_spreadSnow 3 = .ok (.istore 4, 2) := by decide +kernel
theorem dX0_spreadSnow_5 : decode cX0_spreadSnow 5 = .ok (.iload 4, 2) := by decide +kernel
theorem dX0_spreadSnow_7 : decode cX0_spreadSnow 7 = .ok (.iload_n 2, 1) := by decide +kernel
theorem dX0_spreadSnow_8 : decode cX0_spreadSnow 8 = .ok (.if_icmp .gt 19, 3) := by decide +kernel
theorem dX0_spreadSnow_11 : decode cX0_spreadSnow 11 = .ok (.iload_n 3, 1) := by decide +kernel
theorem dX0_spreadSnow_12 : decode cX0_spreadSnow 12 = .ok (.aload_n 0, 1) := by decide +kernel
theorem dX0_spreadSnow_13 : decode cX0_spreadSnow 13 = .ok (.getfield 9, 3) := by decide +kernel
theorem dX0_spreadSnow_16 : decode cX0_spreadSnow 16 = .ok (.iload 4, 2) := by decide +kernel
theorem dX0_spreadSnow_18 : decode cX0_spreadSnow 18 = .ok (.iaload, 1) := by decide +kernel
theorem dX0_spreadSnow_19 : decode cX0_spreadSnow 19 = .ok (.iadd, 1) := by decide +kernel
theorem dX0_spreadSnow_20 : decode cX0_spreadSnow 20 = .ok (.istore_n 3, 1) := by decide +kernel
theorem dX0_spreadSnow_21 : decode cX0_spreadSnow 21 = .ok (.iinc 4 1, 3) := by decide +kernel
theorem dX0_spreadSnow_24 : decode cX0_spreadSnow 24 = .ok (.goto (-19), 3) := by decide +kernel
theorem dX0_spreadSnow_27 : decode cX0_spreadSnow 27 = .ok (.iload_n 2, 1) := by decide +kernel
theorem dX0_spreadSnow_28 : decode cX0_spreadSnow 28 = .ok (.iload_n 1, 1) := by decide +kernel
theorem dX0_spreadSnow_29 : decode cX0_spreadSnow 29 = .ok (.isub, 1) := by decide +kernel
theorem dX0_spreadSnow_30 : decode cX0_spreadSnow 30 = .ok (.iconst 1, 1) := by decide +kernel
theorem dX0_spreadSnow_31 : decode cX0_spreadSnow 31 = .ok (.iadd, 1) := by decide +kernel
theorem dX0_spreadSnow_32 : decode cX0_spreadSnow 32 = .ok (.istore 4, 2) := by decide +kernel
theorem dX0_spreadSnow_34 : decode cX0_spreadSnow 34 = .ok (.iload 4, 2) := by decide +kernel
theorem dX0_spreadSnow_36 : decode cX0_spreadSnow 36 = .ok (.iconst 1, 1) := by decide +kernel
theorem dX0_spreadSnow_37 : decode cX0_spreadSnow 37 = .ok (.if_icmp .ge 5, 3) := by decide +kernel
theorem dX0_spreadSnow_40 : decode cX0_spreadSnow 40 = .ok (.iload_n 3, 1) := by decide +kernel
theorem dX0_spreadSnow_41 : decode cX0_spreadSnow 41 = .ok (.ireturn, 1) := by decide +kernel
theorem dX0_spreadSnow_42 : decode cX0_spreadSnow 42 = .ok (.iload_n 3, 1) := by decide +kernel
theorem dX0_spreadSnow_43 : decode cX0_spreadSnow 43 = .ok (.iload 4, 2) := by decide +kernel
theorem dX0_spreadSnow_45 : decode cX0_spreadSnow 45 = .ok (.idiv, 1) := by decide +kernel
theorem dX0_spreadSnow_46 : decode cX0_spreadSnow 46 = .ok (.istore 5, 2) := by decide +kernel
theorem dX0_spreadSnow_48 : decode cX0_spreadSnow 48 = .ok (.iload_n 3, 1) := by decide +kernel
theorem dX0_spreadSnow_49 : decode cX0_spreadSnow 49 = .ok (.iload 4, 2) := by decide +kernel
theorem dX0_spreadSnow_51 : decode cX0_spreadSnow 51 = .ok (.irem, 1) := by decide +kernel
theorem dX0_spreadSnow_52 : decode cX0_spreadSnow 52 = .ok (.istore 6, 2) := by decide +kernel
theorem dX0_spreadSnow_54 : decode cX0_spreadSnow 54 = .ok (.iload_n 1, 1) := by decide +kernel
theorem dX0_spreadSnow_55 : decode cX0_spreadSnow 55 = .ok (.istore 7, 2) := by decide +kernel
theorem dX0_spreadSnow_57 : decode cX0_spreadSnow 57 = .ok (.iload 7, 2) := by decide +kernel
theorem dX0_spreadSnow_59 : decode cX0_spreadSnow 59 = .ok (.iload_n 2, 1) := by decide +kernel
theorem dX0_spreadSnow_60 : decode cX0_spreadSnow 60 = .ok (.if_icmp .gt 42, 3) := by decide +kernel
theorem dX0_spreadSnow_63 : decode cX0_spreadSnow 63 = .ok (.aload_n 0, 1) := by decide +kernel
theorem dX0_spreadSnow_64 : decode cX0_spreadSnow 64 = .ok (.getfield 9, 3) := by decide +kernel
theorem dX0_spreadSnow_67 : decode cX0_spreadSnow 67 = .ok (.iload 7, 2) := by decide +kernel
theorem dX0_spreadSnow_69 : decode cX0_spreadSnow 69 = .ok (.iload 7, 2) := by decide +kernel
theorem dX0_spreadSnow_71 : decode cX0_spreadSnow 71 = .ok (.iload_n 1, 1) := by decide +kernel
theorem dX0_spreadSnow_72 : decode cX0_spreadSnow 72 = .ok (.isub, 1) := by decide +kernel
theorem dX0_spreadSnow_73 : decode cX0_spreadSnow 73 = .ok (.iload 6, 2) := by decide +kernel
theorem dX0_spreadSnow_75 : decode cX0_spreadSnow 75 = .ok (.if_icmp .ge 10, 3) := by decide +kernel
theorem dX0_spreadSnow_78 : decode cX0_spreadSnow 78 = .ok (.iload 5, 2) := by decide +kernel
theorem dX0_spreadSnow_80 : decode cX0_spreadSnow 80 = .ok (.iconst 1, 1) := by decide +kernel
theorem dX0_spreadSnow_81 : decode cX0_spreadSnow 81 = .ok (.iadd, 1) := by decide +kernel
theorem dX0_spreadSnow_82 : decode cX0_spreadSnow 82 = .ok (.goto 5, 3) := by decide +kernel
theorem dX0_spreadSnow_85 : decode cX0_spreadSnow 85 = .ok (.iload 5, 2) := by decide +kernel
theorem dX0_spreadSnow_87 : decode cX0_spreadSnow 87 = .ok (.iastore, 1) := by decide +kernel
theorem dX0_spreadSnow_88 : decode cX0_spreadSnow 88 = .ok (.aload_n 0, 1) := by decide +kernel
theorem dX0_spreadSnow_89 : decode cX0_spreadSnow 89 = .ok (.getfield 15, 3) := by decide +kernel
theorem dX0_spreadSnow_92 : decode cX0_spreadSnow 92 = .ok (.iload 7, 2) := by decide +kernel
theorem dX0_spreadSnow_94 : decode cX0_spreadSnow 94 = .ok (.iconst 0, 1) := by decide +kernel
theorem dX0_spreadSnow_95 : decode cX0_spreadSnow 95 = .ok (.iastore, 1) := by decide +kernel
theorem dX0_spreadSnow_96 : decode cX0_spreadSnow 96 = .ok (.iinc 7 1, 3) := by decide +kernel
theorem dX0_spreadSnow_99 : decode cX0_spreadSnow 99 = .ok (.goto (-42), 3) := by decide +kernel
theorem dX0_spreadSnow_102 : decode cX0_spreadSnow 102 = .ok (.iload_n 3, 1) := by decide +kernel
theorem dX0_spreadSnow_103 : decode cX0_spreadSnow 103 = .ok (.ireturn, 1) := by decide +kernel
set_option maxRecDepth 20000 in
theorem ggX0_letHoursGoBy_X0_letHourGoBy : GoodIn wsX0_letHoursGoBy wsX0_letHourGoBy := goodIn_r _ [5, 6, 7, 8, 9, 10, 11, 12, 13, 14, 15, 4, 16, 17, 18, 19, 20, 21, 22, 23, 24, 25, 26, 27, 28, 29, 30, 31, 32, 33, 34, 35, 36, 37, 38, 39, 40, 41, 42, 43, 44, 45, 46, 47, 48, 49, 50, 51, 52, 53, 54, 55, 56, 57, 58, 59, 60, 61, 62, 63, 64, 65, 66, 67, 68, 69, 70, 71, 72, 73] (by decide +kernel) (by decide +kernel)
set_option maxRecDepth 20000 in
theorem gX0_letHoursGoBy_X0_letHourGoBy : GoodIn wsX0_letHoursGoBy (wsV RX0 50 RX0 yX0_letHourGoBy wsX0_letHourGoBy) := goodIn_app (goodIn_of _ (by decide +kernel)) ggX0_letHoursGoBy_X0_letHourGoBy
theorem dX0_letHoursGoBy_0 : decode cX0_letHoursGoBy 0 = .ok (.iconst 0, 1) := by decide +kernel
theorem dX0_letHoursGoBy_1 : decode cX0_letHoursGoBy 1 = .ok (.istore_n 2, 1) := by decide +kernel
theorem dX0_letHoursGoBy_2 : decode cX0_letHoursGoBy 2 = .ok (.iload_n 2, 1) := by decide +kernel
theorem dX0_letHoursGoBy_3 : decode cX0_letHoursGoBy 3 = .ok (.iload_n 1, 1) := by decide +kernel
theorem dX0_letHoursGoBy_4 : decode cX0_letHoursGoBy 4 = .ok (.if_icmp .ge 13, 3) := by decide +kernel
theorem dX0_letHoursGoBy_7 : decode cX0_letHoursGoBy 7 = .ok (.aload_n 0, 1) := by decide +kernel
theorem dX0_letHoursGoBy_8 : decode cX0_letHoursGoBy 8 = .ok (.invokevirtual 50, 3) := by decide +kernel
theorem dX0_letHoursGoBy_11 : decode cX0_letHoursGoBy 11 = .ok (.iinc 2 1, 3) := by decide +kernel
theorem dX0_letHoursGoBy_14 : decode cX0_letHoursGoBy 14 = .ok (.goto (-12), 3) := by decide +kernel
theorem dX0_letHoursGoBy_17 : decode cX0_letHoursGoBy 17 = .ok (.return_, 1) := by decide +kernel
set_option maxRecDepth 20000 in
theorem ggX0_letHourGoBy_X0_hourOfDay : GoodIn wsX0_letHourGoBy wsX0_hourOfDay := goodIn_r _ [12, 7, 13, 14, 15, 16, 57, 58, 59, 60, 61, 62, 63] (by decide +kernel) (by decide +kernel)
set_option maxRecDepth 20000 in
theorem gX0_letHourGoBy_X0_hourOfDay : GoodIn wsX0_letHourGoBy (wsV RX0 53 RX0 yX0_hourOfDay wsX0_hourOfDay) := goodIn_app (goodIn_of _ (by decide +kernel)) ggX0_letHourGoBy_X0_hourOfDay
set_option maxRecDepth 20000 in
theorem ggX0_letHourGoBy_X4_wetCold : GoodIn wsX0_letHourGoBy wsX4_wetCold := goodIn_r _ [21, 22, 23, 64, 65, 66] (by decide +kernel) (by decide +kernel)
set_option maxRecDepth 20000 in
theorem gX0_letHourGoBy_X4_wetCold : GoodIn wsX0_letHourGoBy (wsV RX0 62 RX4 yX4_wetCold wsX4_wetCold) := goodIn_app (goodIn_of _ (by decide +kernel)) ggX0_letHourGoBy_X4_wetCold
set_option maxRecDepth 20000 in
theorem ggX0_letHourGoBy_X0_work : GoodIn wsX0_letHourGoBy wsX0_work := goodIn_r _ [27, 28, 29, 30, 31, 32, 33, 34, 35, 11, 36, 37, 38, 39, 40, 41, 42, 43, 44, 45, 57, 58, 59, 60, 61, 62, 63] (by decide +kernel) (by decide +kernel)
set_option maxRecDepth 20000 in
theorem gX0_letHourGoBy_X0_work : GoodIn wsX0_letHourGoBy (wsV RX0 74 RX0 yX0_work wsX0_work) := goodIn_app (goodIn_of _ (by decide +kernel)) ggX0_letHourGoBy_X0_work
set_option maxRecDepth 20000 in
theorem ggX0_letHourGoBy_X0_melt : GoodIn wsX0_letHourGoBy wsX0_melt := goodIn_r _ [49, 37, 50, 51, 31, 52, 53, 54, 55, 11, 56, 45, 57, 58, 59, 60, 61, 62, 63] (by decide +kernel) (by decide +kernel)
set_option maxRecDepth 20000 in
theorem gX0_letHourGoBy_X0_melt : GoodIn wsX0_letHourGoBy (wsV RX0 78 RX0 yX0_melt wsX0_melt) := goodIn_app (goodIn_of _ (by decide +kernel)) ggX0_letHourGoBy_X0_melt
theorem dX0_letHourGoBy_0 : decode cX0_letHourGoBy 0 = .ok (.aload_n 0, 1) := by decide +kernel
theorem dX0_letHourGoBy_1 : decode cX0_letHourGoBy 1 = .ok (.invokevirtual 53, 3) := by decide +kernel
theorem dX0_letHourGoBy_4 : decode cX0_letHourGoBy 4 = .ok (.istore_n 1, 1) := by decide +kernel
theorem dX0_letHourGoBy_5 : decode cX0_letHourGoBy 5 = .ok (.aload_n 0, 1) := by decide +kernel
theorem dX0_letHourGoBy_6 : decode cX0_letHourGoBy 6 = .ok (.getfield 22, 3) := by decide +kernel
theorem dX0_letHourGoBy_9 : decode cX0_letHourGoBy 9 = .ok (.getfield 57, 3) := by decide +kernel
theorem dX0_letHourGoBy_12 : decode cX0_letHourGoBy 12 = .ok (.iload_n 1, 1) := by decide +kernel
theorem dX0_letHourGoBy_13 : decode cX0_letHourGoBy 13 = .ok (.iaload, 1) := by decide +kernel
theorem dX0_letHourGoBy_14 : decode cX0_letHourGoBy 14 = .ok (.istore_n 2, 1) := by decide +kernel
theorem dX0_letHourGoBy_15 : decode cX0_letHourGoBy 15 = .ok (.aload_n 0, 1) := by decide +kernel
theorem dX0_letHourGoBy_16 : decode cX0_letHourGoBy 16 = .ok (.getfield 22, 3) := by decide +kernel
theorem dX0_letHourGoBy_19 : decode cX0_letHourGoBy 19 = .ok (.iload_n 1, 1) := by decide +kernel
theorem dX0_letHourGoBy_20 : decode cX0_letHourGoBy 20 = .ok (.invokevirtual 62, 3) := by decide +kernel
theorem dX0_letHourGoBy_23 : decode cX0_letHourGoBy 23 = .ok (.istore_n 3, 1) := by decide +kernel
theorem dX0_letHourGoBy_24 : decode cX0_letHourGoBy 24 = .ok (.iconst 0, 1) := by decide +kernel
theorem dX0_letHourGoBy_25 : decode cX0_letHourGoBy 25 = .ok (.istore 4, 2) := by decide +kernel
theorem dX0_letHourGoBy_27 : decode cX0_letHourGoBy 27 = .ok (.iload 4, 2) := by decide +kernel
theorem dX0_letHourGoBy_29 : decode cX0_letHourGoBy 29 = .ok (.iconst 5, 1) := by decide +kernel
theorem dX0_letHourGoBy_30 : decode cX0_letHourGoBy 30 = .ok (.if_icmp .ge 44, 3) := by decide +kernel
theorem dX0_letHourGoBy_33 : decode cX0_letHourGoBy 33 = .ok (.aload_n 0, 1) := by decide +kernel
theorem dX0_letHourGoBy_34 : decode cX0_letHourGoBy 34 = .ok (.getfield 18, 3) := by decide +kernel
theorem dX0_letHourGoBy_37 : decode cX0_letHourGoBy 37 = .ok (.iload 4, 2) := by decide +kernel
theorem dX0_letHourGoBy_39 : decode cX0_letHourGoBy 39 = .ok (.baload, 1) := by decide +kernel
theorem dX0_letHourGoBy_40 : decode cX0_letHourGoBy 40 = .ok (.ifCond .eq 28, 3) := by decide +kernel
theorem dX0_letHourGoBy_43 : decode cX0_letHourGoBy 43 = .ok (.aload_n 0, 1) := by decide +kernel
theorem dX0_letHourGoBy_44 : decode cX0_letHourGoBy 44 = .ok (.aload_n 0, 1) := by decide +kernel
theorem dX0_letHourGoBy_45 : decode cX0_letHourGoBy 45 = .ok (.getfield 26, 3) := by decide +kernel
theorem dX0_letHourGoBy_48 : decode cX0_letHourGoBy 48 = .ok (.getfield 66, 3) := by decide +kernel
theorem dX0_letHourGoBy_51 : decode cX0_letHourGoBy 51 = .ok (.iload 4, 2) := by decide +kernel
theorem dX0_letHourGoBy_53 : decode cX0_letHourGoBy 53 = .ok (.iaload, 1) := by decide +kernel
theorem dX0_letHourGoBy_54 : decode cX0_letHourGoBy 54 = .ok (.aload_n 0, 1) := by decide +kernel
theorem dX0_letHourGoBy_55 : decode cX0_letHourGoBy 55 = .ok (.getfield 26, 3) := by decide +kernel
theorem dX0_letHourGoBy_58 : decode cX0_letHourGoBy 58 = .ok (.getfield 71, 3) := by decide +kernel
theorem dX0_letHourGoBy_61 : decode cX0_letHourGoBy 61 = .ok (.iload 4, 2) := by decide +kernel
theorem dX0_letHourGoBy_63 : decode cX0_letHourGoBy 63 = .ok (.iaload, 1) := by decide +kernel
theorem dX0_letHourGoBy_64 : decode cX0_letHourGoBy 64 = .ok (.iload_n 3, 1) := by decide +kernel
theorem dX0_letHourGoBy_65 : decode cX0_letHourGoBy 65 = .ok (.invokevirtual 74, 3) := by decide +kernel
theorem dX0_letHourGoBy_68 : decode cX0_letHourGoBy 68 = .ok (.iinc 4 1, 3) := by decide +kernel
theorem dX0_letHourGoBy_71 : decode cX0_letHourGoBy 71 = .ok (.goto (-44), 3) := by decide +kernel
theorem dX0_letHourGoBy_74 : decode cX0_letHourGoBy 74 = .ok (.iload_n 2, 1) := by decide +kernel
theorem dX0_letHourGoBy_75 : decode cX0_letHourGoBy 75 = .ok (.ifCond .le 8, 3) := by decide +kernel
theorem dX0_letHourGoBy_78 : decode cX0_letHourGoBy 78 = .ok (.aload_n 0, 1) := by decide +kernel
theorem dX0_letHourGoBy_79 : decode cX0_letHourGoBy 79 = .ok (.iload_n 2, 1) := by decide +kernel
theorem dX0_letHourGoBy_80 : decode cX0_letHourGoBy 80 = .ok (.invokevirtual 78, 3) := by decide +kernel
theorem dX0_letHourGoBy_83 : decode cX0_letHourGoBy 83 = .ok (.aload_n 0, 1) := by decide +kernel
theorem dX0_letHourGoBy_84 : decode cX0_letHourGoBy 84 = .ok (.dup, 1) := by decide +kernel
theorem dX0_letHourGoBy_85 : decode cX0_letHourGoBy 85 = .ok (.getfield 34, 3) := by decide +kernel
theorem dX0_letHourGoBy_88 : decode cX0_letHourGoBy 88 = .ok (.iconst 1, 1) := by decide +kernel
theorem dX0_letHourGoBy_89 : decode cX0_letHourGoBy 89 = .ok (.iadd, 1) := by decide +kernel
theorem dX0_letHourGoBy_90 : decode cX0_letHourGoBy 90 = .ok (.putfield 34, 3) := by decide +kernel
theorem dX0_letHourGoBy_93 : decode cX0_letHourGoBy 93 = .ok (.return_, 1) := by decide +kernel
set_option maxRecDepth 20000 in
theorem ggX0_work_X0_addIce : GoodIn wsX0_work wsX0_addIce := goodIn_r _ [10, 11, 2, 3, 4, 5, 12, 13, 14, 20, 21, 22, 23, 24, 25, 26] (by decide +kernel) (by decide +kernel)
set_option maxRecDepth 20000 in
theorem gX0_work_X0_addIce : GoodIn wsX0_work (wsV RX0 82 RX0 yX0_addIce wsX0_addIce) := goodIn_app (goodIn_of _ (by decide +kernel)) ggX0_work_X0_addIce
set_option maxRecDepth 20000 in
theorem ggX0_work_X0_addSnow : GoodIn wsX0_work wsX0_addSnow := goodIn_r _ [18, 19, 2, 3, 4, 5, 12, 13, 14, 20, 21, 22, 23, 24, 25, 26] (by decide +kernel) (by decide +kernel)
set_option maxRecDepth 20000 in
theorem gX0_work_X0_addSnow : GoodIn wsX0_work (wsV RX0 88 RX0 yX0_addSnow wsX0_addSnow) := goodIn_app (goodIn_of _ (by decide +kernel)) ggX0_work_X0_addSnow
theorem dX0_work_0 : decode cX0_work 0 = .ok (.iload_n 2, 1) := by decide +kernel
theorem dX0_work_1 : decode cX0_work 1 = .ok (.aload_n 0, 1) := by decide +kernel
theorem dX0_work_2 : decode cX0_work 2 = .ok (.getfield 30, 3) := by decide +kernel
theorem dX0_work_5 : decode cX0_work 5 = .ok (.if_icmp .le 4, 3) := by decide +kernel
theorem dX0_work_8 : decode cX0_work 8 = .ok (.return_, 1) := by decide +kernel
theorem dX0_work_9 : decode cX0_work 9 = .ok (.aload_n 0, 1) := by decide +kernel
theorem dX0_work_10 : decode cX0_work 10 = .ok (.dup, 1) := by decide +kernel
theorem dX0_work_11 : decode cX0_work 11 = .ok (.getfield 30, 3) := by decide +kernel
theorem dX0_work_14 : decode cX0_work 14 = .ok (.iload_n 2, 1) := by decide +kernel
theorem dX0_work_15 : decode cX0_work 15 = .ok (.isub, 1) := by decide +kernel
theorem dX0_work_16 : decode cX0_work 16 = .ok (.putfield 30, 3) := by decide +kernel
theorem dX0_work_19 : decode cX0_work 19 = .ok (.iload_n 3, 1) := by decide +kernel
theorem dX0_work_20 : decode cX0_work 20 = .ok (.bipush (-2), 2) := by decide +kernel
theorem dX0_work_22 : decode cX0_work 22 = .ok (.if_icmp .le 9, 3) := by decide +kernel
theorem dX0_work_25 : decode cX0_work 25 = .ok (.aload_n 0, 1) := by decide +kernel
theorem dX0_work_26 : decode cX0_work 26 = .ok (.iload_n 1, 1) := by decide +kernel
theorem dX0_work_27 : decode cX0_work 27 = .ok (.invokevirtual 82, 3) := by decide +kernel
theorem dX0_work_30 : decode cX0_work 30 = .ok (.return_, 1) := by decide +kernel
theorem dX0_work_31 : decode cX0_work 31 = .ok (.iload_n 2, 1) := by decide +kernel
theorem dX0_work_32 : decode cX0_work 32 = .ok (.iload_n 3, 1) := by decide +kernel
theorem dX0_work_33 : decode cX0_work 33 = .ok (.ineg, 1) := by decide +kernel
theorem dX0_work_34 : decode cX0_work 34 = .ok (.bipush 8, 2) := by decide +kernel
theorem dX0_work_36 : decode cX0_work 36 = .ok (.invokestatic 85, 3) := by decide +kernel
theorem dX0_work_39 : decode cX0_work 39 = .ok (.imul, 1) := by decide +kernel
theorem dX0_work_40 : decode cX0_work 40 = .ok (.istore 4, 2) := by decide +kernel
theorem dX0_work_42 : decode cX0_work 42 = .ok (.aload_n 0, 1) := by decide +kernel
theorem dX0_work_43 : decode cX0_work 43 = .ok (.iload_n 1, 1) := by decide +kernel
theorem dX0_work_44 : decode cX0_work 44 = .ok (.iload 4, 2) := by decide +kernel
theorem dX0_work_46 : decode cX0_work 46 = .ok (.iconst 2, 1) := by decide +kernel
theorem dX0_work_47 : decode cX0_work 47 = .ok (.idiv, 1) := by decide +kernel
theorem dX0_work_48 : decode cX0_work 48 = .ok (.invokevirtual 88, 3) := by decide +kernel
theorem dX0_work_51 : decode cX0_work 51 = .ok (.aload_n 0, 1) := by decide +kernel
theorem dX0_work_52 : decode cX0_work 52 = .ok (.iload_n 1, 1) := by decide +kernel
theorem dX0_work_53 : decode cX0_work 53 = .ok (.iconst 1, 1) := by decide +kernel
theorem dX0_work_54 : decode cX0_work 54 = .ok (.isub, 1) := by decide +kernel
theorem dX0_work_55 : decode cX0_work 55 = .ok (.iload 4, 2) := by decide +kernel
theorem dX0_work_57 : decode cX0_work 57 = .ok (.iconst 4, 1) := by decide +kernel
theorem dX0_work_58 : decode cX0_work 58 = .ok (.idiv, 1) := by decide +kernel
theorem dX0_work_59 : decode cX0_work 59 = .ok (.invokevirtual 88, 3) := by decide +kernel
theorem dX0_work_62 : decode cX0_work 62 = .ok (.aload_n 0, 1) := by decide +kernel
theorem dX0_work_63 : decode cX0_work 63 = .ok (.iload_n 1, 1) := by decide +kernel
theorem dX0_work_64 : decode cX0_work 64 = .ok (.iconst 1, 1) := by decide +kernel
theorem dX0_work_65 : decode cX0_work 65 = .ok (.iadd, 1) := by decide +kernel
theorem dX0_work_66 : decode cX0_work 66 = .ok (.iload 4, 2) := by decide +kernel
theorem dX0_work_68 : decode cX0_work 68 = .ok (.iconst 4, 1) := by decide +kernel
theorem dX0_work_69 : decode cX0_work 69 = .ok (.idiv, 1) := by decide +kernel
theorem dX0_work_70 : decode cX0_work 70 = .ok (.invokevirtual 88, 3) := by decide +kernel
theorem dX0_work_73 : decode cX0_work 73 = .ok (.return_, 1) := by decide +kernel
set_option maxRecDepth 20000 in
theorem ggX0_addSnow_X5_isOutside : GoodIn wsX0_addSnow wsX5_isOutside := goodIn_r _ [8] (by decide +kernel) (by decide +kernel)
set_option maxRecDepth 20000 in
theorem gX0_addSnow_X5_isOutside_n92 : GoodIn wsX0_addSnow (wsX5_isOutside) := ggX0_addSnow_X5_isOutside
theorem dX0_addSnow_0 : decode cX0_addSnow 0 = .ok (.iload_n 1, 1) := by decide +kernel
theorem dX0_addSnow_1 : decode cX0_addSnow 1 = .ok (.iconst 0, 1) := by decide +kernel
theorem dX0_addSnow_2 : decode cX0_addSnow 2 = .ok (.bipush 19, 2) := by decide +kernel
theorem dX0_addSnow_4 : decode cX0_addSnow 4 = .ok (.invokestatic 92, 3) := by decide +kernel
theorem dX0_addSnow_7 : decode cX0_addSnow 7 = .ok (.ifCond .ne 23, 3) := by decide +kernel
theorem dX0_addSnow_10 : decode cX0_addSnow 10 = .ok (.aload_n 0, 1) := by decide +kernel
theorem dX0_addSnow_11 : decode cX0_addSnow 11 = .ok (.getfield 9, 3) := by decide +kernel
theorem dX0_addSnow_14 : decode cX0_addSnow 14 = .ok (.iload_n 1, 1) := by decide +kernel
theorem dX0_addSnow_15 : decode cX0_addSnow 15 = .ok (.aload_n 0, 1) := by decide +kernel
theorem dX0_addSnow_16 : decode cX0_addSnow 16 = .ok (.getfield 9, 3) := by decide +kernel
theorem dX0_addSnow_19 : decode cX0_addSnow 19 = .ok (.iload_n 1, 1) := by decide +kernel
theorem dX0_addSnow_20 : decode cX0_addSnow 20 = .ok (.iaload, 1) := by decide +kernel
theorem dX0_addSnow_21 : decode cX0_addSnow 21 = .ok (.iload_n 2, 1) := by decide +kernel
theorem dX0_addSnow_22 : decode cX0_addSnow 22 = .ok (.iadd, 1) := by decide +kernel
theorem dX0_addSnow_23 : decode cX0_addSnow 23 = .ok (.sipush 300, 3) := by decide +kernel
theorem dX0_addSnow_26 : decode cX0_addSnow 26 = .ok (.invokestatic 85, 3) := by decide +kernel
theorem dX0_addSnow_29 : decode cX0_addSnow 29 = .ok (.iastore, 1) := by decide +kernel
theorem dX0_addSnow_30 : decode cX0_addSnow 30 = .ok (.return_, 1) := by decide +kernel
set_option maxRecDepth 20000 in
theorem ggX0_addIce_X5_isOutside : GoodIn wsX0_addIce wsX5_isOutside := goodIn_r _ [8] (by decide +kernel) (by decide +kernel)
set_option maxRecDepth 20000 in
theorem gX0_addIce_X5_isOutside_n92 : GoodIn wsX0_addIce (wsX5_isOutside) := ggX0_addIce_X5_isOutside
theorem dX0_addIce_0 : decode cX0_addIce 0 = .ok (.iload_n 1, 1) := by decide +kernel
theorem dX0_addIce_1 : decode cX0_addIce 1 = .ok (.iconst 0, 1) := by decide +kernel
theorem dX0_addIce_2 : decode cX0_addIce 2 = .ok (.bipush 19, 2) := by decide +kernel
theorem dX0_addIce_4 : decode cX0_addIce 4 = .ok (.invokestatic 92, 3) := by decide +kernel
theorem dX0_addIce_7 : decode cX0_addIce 7 = .ok (.ifCond .ne 22, 3) := by decide +kernel
theorem dX0_addIce_10 : decode cX0_addIce 10 = .ok (.aload_n 0, 1) := by decide +kernel
theorem dX0_addIce_11 : decode cX0_addIce 11 = .ok (.getfield 15, 3) := by decide +kernel
theorem dX0_addIce_14 : decode cX0_addIce 14 = .ok (.iload_n 1, 1) := by decide +kernel
theorem dX0_addIce_15 : decode cX0_addIce 15 = .ok (.aload_n 0, 1) := by decide +kernel
theorem dX0_addIce_16 : decode cX0_addIce 16 = .ok (.getfield 15, 3) := by decide +kernel
theorem dX0_addIce_19 : decode cX0_addIce 19 = .ok (.iload_n 1, 1) := by decide +kernel
theorem dX0_addIce_20 : decode cX0_addIce 20 = .ok (.iaload, 1) := by decide +kernel
theorem dX0_addIce_21 : decode cX0_addIce 21 = .ok (.iconst 1, 1) := by decide +kernel
theorem dX0_addIce_22 : decode cX0_addIce 22 = .ok (.iadd, 1) := by decide +kernel
theorem dX0_addIce_23 : decode cX0_addIce 23 = .ok (.bipush 50, 2) := by decide +kernel
theorem dX0_addIce_25 : decode cX0_addIce 25 = .ok (.invokestatic 85, 3) := by decide +kernel
theorem dX0_addIce_28 : decode cX0_addIce 28 = .ok (.iastore, 1) := by decide +kernel
theorem dX0_addIce_29 : decode cX0_addIce 29 = .ok (.return_, 1) := by decide +kernel
set_option maxRecDepth 20000 in
theorem ggX0_melt_X0_takeSnow : GoodIn wsX0_melt wsX0_takeSnow := goodIn_r _ [10, 11, 2, 3, 4, 5, 12, 13, 14, 15, 16, 17, 18] (by decide +kernel) (by decide +kernel)
set_option maxRecDepth 20000 in
theorem gX0_melt_X0_takeSnow : GoodIn wsX0_melt (wsV RX0 96 RX0 yX0_takeSnow wsX0_takeSnow) := goodIn_app (goodIn_of _ (by decide +kernel)) ggX0_melt_X0_takeSnow
theorem dX0_melt_0 : decode cX0_melt 0 = .ok (.iconst 0, 1) := by decide +kernel
theorem dX0_melt_1 : decode cX0_melt 1 = .ok (.istore_n 2, 1) := by decide +kernel
theorem dX0_melt_2 : decode cX0_melt 2 = .ok (.iload_n 2, 1) := by decide +kernel
theorem dX0_melt_3 : decode cX0_melt 3 = .ok (.bipush 20, 2) := by decide +kernel
theorem dX0_melt_5 : decode cX0_melt 5 = .ok (.if_icmp .ge 33, 3) := by decide +kernel
theorem dX0_melt_8 : decode cX0_melt 8 = .ok (.aload_n 0, 1) := by decide +kernel
theorem dX0_melt_9 : decode cX0_melt 9 = .ok (.iload_n 2, 1) := by decide +kernel
theorem dX0_melt_10 : decode cX0_melt 10 = .ok (.iload_n 1, 1) := by decide +kernel
theorem dX0_melt_11 : decode cX0_melt 11 = .ok (.invokevirtual 96, 3) := by decide +kernel
theorem dX0_melt_14 : decode cX0_melt 14 = .ok (.aload_n 0, 1) := by decide +kernel
theorem dX0_melt_15 : decode cX0_melt 15 = .ok (.getfield 15, 3) := by decide +kernel
theorem dX0_melt_18 : decode cX0_melt 18 = .ok (.iload_n 2, 1) := by decide +kernel
theorem dX0_melt_19 : decode cX0_melt 19 = .ok (.iconst 0, 1) := by decide +kernel
theorem dX0_melt_20 : decode cX0_melt 20 = .ok (.aload_n 0, 1) := by decide +kernel
theorem dX0_melt_21 : decode cX0_melt 21 = .ok (.getfield 15, 3) := by decide +kernel
theorem dX0_melt_24 : decode cX0_melt 24 = .ok (.iload_n 2, 1) := by decide +kernel
theorem dX0_melt_25 : decode cX0_melt 25 = .ok (.iaload, 1) := by decide +kernel
theorem dX0_melt_26 : decode cX0_melt 26 = .ok (.iconst 1, 1) := by decide +kernel
theorem dX0_melt_27 : decode cX0_melt 27 = .ok (.isub, 1) := by decide +kernel
theorem dX0_melt_28 : decode cX0_melt 28 = .ok (.invokestatic 47, 3) := by decide +kernel
theorem dX0_melt_31 : decode cX0_melt 31 = .ok (.iastore, 1) := by decide +kernel
theorem dX0_melt_32 : decode cX0_melt 32 = .ok (.iinc 2 1, 3) := by decide +kernel
theorem dX0_melt_35 : decode cX0_melt 35 = .ok (.goto (-33), 3) := by decide +kernel
theorem dX0_melt_38 : decode cX0_melt 38 = .ok (.return_, 1) := by decide +kernel
theorem dX1_init_0 : decode cX1_init 0 = .ok (.aload_n 0, 1) := by decide +kernel
theorem dX1_init_1 : decode cX1_init 1 = .ok (.invokespecial 3, 3) := by decide +kernel
theorem dX1_init_4 : decode cX1_init 4 = .ok (.aload_n 0, 1) := by decide +kernel
theorem dX1_init_5 : decode cX1_init 5 = .ok (.bipush 30, 2) := by decide +kernel
theorem dX1_init_7 : decode cX1_init 7 = .ok (.newarray .int, 2) := by decide +kernel
theorem dX1_init_9 : decode cX1_init 9 = .ok (.putfield 9, 3) := by decide +kernel
theorem dX1_init_12 : decode cX1_init 12 = .ok (.aload_n 0, 1) := by decide +kernel
theorem dX1_init_13 : decode cX1_init 13 = .ok (.bipush 30, 2) := by decide +kernel
theorem dX1_init_15 : decode cX1_init 15 = .ok (.newarray .int, 2) := by decide +kernel
theorem dX1_init_17 : decode cX1_init 17 = .ok (.putfield 15, 3) := by decide +kernel
theorem dX1_init_20 : decode cX1_init 20 = .ok (.aload_n 0, 1) := by decide +kernel
theorem dX1_init_21 : decode cX1_init 21 = .ok (.bipush 30, 2) := by decide +kernel
theorem dX1_init_23 : decode cX1_init 23 = .ok (.newarray .int, 2) := by decide +kernel
theorem dX1_init_25 : decode cX1_init 25 = .ok (.putfield 18, 3) := by decide +kernel
theorem dX1_init_28 : decode cX1_init 28 = .ok (.aload_n 0, 1) := by decide +kernel
theorem dX1_init_29 : decode cX1_init 29 = .ok (.bipush 30, 2) := by decide +kernel
theorem dX1_init_31 : decode cX1_init 31 = .ok (.newarray .int, 2) := by decide +kernel
theorem dX1_init_33 : decode cX1_init 33 = .ok (.putfield 21, 3) := by decide +kernel
theorem dX1_init_36 : decode cX1_init 36 = .ok (.aload_n 0, 1) := by decide +kernel
theorem dX1_init_37 : decode cX1_init 37 = .ok (.bipush 30, 2) := by decide +kernel
theorem dX1_init_39 : decode cX1_init 39 = .ok (.newarray .int, 2) := by decide +kernel
theorem dX1_init_41 : decode cX1_init 41 = .ok (.putfield 24, 3) := by decide +kernel
theorem dX1_init_44 : decode cX1_init 44 = .ok (.return_, 1) := by decide +kernel
theorem dX1_add_0 : decode cX1_add 0 = .ok (.aload_n 0, 1) := by decide +kernel
theorem dX1_add_1 : decode cX1_add 1 = .ok (.getfield 27, 3) := by decide +kernel
theorem dX1_add_4 : decode cX1_add 4 = .ok (.istore 6, 2) := by decide +kernel
theorem dX1_add_6 : decode cX1_add 6 = .ok (.aload_n 0, 1) := by decide +kernel
theorem dX1_add_7 : decode cX1_add 7 = .ok (.getfield 9, 3) := by decide +kernel
theorem dX1_add_10 : decode cX1_add 10 = .ok (.iload 6, 2) := by decide +kernel
theorem dX1_add_12 : decode cX1_add 12 = .ok (.iload_n 1, 1) := by decide +kernel
theorem dX1_add_13 : decode cX1_add 13 = .ok (.iastore, 1) := by decide +kernel
theorem dX1_add_14 : decode cX1_add 14 = .ok (.aload_n 0, 1) := by decide +kernel
theorem dX1_add_15 : decode cX1_add 15 = .ok (.getfield 15, 3) := by decide +kernel
theorem dX1_add_18 : decode cX1_add 18 = .ok (.iload 6, 2) := by decide +kernel
theorem dX1_add_20 : decode cX1_add 20 = .ok (.iload_n 2, 1) := by decide +kernel
theorem dX1_add_21 : decode cX1_add 21 = .ok (.iastore, 1) := by decide +kernel
theorem dX1_add_22 : decode cX1_add 22 = .ok (.aload_n 0, 1) := by decide +kernel
theorem dX1_add_23 : decode cX1_add 23 = .ok (.getfield 18, 3) := by decide +kernel
theorem dX1_add_26 : decode cX1_add 26 = .ok (.iload 6, 2) := by decide +kernel
theorem dX1_add_28 : decode cX1_add 28 = .ok (.iload_n 3, 1) := by decide +kernel
theorem dX1_add_29 : decode cX1_add 29 = .ok (.iastore, 1) := by decide +kernel
theorem dX1_add_30 : decode cX1_add 30 = .ok (.aload_n 0, 1) := by decide +kernel
theorem dX1_add_31 : decode cX1_add 31 = .ok (.getfield 21, 3) := by decide +kernel
theorem dX1_add_34 : decode cX1_add 34 = .ok (.iload 6, 2) := by decide +kernel
theorem dX1_add_36 : decode cX1_add 36 = .ok (.iload 4, 2) := by decide +kernel
theorem dX1_add_38 : decode cX1_add 38 = .ok (.ifCond .eq 7, 3) := by decide +kernel
theorem dX1_add_41 : decode cX1_add 41 = .ok (.iconst 1, 1) := by decide +kernel
theorem dX1_add_42 : decode cX1_add 42 = .ok (.goto 4, 3) := by decide +kernel
theorem dX1_add_45 : decode cX1_add 45 = .ok (.iconst 0, 1) := by decide +kernel
theorem dX1_add_46 : decode cX1_add 46 = .ok (.iastore, 1) := by decide +kernel
theorem dX1_add_47 : decode cX1_add 47 = .ok (.aload_n 0, 1) := by decide +kernel
theorem dX1_add_48 : decode cX1_add 48 = .ok (.getfield 24, 3) := by decide +kernel
theorem dX1_add_51 : decode cX1_add 51 = .ok (.iload 6, 2) := by decide +kernel
theorem dX1_add_53 : decode cX1_add 53 = .ok (.iload 5, 2) := by decide +kernel
theorem dX1_add_55 : decode cX1_add 55 = .ok (.iastore, 1) := by decide +kernel
theorem dX1_add_56 : decode cX1_add 56 = .ok (.aload_n 0, 1) := by decide +kernel
theorem dX1_add_57 : decode cX1_add 57 = .ok (.iload 6, 2) := by decide +kernel
theorem dX1_add_59 : decode cX1_add 59 = .ok (.iconst 1, 1) := by decide +kernel
theorem dX1_add_60 : decode cX1_add 60 = .ok (.iadd, 1) := by decide +kernel
theorem dX1_add_61 : decode cX1_add 61 = .ok (.putfield 27, 3) := by decide +kernel
theorem dX1_add_64 : decode cX1_add 64 = .ok (.iload 6, 2) := by decide +kernel
theorem dX1_add_66 : decode cX1_add 66 = .ok (.ireturn, 1) := by decide +kernel
theorem dX1_tell_0 : decode cX1_tell 0 = .ok (.iload_n 2, 1) := by decide +kernel
theorem dX1_tell_1 : decode cX1_tell 1 = .ok (.tableswitch 59 0 3 #[31, 38, 45, 52], 31) := by decide +kernel
theorem dX1_tell_32 : decode cX1_tell 32 = .ok (.aload_n 0, 1) := by decide +kernel
theorem dX1_tell_33 : decode cX1_tell 33 = .ok (.getfield 9, 3) := by decide +kernel
theorem dX1_tell_36 : decode cX1_tell 36 = .ok (.iload_n 1, 1) := by decide +kernel
theorem dX1_tell_37 : decode cX1_tell 37 = .ok (.iaload, 1) := by decide +kernel
theorem dX1_tell_38 : decode cX1_tell 38 = .ok (.ireturn, 1) := by decide +kernel
theorem dX1_tell_39 : decode cX1_tell 39 = .ok (.aload_n 0, 1) := by decide +kernel
theorem dX1_tell_40 : decode cX1_tell 40 = .ok (.getfield 15, 3) := by decide +kernel
theorem dX1_tell_43 : decode cX1_tell 43 = .ok (.iload_n 1, 1) := by decide +kernel
theorem dX1_tell_44 : decode cX1_tell 44 = .ok (.iaload, 1) := by decide +kernel
theorem dX1_tell_45 : decode cX1_tell 45 = .ok (.ireturn, 1) := by decide +kernel
theorem dX1_tell_46 : decode cX1_tell 46 = .ok (.aload_n 0, 1) := by decide +kernel
theorem dX1_tell_47 : decode cX1_tell 47 = .ok (.getfield 18, 3) := by decide +kernel
theorem dX1_tell_50 : decode cX1_tell 50 = .ok (.iload_n 1, 1) := by decide +kernel
theorem dX1_tell_51 : decode cX1_tell 51 = .ok (.iaload, 1) := by decide +kernel
theorem dX1_tell_52 : decode cX1_tell 52 = .ok (.ireturn, 1) := by decide +kernel
theorem dX1_tell_53 : decode cX1_tell 53 = .ok (.aload_n 0, 1) := by decide +kernel
theorem dX1_tell_54 : decode cX1_tell 54 = .ok (.getfield 21, 3) := by decide +kernel
theorem dX1_tell_57 : decode cX1_tell 57 = .ok (.iload_n 1, 1) := by decide +kernel
theorem dX1_tell_58 : decode cX1_tell 58 = .ok (.iaload, 1) := by decide +kernel
theorem dX1_tell_59 : decode cX1_tell 59 = .ok (.ireturn, 1) := by decide +kernel
theorem dX1_tell_60 : decode cX1_tell 60 = .ok (.aload_n 0, 1) := by decide +kernel
theorem dX1_tell_61 : decode cX1_tell 61 = .ok (.getfield 24, 3) := by decide +kernel
theorem dX1_tell_64 : decode cX1_tell 64 = .ok (.iload_n 1, 1) := by decide +kernel
theorem dX1_tell_65 : decode cX1_tell 65 = .ok (.iaload, 1) := by decide +kernel
theorem dX1_tell_66 : decode cX1_tell 66 = .ok (.ireturn, 1) := by decide +kernel
theorem dX1_bestTwo_0 : decode cX1_bestTwo 0 = .ok (.iconst 0, 1) := by decide +kernel
theorem dX1_bestTwo_1 : decode cX1_bestTwo 1 = .ok (.istore_n 2, 1) := by decide +kernel
theorem dX1_bestTwo_2 : decode cX1_bestTwo 2 = .ok (.iconst 0, 1) := by decide +kernel
theorem dX1_bestTwo_3 : decode cX1_bestTwo 3 = .ok (.istore_n 3, 1) := by decide +kernel
theorem dX1_bestTwo_4 : decode cX1_bestTwo 4 = .ok (.iconst 0, 1) := by decide +kernel
theorem dX1_bestTwo_5 : decode cX1_bestTwo 5 = .ok (.istore 4, 2) := by decide +kernel
theorem dX1_bestTwo_7 : decode cX1_bestTwo 7 = .ok (.iload 4, 2) := by decide +kernel
theorem dX1_bestTwo_9 : decode cX1_bestTwo 9 = .ok (.aload_n 0, 1) := by decide +kernel
theorem dX1_bestTwo_10 : decode cX1_bestTwo 10 = .ok (.getfield 27, 3) := by decide +kernel
theorem dX1_bestTwo_13 : decode cX1_bestTwo 13 = .ok (.if_icmp .ge 48, 3) := by decide +kernel
theorem dX1_bestTwo_16 : decode cX1_bestTwo 16 = .ok (.aload_n 0, 1) := by decide +kernel
theorem dX1_bestTwo_17 : decode cX1_bestTwo 17 = .ok (.getfield 9, 3) := by decide +kernel
theorem dX1_bestTwo_20 : decode cX1_bestTwo 20 = .ok (.iload 4, 2) := by decide +kernel
theorem dX1_bestTwo_22 : decode cX1_bestTwo 22 = .ok (.iaload, 1) := by decide +kernel
theorem dX1_bestTwo_23 : decode cX1_bestTwo 23 = .ok (.iload_n 1, 1) := by decide +kernel
theorem dX1_bestTwo_24 : decode cX1_bestTwo 24 = .ok (.if_icmp .ne 31, 3) := by decide +kernel
theorem dX1_bestTwo_27 : decode cX1_bestTwo 27 = .ok (.iload_n 3, 1) := by decide +kernel
theorem dX1_bestTwo_28 : decode cX1_bestTwo 28 = .ok (.iload_n 2, 1) := by decide +kernel
theorem dX1_bestTwo_29 : decode cX1_bestTwo 29 = .ok (.aload_n 0, 1) := by decide +kernel
theorem dX1_bestTwo_30 : decode cX1_bestTwo 30 = .ok (.getfield 18, 3) := by decide +kernel
theorem dX1_bestTwo_33 : decode cX1_bestTwo 33 = .ok (.iload 4, 2) := by decide +kernel
theorem dX1_bestTwo_35 : decode cX1_bestTwo 35 = .ok (.iaload, 1) := by decide +kernel
theorem dX1_bestTwo_36 : decode cX1_bestTwo 36 = .ok (.invokestatic 31, 3) := by decide +kernel
theorem dX1_bestTwo_39 : decode cX1_bestTwo 39 = .ok (.invokestatic 37, 3) := by decide +kernel
theorem dX1_bestTwo_42 : decode cX1_bestTwo 42 = .ok (.istore_n 3, 1) := by decide +kernel
theorem dX1_bestTwo_43 : decode cX1_bestTwo 43 = .ok (.iload_n 2, 1) := by decide +kernel
theorem dX1_bestTwo_44 : decode cX1_bestTwo 44 = .ok (.aload_n 0, 1) := by decide +kernel
theorem dX1_bestTwo_45 : decode cX1_bestTwo 45 = .ok (.getfield 18, 3) := by decide +kernel
theorem dX1_bestTwo_48 : decode cX1_bestTwo 48 = .ok (.iload 4, 2) := by decide +kernel
theorem dX1_bestTwo_50 : decode cX1_bestTwo 50 = .ok (.iaload, 1) := by decide +kernel
theorem dX1_bestTwo_51 : decode cX1_bestTwo 51 = .ok (.invokestatic 37, 3) := by decide +kernel
theorem dX1_bestTwo_54 : decode cX1_bestTwo 54 = .ok (.istore_n 2, 1) := by decide +kernel
theorem dX1_bestTwo_55 : decode cX1_bestTwo 55 = .ok (.iinc 4 1, 3) := by decide +kernel
theorem dX1_bestTwo_58 : decode cX1_bestTwo 58 = .ok (.goto (-51), 3) := by decide +kernel
theorem dX1_bestTwo_61 : decode cX1_bestTwo 61 = .ok (.iload_n 2, 1) := by decide +kernel
theorem dX1_bestTwo_62 : decode cX1_bestTwo 62 = .ok (.iload_n 3, 1) := by decide +kernel
theorem dX1_bestTwo_63 : decode cX1_bestTwo 63 = .ok (.iadd, 1) := by decide +kernel
theorem dX1_bestTwo_64 : decode cX1_bestTwo 64 = .ok (.ireturn, 1) := by decide +kernel
set_option maxRecDepth 20000 in
theorem ggX1_countFalls_X5_sum : GoodIn wsX1_countFalls wsX5_sum := goodIn_r _ [4] (by decide +kernel) (by decide +kernel)
set_option maxRecDepth 20000 in
theorem gX1_countFalls_X5_sum_n40 : GoodIn wsX1_countFalls (wsX5_sum) := ggX1_countFalls_X5_sum
theorem dX1_countFalls_0 : decode cX1_countFalls 0 = .ok (.aload_n 0, 1) := by decide +kernel
theorem dX1_countFalls_1 : decode cX1_countFalls 1 = .ok (.getfield 21, 3) := by decide +kernel
theorem dX1_countFalls_4 : decode cX1_countFalls 4 = .ok (.invokestatic 40, 3) := by decide +kernel
theorem dX1_countFalls_7 : decode cX1_countFalls 7 = .ok (.ireturn, 1) := by decide +kernel
set_option maxRecDepth 20000 in
theorem ggX1_allPoints_X5_sum : GoodIn wsX1_allPoints wsX5_sum := goodIn_r _ [4] (by decide +kernel) (by decide +kernel)
set_option maxRecDepth 20000 in
theorem gX1_allPoints_X5_sum_n40 : GoodIn wsX1_allPoints (wsX5_sum) := ggX1_allPoints_X5_sum
theorem dX1_allPoints_0 : decode cX1_allPoints 0 = .ok (.aload_n 0, 1) := by decide +kernel
theorem dX1_allPoints_1 : decode cX1_allPoints 1 = .ok (.getfield 18, 3) := by decide +kernel
theorem dX1_allPoints_4 : decode cX1_allPoints 4 = .ok (.invokestatic 40, 3) := by decide +kernel
theorem dX1_allPoints_7 : decode cX1_allPoints 7 = .ok (.ireturn, 1) := by decide +kernel
set_option maxRecDepth 20000 in
theorem ggX1_addTo_X1_tell : GoodIn wsX1_addTo wsX1_tell := goodIn_r _ [7, 8, 9, 10, 11, 12, 13, 14, 15, 16, 17, 18] (by decide +kernel) (by decide +kernel)
set_option maxRecDepth 20000 in
theorem gX1_addTo_X1_tell : GoodIn wsX1_addTo (wsV RX1 46 RX1 yX1_tell wsX1_tell) := goodIn_app (goodIn_of _ (by decide +kernel)) ggX1_addTo_X1_tell
theorem dX1_addTo_0 : decode cX1_addTo 0 = .ok (.lload_n 1, 1) := by decide +kernel
theorem dX1_addTo_1 : decode cX1_addTo 1 = .ok (.lstore_n 3, 1) := by decide +kernel
theorem dX1_addTo_2 : decode cX1_addTo 2 = .ok (.iconst 0, 1) := by decide +kernel
theorem dX1_addTo_3 : decode cX1_addTo 3 = .ok (.istore 5, 2) := by decide +kernel
theorem dX1_addTo_5 : decode cX1_addTo 5 = .ok (.iload 5, 2) := by decide +kernel
theorem dX1_addTo_7 : decode cX1_addTo 7 = .ok (.aload_n 0, 1) := by decide +kernel
theorem dX1_addTo_8 : decode cX1_addTo 8 = .ok (.getfield 27, 3) := by decide +kernel
theorem dX1_addTo_11 : decode cX1_addTo 11 = .ok (.if_icmp .ge 40, 3) := by decide +kernel
theorem dX1_addTo_14 : decode cX1_addTo 14 = .ok (.iconst 0, 1) := by decide +kernel
theorem dX1_addTo_15 : decode cX1_addTo 15 = .ok (.istore 6, 2) := by decide +kernel
theorem dX1_addTo_17 : decode cX1_addTo 17 = .ok (.iload 6, 2) := by decide +kernel
theorem dX1_addTo_19 : decode cX1_addTo 19 = .ok (.iconst 5, 1) := by decide +kernel
theorem dX1_addTo_20 : decode cX1_addTo 20 = .ok (.if_icmp .ge 25, 3) := by decide +kernel
theorem dX1_addTo_23 : decode cX1_addTo 23 = .ok (.lload_n 3, 1) := by decide +kernel
theorem dX1_addTo_24 : decode cX1_addTo 24 = .ok (.ldc2_w 44, 3) := by decide +kernel
theorem dX1_addTo_27 : decode cX1_addTo 27 = .ok (.lmul, 1) := by decide +kernel
theorem dX1_addTo_28 : decode cX1_addTo 28 = .ok (.aload_n 0, 1) := by decide +kernel
theorem dX1_addTo_29 : decode cX1_addTo 29 = .ok (.iload 5, 2) := by decide +kernel
theorem dX1_addTo_31 : decode cX1_addTo 31 = .ok (.iload 6, 2) := by decide +kernel
theorem dX1_addTo_33 : decode cX1_addTo 33 = .ok (.invokevirtual 46, 3) := by decide +kernel
theorem dX1_addTo_36 : decode cX1_addTo 36 = .ok (.i2l, 1) := by decide +kernel
theorem dX1_addTo_37 : decode cX1_addTo 37 = .ok (.ladd, 1) := by decide +kernel
theorem dX1_addTo_38 : decode cX1_addTo 38 = .ok (.lstore_n 3, 1) := by decide +kernel
theorem dX1_addTo_39 : decode cX1_addTo 39 = .ok (.iinc 6 1, 3) := by decide +kernel
theorem dX1_addTo_42 : decode cX1_addTo 42 = .ok (.goto (-25), 3) := by decide +kernel
theorem dX1_addTo_45 : decode cX1_addTo 45 = .ok (.iinc 5 1, 3) := by decide +kernel
theorem dX1_addTo_48 : decode cX1_addTo 48 = .ok (.goto (-43), 3) := by decide +kernel
theorem dX1_addTo_51 : decode cX1_addTo 51 = .ok (.lload_n 3, 1) := by decide +kernel
theorem dX1_addTo_52 : decode cX1_addTo 52 = .ok (.lreturn, 1) := by decide +kernel
theorem dX2_init_0 : decode cX2_init 0 = .ok (.aload_n 0, 1) := by decide +kernel
theorem dX2_init_1 : decode cX2_init 1 = .ok (.invokespecial 3, 3) := by decide +kernel
theorem dX2_init_4 : decode cX2_init 4 = .ok (.aload_n 0, 1) := by decide +kernel
theorem dX2_init_5 : decode cX2_init 5 = .ok (.iconst 5, 1) := by decide +kernel
theorem dX2_init_6 : decode cX2_init 6 = .ok (.newarray .int, 2) := by decide +kernel
theorem dX2_init_8 : decode cX2_init 8 = .ok (.putfield 9, 3) := by decide +kernel
theorem dX2_init_11 : decode cX2_init 11 = .ok (.iconst 0, 1) := by decide +kernel
theorem dX2_init_12 : decode cX2_init 12 = .ok (.istore_n 1, 1) := by decide +kernel
theorem dX2_init_13 : decode cX2_init 13 = .ok (.iload_n 1, 1) := by decide +kernel
theorem dX2_init_14 : decode cX2_init 14 = .ok (.iconst 5, 1) := by decide +kernel
theorem dX2_init_15 : decode cX2_init 15 = .ok (.if_icmp .ge 16, 3) := by decide +kernel
theorem dX2_init_18 : decode cX2_init 18 = .ok (.aload_n 0, 1) := by decide +kernel
theorem dX2_init_19 : decode cX2_init 19 = .ok (.getfield 9, 3) := by decide +kernel
theorem dX2_init_22 : decode cX2_init 22 = .ok (.iload_n 1, 1) := by decide +kernel
theorem dX2_init_23 : decode cX2_init 23 = .ok (.iload_n 1, 1) := by decide +kernel
theorem dX2_init_24 : decode cX2_init 24 = .ok (.iastore, 1) := by decide +kernel
theorem dX2_init_25 : decode cX2_init 25 = .ok (.iinc 1 1, 3) := by decide +kernel
theorem dX2_init_28 : decode cX2_init 28 = .ok (.goto (-15), 3) := by decide +kernel
theorem dX2_init_31 : decode cX2_init 31 = .ok (.return_, 1) := by decide +kernel
set_option maxRecDepth 20000 in
theorem ggX2_marks_X5_hold : GoodIn wsX2_marks wsX5_hold := goodIn_r _ [14, 15, 10, 3, 11, 16, 7, 8] (by decide +kernel) (by decide +kernel)
set_option maxRecDepth 20000 in
theorem gX2_marks_X5_hold_n21 : GoodIn wsX2_marks (wsX5_hold) := ggX2_marks_X5_hold
theorem dX2_marks_0 : decode cX2_marks 0 = .ok (.iconst 0, 1) := by decide +kernel
theorem dX2_marks_1 : decode cX2_marks 1 = .ok (.istore 4, 2) := by decide +kernel
theorem dX2_marks_3 : decode cX2_marks 3 = .ok (.iconst 0, 1) := by decide +kernel
theorem dX2_marks_4 : decode cX2_marks 4 = .ok (.istore 5, 2) := by decide +kernel
theorem dX2_marks_6 : decode cX2_marks 6 = .ok (.bipush 20, 2) := by decide +kernel
theorem dX2_marks_8 : decode cX2_marks 8 = .ok (.istore 6, 2) := by decide +kernel
theorem dX2_marks_10 : decode cX2_marks 10 = .ok (.iload_n 1, 1) := by decide +kernel
theorem dX2_marks_11 : decode cX2_marks 11 = .ok (.iload_n 2, 1) := by decide +kernel
theorem dX2_marks_12 : decode cX2_marks 12 = .ok (.invokestatic 15, 3) := by decide +kernel
theorem dX2_marks_15 : decode cX2_marks 15 = .ok (.isub, 1) := by decide +kernel
theorem dX2_marks_16 : decode cX2_marks 16 = .ok (.iload_n 3, 1) := by decide +kernel
theorem dX2_marks_17 : decode cX2_marks 17 = .ok (.ifCond .eq 8, 3) := by decide +kernel
theorem dX2_marks_20 : decode cX2_marks 20 = .ok (.bipush 8, 2) := by decide +kernel
theorem dX2_marks_22 : decode cX2_marks 22 = .ok (.goto 4, 3) := by decide +kernel
theorem dX2_marks_25 : decode cX2_marks 25 = .ok (.iconst 0, 1) := by decide +kernel
theorem dX2_marks_26 : decode cX2_marks 26 = .ok (.isub, 1) := by decide +kernel
theorem dX2_marks_27 : decode cX2_marks 27 = .ok (.istore 7, 2) := by decide +kernel
theorem dX2_marks_29 : decode cX2_marks 29 = .ok (.iconst 0, 1) := by decide +kernel
theorem dX2_marks_30 : decode cX2_marks 30 = .ok (.istore 8, 2) := by decide +kernel
theorem dX2_marks_32 : decode cX2_marks 32 = .ok (.iload 8, 2) := by decide +kernel
theorem dX2_marks_34 : decode cX2_marks 34 = .ok (.iconst 5, 1) := by decide +kernel
theorem dX2_marks_35 : decode cX2_marks 35 = .ok (.if_icmp .ge 52, 3) := by decide +kernel
theorem dX2_marks_38 : decode cX2_marks 38 = .ok (.iload 7, 2) := by decide +kernel
theorem dX2_marks_40 : decode cX2_marks 40 = .ok (.aload_n 0, 1) := by decide +kernel
theorem dX2_marks_41 : decode cX2_marks 41 = .ok (.getfield 9, 3) := by decide +kernel
theorem dX2_marks_44 : decode cX2_marks 44 = .ok (.iload 8, 2) := by decide +kernel
theorem dX2_marks_46 : decode cX2_marks 46 = .ok (.iaload, 1) := by decide +kernel
theorem dX2_marks_47 : decode cX2_marks 47 = .ok (.isub, 1) := by decide +kernel
theorem dX2_marks_48 : decode cX2_marks 48 = .ok (.iconst 0, 1) := by decide +kernel
theorem dX2_marks_49 : decode cX2_marks 49 = .ok (.bipush 20, 2) := by decide +kernel
theorem dX2_marks_51 : decode cX2_marks 51 = .ok (.invokestatic 21, 3) := by decide +kernel
theorem dX2_marks_54 : decode cX2_marks 54 = .ok (.istore 9, 2) := by decide +kernel
theorem dX2_marks_56 : decode cX2_marks 56 = .ok (.iload 4, 2) := by decide +kernel
theorem dX2_marks_58 : decode cX2_marks 58 = .ok (.iload 9, 2) := by decide +kernel
theorem dX2_marks_60 : decode cX2_marks 60 = .ok (.iadd, 1) := by decide +kernel
theorem dX2_marks_61 : decode cX2_marks 61 = .ok (.istore 4, 2) := by decide +kernel
theorem dX2_marks_63 : decode cX2_marks 63 = .ok (.iload 5, 2) := by decide +kernel
theorem dX2_marks_65 : decode cX2_marks 65 = .ok (.iload 9, 2) := by decide +kernel
theorem dX2_marks_67 : decode cX2_marks 67 = .ok (.invokestatic 25, 3) := by decide +kernel
theorem dX2_marks_70 : decode cX2_marks 70 = .ok (.istore 5, 2) := by decide +kernel
theorem dX2_marks_72 : decode cX2_marks 72 = .ok (.iload 6, 2) := by decide +kernel
theorem dX2_marks_74 : decode cX2_marks 74 = .ok (.iload 9, 2) := by decide +kernel
theorem dX2_marks_76 : decode cX2_marks 76 = .ok (.invokestatic 29, 3) := by decide +kernel
theorem dX2_marks_79 : decode cX2_marks 79 = .ok (.istore 6, 2) := by decide +kernel
theorem dX2_marks_81 : decode cX2_marks 81 = .ok (.iinc 8 1, 3) := by decide +kernel
theorem dX2_marks_84 : decode cX2_marks 84 = .ok (.goto (-52), 3) := by decide +kernel
theorem dX2_marks_87 : decode cX2_marks 87 = .ok (.iload 4, 2) := by decide +kernel
theorem dX2_marks_89 : decode cX2_marks 89 = .ok (.iload 5, 2) := by decide +kernel
theorem dX2_marks_91 : decode cX2_marks 91 = .ok (.isub, 1) := by decide +kernel
theorem dX2_marks_92 : decode cX2_marks 92 = .ok (.iload 6, 2) := by decide +kernel
theorem dX2_marks_94 : decode cX2_marks 94 = .ok (.isub, 1) := by decide +kernel
theorem dX2_marks_95 : decode cX2_marks 95 = .ok (.ireturn, 1) := by decide +kernel
theorem dX2_addTo_0 : decode cX2_addTo 0 = .ok (.lload_n 1, 1) := by decide +kernel
theorem dX2_addTo_1 : decode cX2_addTo 1 = .ok (.lstore_n 3, 1) := by decide +kernel
theorem dX2_addTo_2 : decode cX2_addTo 2 = .ok (.iconst 0, 1) := by decide +kernel
theorem dX2_addTo_3 : decode cX2_addTo 3 = .ok (.istore 5, 2) := by decide +kernel
theorem dX2_addTo_5 : decode cX2_addTo 5 = .ok (.iload 5, 2) := by decide +kernel
theorem dX2_addTo_7 : decode cX2_addTo 7 = .ok (.iconst 5, 1) := by decide +kernel
theorem dX2_addTo_8 : decode cX2_addTo 8 = .ok (.if_icmp .ge 24, 3) := by decide +kernel
theorem dX2_addTo_11 : decode cX2_addTo 11 = .ok (.lload_n 3, 1) := by decide +kernel
theorem dX2_addTo_12 : decode cX2_addTo 12 = .ok (.ldc2_w 32, 3) := by decide +kernel
theorem dX2_addTo_15 : decode cX2_addTo 15 = .ok (.lmul, 1) := by decide +kernel
theorem dX2_addTo_16 : decode cX2_addTo 16 = .ok (.aload_n 0, 1) := by decide +kernel
theorem dX2_addTo_17 : decode cX2_addTo 17 = .ok (.getfield 9, 3) := by decide +kernel
theorem dX2_addTo_20 : decode cX2_addTo 20 = .ok (.iload 5, 2) := by decide +kernel
theorem dX2_addTo_22 : decode cX2_addTo 22 = .ok (.iaload, 1) := by decide +kernel
theorem dX2_addTo_23 : decode cX2_addTo 23 = .ok (.i2l, 1) := by decide +kernel
theorem dX2_addTo_24 : decode cX2_addTo 24 = .ok (.ladd, 1) := by decide +kernel
theorem dX2_addTo_25 : decode cX2_addTo 25 = .ok (.lstore_n 3, 1) := by decide +kernel
theorem dX2_addTo_26 : decode cX2_addTo 26 = .ok (.iinc 5 1, 3) := by decide +kernel
theorem dX2_addTo_29 : decode cX2_addTo 29 = .ok (.goto (-24), 3) := by decide +kernel
theorem dX2_addTo_32 : decode cX2_addTo 32 = .ok (.lload_n 3, 1) := by decide +kernel
theorem dX2_addTo_33 : decode cX2_addTo 33 = .ok (.lreturn, 1) := by decide +kernel
theorem dX3_init_0 : decode cX3_init 0 = .ok (.aload_n 0, 1) := by decide +kernel
theorem dX3_init_1 : decode cX3_init 1 = .ok (.invokespecial 3, 3) := by decide +kernel
theorem dX3_init_4 : decode cX3_init 4 = .ok (.aload_n 0, 1) := by decide +kernel
theorem dX3_init_5 : decode cX3_init 5 = .ok (.iconst 5, 1) := by decide +kernel
theorem dX3_init_6 : decode cX3_init 6 = .ok (.newarray .int, 2) := by decide +kernel
theorem dX3_init_8 : decode cX3_init 8 = .ok (.putfield 9, 3) := by decide +kernel
theorem dX3_init_11 : decode cX3_init 11 = .ok (.aload_n 0, 1) := by decide +kernel
theorem dX3_init_12 : decode cX3_init 12 = .ok (.iconst 5, 1) := by decide +kernel
theorem dX3_init_13 : decode cX3_init 13 = .ok (.newarray .int, 2) := by decide +kernel
theorem dX3_init_15 : decode cX3_init 15 = .ok (.putfield 15, 3) := by decide +kernel
theorem dX3_init_18 : decode cX3_init 18 = .ok (.return_, 1) := by decide +kernel
theorem dX3_setUp_0 : decode cX3_setUp 0 = .ok (.aload_n 0, 1) := by decide +kernel
theorem dX3_setUp_1 : decode cX3_setUp 1 = .ok (.getfield 18, 3) := by decide +kernel
theorem dX3_setUp_4 : decode cX3_setUp 4 = .ok (.istore_n 3, 1) := by decide +kernel
theorem dX3_setUp_5 : decode cX3_setUp 5 = .ok (.aload_n 0, 1) := by decide +kernel
theorem dX3_setUp_6 : decode cX3_setUp 6 = .ok (.getfield 9, 3) := by decide +kernel
theorem dX3_setUp_9 : decode cX3_setUp 9 = .ok (.iload_n 3, 1) := by decide +kernel
theorem dX3_setUp_10 : decode cX3_setUp 10 = .ok (.iload_n 1, 1) := by decide +kernel
theorem dX3_setUp_11 : decode cX3_setUp 11 = .ok (.iastore, 1) := by decide +kernel
theorem dX3_setUp_12 : decode cX3_setUp 12 = .ok (.aload_n 0, 1) := by decide +kernel
theorem dX3_setUp_13 : decode cX3_setUp 13 = .ok (.getfield 15, 3) := by decide +kernel
theorem dX3_setUp_16 : decode cX3_setUp 16 = .ok (.iload_n 3, 1) := by decide +kernel
theorem dX3_setUp_17 : decode cX3_setUp 17 = .ok (.iload_n 2, 1) := by decide +kernel
theorem dX3_setUp_18 : decode cX3_setUp 18 = .ok (.iastore, 1) := by decide +kernel
theorem dX3_setUp_19 : decode cX3_setUp 19 = .ok (.aload_n 0, 1) := by decide +kernel
theorem dX3_setUp_20 : decode cX3_setUp 20 = .ok (.iload_n 3, 1) := by decide +kernel
theorem dX3_setUp_21 : decode cX3_setUp 21 = .ok (.iconst 1, 1) := by decide +kernel
theorem dX3_setUp_22 : decode cX3_setUp 22 = .ok (.iadd, 1) := by decide +kernel
theorem dX3_setUp_23 : decode cX3_setUp 23 = .ok (.putfield 18, 3) := by decide +kernel
theorem dX3_setUp_26 : decode cX3_setUp 26 = .ok (.iload_n 3, 1) := by decide +kernel
theorem dX3_setUp_27 : decode cX3_setUp 27 = .ok (.ireturn, 1) := by decide +kernel
theorem dX3_countAt_0 : decode cX3_countAt 0 = .ok (.iconst 0, 1) := by decide +kernel
theorem dX3_countAt_1 : decode cX3_countAt 1 = .ok (.istore_n 2, 1) := by decide +kernel
theorem dX3_countAt_2 : decode cX3_countAt 2 = .ok (.iconst 0, 1) := by decide +kernel
theorem dX3_countAt_3 : decode cX3_countAt 3 = .ok (.istore_n 3, 1) := by decide +kernel
theorem dX3_countAt_4 : decode cX3_countAt 4 = .ok (.iload_n 3, 1) := by decide +kernel
theorem dX3_countAt_5 : decode cX3_countAt 5 = .ok (.aload_n 0, 1) := by decide +kernel
theorem dX3_countAt_6 : decode cX3_countAt 6 = .ok (.getfield 18, 3) := by decide +kernel
theorem dX3_countAt_9 : decode cX3_countAt 9 = .ok (.if_icmp .ge 22, 3) := by decide +kernel
theorem dX3_countAt_12 : decode cX3_countAt 12 = .ok (.aload_n 0, 1) := by decide +kernel
theorem dX3_countAt_13 : decode cX3_countAt 13 = .ok (.getfield 9, 3) := by decide +kernel
theorem dX3_countAt_16 : decode cX3_countAt 16 = .ok (.iload_n 3, 1) := by decide +kernel
theorem dX3_countAt_17 : decode cX3_countAt 17 = .ok (.iaload, 1) := by decide +kernel
theorem dX3_countAt_18 : decode cX3_countAt 18 = .ok (.iload_n 1, 1) := by decide +kernel
theorem dX3_countAt_19 : decode cX3_countAt 19 = .ok (.if_icmp .ne 6, 3) := by decide +kernel
theorem dX3_countAt_22 : decode cX3_countAt 22 = .ok (.iinc 2 1, 3) := by decide +kernel
theorem dX3_countAt_25 : decode cX3_countAt 25 = .ok (.iinc 3 1, 3) := by decide +kernel
theorem dX3_countAt_28 : decode cX3_countAt 28 = .ok (.goto (-24), 3) := by decide +kernel
theorem dX3_countAt_31 : decode cX3_countAt 31 = .ok (.iload_n 2, 1) := by decide +kernel
theorem dX3_countAt_32 : decode cX3_countAt 32 = .ok (.ireturn, 1) := by decide +kernel
theorem dX4_init_0 : decode cX4_init 0 = .ok (.aload_n 0, 1) := by decide +kernel
theorem dX4_init_1 : decode cX4_init 1 = .ok (.invokespecial 3, 3) := by decide +kernel
theorem dX4_init_4 : decode cX4_init 4 = .ok (.aload_n 0, 1) := by decide +kernel
theorem dX4_init_5 : decode cX4_init 5 = .ok (.bipush 24, 2) := by decide +kernel
theorem dX4_init_7 : decode cX4_init 7 = .ok (.newarray .int, 2) := by decide +kernel
theorem dX4_init_9 : decode cX4_init 9 = .ok (.putfield 9, 3) := by decide +kernel
theorem dX4_init_12 : decode cX4_init 12 = .ok (.aload_n 0, 1) := by decide +kernel
theorem dX4_init_13 : decode cX4_init 13 = .ok (.bipush 24, 2) := by decide +kernel
theorem dX4_init_15 : decode cX4_init 15 = .ok (.newarray .int, 2) := by decide +kernel
theorem dX4_init_17 : decode cX4_init 17 = .ok (.putfield 15, 3) := by decide +kernel
theorem dX4_init_20 : decode cX4_init 20 = .ok (.aload_n 0, 1) := by decide +kernel
theorem dX4_init_21 : decode cX4_init 21 = .ok (.bipush 24, 2) := by decide +kernel
theorem dX4_init_23 : decode cX4_init 23 = .ok (.newarray .int, 2) := by decide +kernel
theorem dX4_init_25 : decode cX4_init 25 = .ok (.putfield 18, 3) := by decide +kernel
theorem dX4_init_28 : decode cX4_init 28 = .ok (.iconst 0, 1) := by decide +kernel
theorem dX4_init_29 : decode cX4_init 29 = .ok (.istore_n 1, 1) := by decide +kernel
theorem dX4_init_30 : decode cX4_init 30 = .ok (.iload_n 1, 1) := by decide +kernel
theorem dX4_init_31 : decode cX4_init 31 = .ok (.bipush 24, 2) := by decide +kernel
theorem dX4_init_33 : decode cX4_init 33 = .ok (.if_icmp .ge 25, 3) := by decide +kernel
theorem dX4_init_36 : decode cX4_init 36 = .ok (.aload_n 0, 1) := by decide +kernel
theorem dX4_init_37 : decode cX4_init 37 = .ok (.getfield 9, 3) := by decide +kernel
theorem dX4_init_40 : decode cX4_init 40 = .ok (.iload_n 1, 1) := by decide +kernel
theorem dX4_init_41 : decode cX4_init 41 = .ok (.bipush (-5), 2) := by decide +kernel
theorem dX4_init_43 : decode cX4_init 43 = .ok (.iastore, 1) := by decide +kernel
theorem dX4_init_44 : decode cX4_init 44 = .ok (.aload_n 0, 1) := by decide +kernel
theorem dX4_init_45 : decode cX4_init 45 = .ok (.getfield 15, 3) := by decide +kernel
theorem dX4_init_48 : decode cX4_init 48 = .ok (.iload_n 1, 1) := by decide +kernel
theorem dX4_init_49 : decode cX4_init 49 = .ok (.bipush 50, 2) := by decide +kernel
theorem dX4_init_51 : decode cX4_init 51 = .ok (.iastore, 1) := by decide +kernel
theorem dX4_init_52 : decode cX4_init 52 = .ok (.iinc 1 1, 3) := by decide +kernel
theorem dX4_init_55 : decode cX4_init 55 = .ok (.goto (-25), 3) := by decide +kernel
theorem dX4_init_58 : decode cX4_init 58 = .ok (.return_, 1) := by decide +kernel
theorem dX4_wetCold_0 : decode cX4_wetCold 0 = .ok (.aload_n 0, 1) := by decide +kernel
theorem dX4_wetCold_1 : decode cX4_wetCold 1 = .ok (.getfield 9, 3) := by decide +kernel
theorem dX4_wetCold_4 : decode cX4_wetCold 4 = .ok (.iload_n 1, 1) := by decide +kernel
theorem dX4_wetCold_5 : decode cX4_wetCold 5 = .ok (.iaload, 1) := by decide +kernel
theorem dX4_wetCold_6 : decode cX4_wetCold 6 = .ok (.bipush 100, 2) := by decide +kernel
theorem dX4_wetCold_8 : decode cX4_wetCold 8 = .ok (.aload_n 0, 1) := by decide +kernel
theorem dX4_wetCold_9 : decode cX4_wetCold 9 = .ok (.getfield 15, 3) := by decide +kernel
theorem dX4_wetCold_12 : decode cX4_wetCold 12 = .ok (.iload_n 1, 1) := by decide +kernel
theorem dX4_wetCold_13 : decode cX4_wetCold 13 = .ok (.iaload, 1) := by decide +kernel
theorem dX4_wetCold_14 : decode cX4_wetCold 14 = .ok (.isub, 1) := by decide +kernel
theorem dX4_wetCold_15 : decode cX4_wetCold 15 = .ok (.bipush 10, 2) := by decide +kernel
theorem dX4_wetCold_17 : decode cX4_wetCold 17 = .ok (.idiv, 1) := by decide +kernel
theorem dX4_wetCold_18 : decode cX4_wetCold 18 = .ok (.isub, 1) := by decide +kernel
theorem dX4_wetCold_19 : decode cX4_wetCold 19 = .ok (.ireturn, 1) := by decide +kernel
theorem dX4_addTo_0 : decode cX4_addTo 0 = .ok (.lload_n 1, 1) := by decide +kernel
theorem dX4_addTo_1 : decode cX4_addTo 1 = .ok (.lstore_n 3, 1) := by decide +kernel
theorem dX4_addTo_2 : decode cX4_addTo 2 = .ok (.iconst 0, 1) := by decide +kernel
theorem dX4_addTo_3 : decode cX4_addTo 3 = .ok (.istore 5, 2) := by decide +kernel
theorem dX4_addTo_5 : decode cX4_addTo 5 = .ok (.iload 5, 2) := by decide +kernel
theorem dX4_addTo_7 : decode cX4_addTo 7 = .ok (.bipush 24, 2) := by decide +kernel
theorem dX4_addTo_9 : decode cX4_addTo 9 = .ok (.if_icmp .ge 54, 3) := by decide +kernel
theorem dX4_addTo_12 : decode cX4_addTo 12 = .ok (.lload_n 3, 1) := by decide +kernel
theorem dX4_addTo_13 : decode cX4_addTo 13 = .ok (.ldc2_w 21, 3) := by decide +kernel
theorem dX4_addTo_16 : decode cX4_addTo 16 = .ok (.lmul, 1) := by decide +kernel
theorem dX4_addTo_17 : decode cX4_addTo 17 = .ok (.aload_n 0, 1) := by decide +kernel
theorem dX4_addTo_18 : decode cX4_addTo 18 = .ok (.getfield 9, 3) := by decide +kernel
theorem dX4_addTo_21 : decode cX4_addTo 21 = .ok (.iload 5, 2) := by decide +kernel
theorem dX4_addTo_23 : decode cX4_addTo 23 = .ok (.iaload, 1) := by decide +kernel
theorem dX4_addTo_24 : decode cX4_addTo 24 = .ok (.i2l, 1) := by decide +kernel
theorem dX4_addTo_25 : decode cX4_addTo 25 = .ok (.ladd, 1) := by decide +kernel
theorem dX4_addTo_26 : decode cX4_addTo 26 = .ok (.lstore_n 3, 1) := by decide +kernel
theorem dX4_addTo_27 : decode cX4_addTo 27 = .ok (.lload_n 3, 1) := by decide +kernel
theorem dX4_addTo_28 : decode cX4_addTo 28 = .ok (.ldc2_w 21, 3) := by decide +kernel
theorem dX4_addTo_31 : decode cX4_addTo 31 = .ok (.lmul, 1) := by decide +kernel
theorem dX4_addTo_32 : decode cX4_addTo 32 = .ok (.aload_n 0, 1) := by decide +kernel
theorem dX4_addTo_33 : decode cX4_addTo 33 = .ok (.getfield 15, 3) := by decide +kernel
theorem dX4_addTo_36 : decode cX4_addTo 36 = .ok (.iload 5, 2) := by decide +kernel
theorem dX4_addTo_38 : decode cX4_addTo 38 = .ok (.iaload, 1) := by decide +kernel
theorem dX4_addTo_39 : decode cX4_addTo 39 = .ok (.i2l, 1) := by decide +kernel
theorem dX4_addTo_40 : decode cX4_addTo 40 = .ok (.ladd, 1) := by decide +kernel
theorem dX4_addTo_41 : decode cX4_addTo 41 = .ok (.lstore_n 3, 1) := by decide +kernel
theorem dX4_addTo_42 : decode cX4_addTo 42 = .ok (.lload_n 3, 1) := by decide +kernel
theorem dX4_addTo_43 : decode cX4_addTo 43 = .ok (.ldc2_w 21, 3) := by decide +kernel
theorem dX4_addTo_46 : decode cX4_addTo 46 = .ok (.lmul, 1) := by decide +kernel
theorem dX4_addTo_47 : decode cX4_addTo 47 = .ok (.aload_n 0, 1) := by decide +kernel
theorem dX4_addTo_48 : decode cX4_addTo 48 = .ok (.getfield 18, 3) := by decide +kernel
theorem dX4_addTo_51 : decode cX4_addTo 51 = .ok (.iload 5, 2) := by decide +kernel
theorem dX4_addTo_53 : decode cX4_addTo 53 = .ok (.iaload, 1) := by decide +kernel
theorem dX4_addTo_54 : decode cX4_addTo 54 = .ok (.i2l, 1) := by decide +kernel
theorem dX4_addTo_55 : decode cX4_addTo 55 = .ok (.ladd, 1) := by decide +kernel
theorem dX4_addTo_56 : decode cX4_addTo 56 = .ok (.lstore_n 3, 1) := by decide +kernel
theorem dX4_addTo_57 : decode cX4_addTo 57 = .ok (.iinc 5 1, 3) := by decide +kernel
theorem dX4_addTo_60 : decode cX4_addTo 60 = .ok (.goto (-55), 3) := by decide +kernel
theorem dX4_addTo_63 : decode cX4_addTo 63 = .ok (.lload_n 3, 1) := by decide +kernel
theorem dX4_addTo_64 : decode cX4_addTo 64 = .ok (.lreturn, 1) := by decide +kernel
set_option maxRecDepth 20000 in
theorem ggX5_init_X4_init : GoodIn wsX5_init wsX4_init := goodIn_r _ [27, 28, 2, 3, 29, 30, 31, 32, 61, 62, 63] (by decide +kernel) (by decide +kernel)
set_option maxRecDepth 20000 in
theorem gX5_init_X4_init : GoodIn wsX5_init (wsX4_init) := ggX5_init_X4_init
set_option maxRecDepth 20000 in
theorem ggX5_init_X3_init : GoodIn wsX5_init wsX3_init := goodIn_r _ [34, 35, 2, 3, 29, 36, 37, 70, 71, 72] (by decide +kernel) (by decide +kernel)
set_option maxRecDepth 20000 in
theorem gX5_init_X3_init_n18 : GoodIn wsX5_init (wsX3_init) := ggX5_init_X3_init
set_option maxRecDepth 20000 in
theorem ggX5_init_X0_init : GoodIn wsX5_init wsX0_init := goodIn_r _ [40, 41, 2, 3, 29, 42, 43, 44, 45, 46, 47, 73, 74, 75, 76, 77, 78, 79] (by decide +kernel) (by decide +kernel)
set_option maxRecDepth 20000 in
theorem gX5_init_X0_init : GoodIn wsX5_init (wsX0_init) := ggX5_init_X0_init
set_option maxRecDepth 20000 in
theorem ggX5_init_X2_init : GoodIn wsX5_init wsX2_init := goodIn_r _ [50, 51, 2, 3, 29, 52, 80] (by decide +kernel) (by decide +kernel)
set_option maxRecDepth 20000 in
theorem gX5_init_X2_init : GoodIn wsX5_init (wsX2_init) := ggX5_init_X2_init
set_option maxRecDepth 20000 in
theorem ggX5_init_X1_init : GoodIn wsX5_init wsX1_init := goodIn_r _ [54, 55, 2, 3, 29, 56, 57, 58, 59, 60, 81, 82, 83, 84, 85, 86] (by decide +kernel) (by decide +kernel)
set_option maxRecDepth 20000 in
theorem gX5_init_X1_init_n44 : GoodIn wsX5_init (wsX1_init) := ggX5_init_X1_init
theorem dX5_init_0 : decode cX5_init 0 = .ok (.aload_n 0, 1) := by decide +kernel
theorem dX5_init_1 : decode cX5_init 1 = .ok (.invokespecial 1, 3) := by decide +kernel
theorem dX5_init_4 : decode cX5_init 4 = .ok (.aload_n 0, 1) := by decide +kernel
theorem dX5_init_5 : decode cX5_init 5 = .ok (.new 7, 3) := by decide +kernel
theorem dX5_init_8 : decode cX5_init 8 = .ok (.dup, 1) := by decide +kernel
theorem dX5_init_9 : decode cX5_init 9 = .ok (.invokespecial 9, 3) := by decide +kernel
theorem dX5_init_12 : decode cX5_init 12 = .ok (.putfield 10, 3) := by decide +kernel
theorem dX5_init_15 : decode cX5_init 15 = .ok (.aload_n 0, 1) := by decide +kernel
theorem dX5_init_16 : decode cX5_init 16 = .ok (.new 16, 3) := by decide +kernel
theorem dX5_init_19 : decode cX5_init 19 = .ok (.dup, 1) := by decide +kernel
theorem dX5_init_20 : decode cX5_init 20 = .ok (.invokespecial 18, 3) := by decide +kernel
theorem dX5_init_23 : decode cX5_init 23 = .ok (.putfield 19, 3) := by decide +kernel
theorem dX5_init_26 : decode cX5_init 26 = .ok (.aload_n 0, 1) := by decide +kernel
theorem dX5_init_27 : decode cX5_init 27 = .ok (.new 23, 3) := by decide +kernel
theorem dX5_init_30 : decode cX5_init 30 = .ok (.dup, 1) := by decide +kernel
theorem dX5_init_31 : decode cX5_init 31 = .ok (.aload_n 0, 1) := by decide +kernel
theorem dX5_init_32 : decode cX5_init 32 = .ok (.getfield 10, 3) := by decide +kernel
theorem dX5_init_35 : decode cX5_init 35 = .ok (.aload_n 0, 1) := by decide +kernel
theorem dX5_init_36 : decode cX5_init 36 = .ok (.getfield 19, 3) := by decide +kernel
theorem dX5_init_39 : decode cX5_init 39 = .ok (.invokespecial 25, 3) := by decide +kernel
theorem dX5_init_42 : decode cX5_init 42 = .ok (.putfield 28, 3) := by decide +kernel
theorem dX5_init_45 : decode cX5_init 45 = .ok (.aload_n 0, 1) := by decide +kernel
theorem dX5_init_46 : decode cX5_init 46 = .ok (.new 23, 3) := by decide +kernel
theorem dX5_init_49 : decode cX5_init 49 = .ok (.dup, 1) := by decide +kernel
theorem dX5_init_50 : decode cX5_init 50 = .ok (.aload_n 0, 1) := by decide +kernel
theorem dX5_init_51 : decode cX5_init 51 = .ok (.getfield 10, 3) := by decide +kernel
theorem dX5_init_54 : decode cX5_init 54 = .ok (.aload_n 0, 1) := by decide +kernel
theorem dX5_init_55 : decode cX5_init 55 = .ok (.getfield 19, 3) := by decide +kernel
theorem dX5_init_58 : decode cX5_init 58 = .ok (.invokespecial 25, 3) := by decide +kernel
theorem dX5_init_61 : decode cX5_init 61 = .ok (.putfield 32, 3) := by decide +kernel
theorem dX5_init_64 : decode cX5_init 64 = .ok (.aload_n 0, 1) := by decide +kernel
theorem dX5_init_65 : decode cX5_init 65 = .ok (.new 35, 3) := by decide +kernel
theorem dX5_init_68 : decode cX5_init 68 = .ok (.dup, 1) := by decide +kernel
theorem dX5_init_69 : decode cX5_init 69 = .ok (.invokespecial 37, 3) := by decide +kernel
theorem dX5_init_72 : decode cX5_init 72 = .ok (.putfield 38, 3) := by decide +kernel
theorem dX5_init_75 : decode cX5_init 75 = .ok (.aload_n 0, 1) := by decide +kernel
theorem dX5_init_76 : decode cX5_init 76 = .ok (.new 42, 3) := by decide +kernel
theorem dX5_init_79 : decode cX5_init 79 = .ok (.dup, 1) := by decide +kernel
theorem dX5_init_80 : decode cX5_init 80 = .ok (.invokespecial 44, 3) := by decide +kernel
theorem dX5_init_83 : decode cX5_init 83 = .ok (.putfield 45, 3) := by decide +kernel
theorem dX5_init_86 : decode cX5_init 86 = .ok (.return_, 1) := by decide +kernel
set_option maxRecDepth 20000 in
theorem ggX5_setWeather_X5_isOutside : GoodIn wsX5_setWeather wsX5_isOutside := goodIn_r _ [12] (by decide +kernel) (by decide +kernel)
set_option maxRecDepth 20000 in
theorem gX5_setWeather_X5_isOutside : GoodIn wsX5_setWeather (va_wsS RX5 49 yX5_isOutside wsX5_isOutside) := goodIn_app (goodIn_of _ (by decide +kernel)) ggX5_setWeather_X5_isOutside
set_option maxRecDepth 20000 in
theorem ggX5_setWeather_X4_wetCold : GoodIn wsX5_setWeather wsX4_wetCold := goodIn_r _ [17, 18, 19, 26, 27, 28] (by decide +kernel) (by decide +kernel)
set_option maxRecDepth 20000 in
theorem gX5_setWeather_X4_wetCold : GoodIn wsX5_setWeather (wsV RX5 79 RX4 yX4_wetCold wsX4_wetCold) := goodIn_app (goodIn_of _ (by decide +kernel)) ggX5_setWeather_X4_wetCold
theorem dX5_setWeather_0 : decode cX5_setWeather 0 = .ok (.iload_n 1, 1) := by decide +kernel
theorem dX5_setWeather_1 : decode cX5_setWeather 1 = .ok (.iconst 0, 1) := by decide +kernel
theorem dX5_setWeather_2 : decode cX5_setWeather 2 = .ok (.bipush 23, 2) := by decide +kernel
theorem dX5_setWeather_4 : decode cX5_setWeather 4 = .ok (.invokestatic 49, 3) := by decide +kernel
theorem dX5_setWeather_7 : decode cX5_setWeather 7 = .ok (.ifCond .eq 13, 3) := by decide +kernel
theorem dX5_setWeather_10 : decode cX5_setWeather 10 = .ok (.new 53, 3) := by decide +kernel
theorem dX5_setWeather_13 : decode cX5_setWeather 13 = .ok (.dup, 1) := by decide +kernel
theorem dX5_setWeather_14 : decode cX5_setWeather 14 = .ok (.ldc 55, 2) := by decide +kernel
theorem dX5_setWeather_16 : decode cX5_setWeather 16 = .ok (.invokespecial 57, 3) := by decide +kernel
theorem dX5_setWeather_19 : decode cX5_setWeather 19 = .ok (.athrow, 1) := by decide +kernel
theorem dX5_setWeather_20 : decode cX5_setWeather 20 = .ok (.iload_n 2, 1) := by decide +kernel
theorem dX5_setWeather_21 : decode cX5_setWeather 21 = .ok (.bipush (-30), 2) := by decide +kernel
theorem dX5_setWeather_23 : decode cX5_setWeather 23 = .ok (.bipush 20, 2) := by decide +kernel
theorem dX5_setWeather_25 : decode cX5_setWeather 25 = .ok (.invokestatic 49, 3) := by decide +kernel
theorem dX5_setWeather_28 : decode cX5_setWeather 28 = .ok (.ifCond .eq 13, 3) := by decide +kernel
theorem dX5_setWeather_31 : decode cX5_setWeather 31 = .ok (.new 60, 3) := by decide +kernel
theorem dX5_setWeather_34 : decode cX5_setWeather 34 = .ok (.dup, 1) := by decide +kernel
theorem dX5_setWeather_35 : decode cX5_setWeather 35 = .ok (.ldc 62, 2) := by decide +kernel
theorem dX5_setWeather_37 : decode cX5_setWeather 37 = .ok (.invokespecial 64, 3) := by decide +kernel
theorem dX5_setWeather_40 : decode cX5_setWeather 40 = .ok (.athrow, 1) := by decide +kernel
theorem dX5_setWeather_41 : decode cX5_setWeather 41 = .ok (.iload_n 3, 1) := by decide +kernel
theorem dX5_setWeather_42 : decode cX5_setWeather 42 = .ok (.iconst 0, 1) := by decide +kernel
theorem dX5_setWeather_43 : decode cX5_setWeather 43 = .ok (.bipush 100, 2) := by decide +kernel
theorem dX5_setWeather_45 : decode cX5_setWeather 45 = .ok (.invokestatic 49, 3) := by decide +kernel
theorem dX5_setWeather_48 : decode cX5_setWeather 48 = .ok (.ifCond .eq 13, 3) := by decide +kernel
theorem dX5_setWeather_51 : decode cX5_setWeather 51 = .ok (.new 60, 3) := by decide +kernel
theorem dX5_setWeather_54 : decode cX5_setWeather 54 = .ok (.dup, 1) := by decide +kernel
theorem dX5_setWeather_55 : decode cX5_setWeather 55 = .ok (.ldc 65, 2) := by decide +kernel
theorem dX5_setWeather_57 : decode cX5_setWeather 57 = .ok (.invokespecial 64, 3) := by decide +kernel
theorem dX5_setWeather_60 : decode cX5_setWeather 60 = .ok (.athrow, 1) := by decide +kernel
theorem dX5_setWeather_61 : decode cX5_setWeather 61 = .ok (.iload 4, 2) := by decide +kernel
theorem dX5_setWeather_63 : decode cX5_setWeather 63 = .ok (.bipush (-9), 2) := by decide +kernel
theorem dX5_setWeather_65 : decode cX5_setWeather 65 = .ok (.bipush 9, 2) := by decide +kernel
theorem dX5_setWeather_67 : decode cX5_setWeather 67 = .ok (.invokestatic 49, 3) := by decide +kernel
theorem dX5_setWeather_70 : decode cX5_setWeather 70 = .ok (.ifCond .eq 13, 3) := by decide +kernel
theorem dX5_setWeather_73 : decode cX5_setWeather 73 = .ok (.new 60, 3) := by decide +kernel
theorem dX5_setWeather_76 : decode cX5_setWeather 76 = .ok (.dup, 1) := by decide +kernel
theorem dX5_setWeather_77 : decode cX5_setWeather 77 = .ok (.ldc 67, 2) := by decide +kernel
theorem dX5_setWeather_79 : decode cX5_setWeather 79 = .ok (.invokespecial 64, 3) := by decide +kernel
theorem dX5_setWeather_82 : decode cX5_setWeather 82 = .ok (.athrow, 1) := by decide +kernel
theorem dX5_setWeather_83 : decode cX5_setWeather 83 = .ok (.aload_n 0, 1) := by decide +kernel
theorem dX5_setWeather_84 : decode cX5_setWeather 84 = .ok (.getfield 10, 3) := by decide +kernel
theorem dX5_setWeather_87 : decode cX5_setWeather 87 = .ok (.getfield 69, 3) := by decide +kernel
theorem dX5_setWeather_90 : decode cX5_setWeather 90 = .ok (.iload_n 1, 1) := by decide +kernel
theorem dX5_setWeather_91 : decode cX5_setWeather 91 = .ok (.iload_n 2, 1) := by decide +kernel
theorem dX5_setWeather_92 : decode cX5_setWeather 92 = .ok (.iastore, 1) := by decide +kernel
theorem dX5_setWeather_93 : decode cX5_setWeather 93 = .ok (.aload_n 0, 1) := by decide +kernel
theorem dX5_setWeather_94 : decode cX5_setWeather 94 = .ok (.getfield 10, 3) := by decide +kernel
theorem dX5_setWeather_97 : decode cX5_setWeather 97 = .ok (.getfield 73, 3) := by decide +kernel
theorem dX5_setWeather_100 : decode cX5_setWeather 100 = .ok (.iload_n 1, 1) := by decide +kernel
theorem dX5_setWeather_101 : decode cX5_setWeather 101 = .ok (.iload_n 3, 1) := by decide +kernel
theorem dX5_setWeather_102 : decode cX5_setWeather 102 = .ok (.iastore, 1) := by decide +kernel
theorem dX5_setWeather_103 : decode cX5_setWeather 103 = .ok (.aload_n 0, 1) := by decide +kernel
theorem dX5_setWeather_104 : decode cX5_setWeather 104 = .ok (.getfield 10, 3) := by decide +kernel
theorem dX5_setWeather_107 : decode cX5_setWeather 107 = .ok (.getfield 76, 3) := by decide +kernel
theorem dX5_setWeather_110 : decode cX5_setWeather 110 = .ok (.iload_n 1, 1) := by decide +kernel
theorem dX5_setWeather_111 : decode cX5_setWeather 111 = .ok (.iload 4, 2) := by decide +kernel
theorem dX5_setWeather_113 : decode cX5_setWeather 113 = .ok (.iastore, 1) := by decide +kernel
theorem dX5_setWeather_114 : decode cX5_setWeather 114 = .ok (.aload_n 0, 1) := by decide +kernel
theorem dX5_setWeather_115 : decode cX5_setWeather 115 = .ok (.getfield 10, 3) := by decide +kernel
theorem dX5_setWeather_118 : decode cX5_setWeather 118 = .ok (.iload_n 1, 1) := by decide +kernel
theorem dX5_setWeather_119 : decode cX5_setWeather 119 = .ok (.invokevirtual 79, 3) := by decide +kernel
theorem dX5_setWeather_122 : decode cX5_setWeather 122 = .ok (.ireturn, 1) := by decide +kernel
set_option maxRecDepth 20000 in
theorem ggX5_pump_X5_isOutside : GoodIn wsX5_pump wsX5_isOutside := goodIn_r _ [12] (by decide +kernel) (by decide +kernel)
set_option maxRecDepth 20000 in
theorem gX5_pump_X5_isOutside : GoodIn wsX5_pump (va_wsS RX5 49 yX5_isOutside wsX5_isOutside) := goodIn_app (goodIn_of _ (by decide +kernel)) ggX5_pump_X5_isOutside
set_option maxRecDepth 20000 in
theorem ggX5_pump_X3_setUp : GoodIn wsX5_pump wsX3_setUp := goodIn_r _ [17, 18, 19, 20, 27, 28, 29] (by decide +kernel) (by decide +kernel)
set_option maxRecDepth 20000 in
theorem gX5_pump_X3_setUp : GoodIn wsX5_pump (wsV RX5 96 RX3 yX3_setUp wsX3_setUp) := goodIn_app (goodIn_of _ (by decide +kernel)) ggX5_pump_X3_setUp
theorem dX5_pump_0 : decode cX5_pump 0 = .ok (.iload_n 1, 1) := by decide +kernel
theorem dX5_pump_1 : decode cX5_pump 1 = .ok (.iconst 0, 1) := by decide +kernel
theorem dX5_pump_2 : decode cX5_pump 2 = .ok (.bipush 19, 2) := by decide +kernel
theorem dX5_pump_4 : decode cX5_pump 4 = .ok (.invokestatic 49, 3) := by decide +kernel
theorem dX5_pump_7 : decode cX5_pump 7 = .ok (.ifCond .eq 13, 3) := by decide +kernel
theorem dX5_pump_10 : decode cX5_pump 10 = .ok (.new 53, 3) := by decide +kernel
theorem dX5_pump_13 : decode cX5_pump 13 = .ok (.dup, 1) := by decide +kernel
theorem dX5_pump_14 : decode cX5_pump 14 = .ok (.ldc 83, 2) := by decide +kernel
theorem dX5_pump_16 : decode cX5_pump 16 = .ok (.invokespecial 57, 3) := by decide +kernel
theorem dX5_pump_19 : decode cX5_pump 19 = .ok (.athrow, 1) := by decide +kernel
theorem dX5_pump_20 : decode cX5_pump 20 = .ok (.iload_n 2, 1) := by decide +kernel
theorem dX5_pump_21 : decode cX5_pump 21 = .ok (.iconst 1, 1) := by decide +kernel
theorem dX5_pump_22 : decode cX5_pump 22 = .ok (.bipush 9, 2) := by decide +kernel
theorem dX5_pump_24 : decode cX5_pump 24 = .ok (.invokestatic 49, 3) := by decide +kernel
theorem dX5_pump_27 : decode cX5_pump 27 = .ok (.ifCond .eq 13, 3) := by decide +kernel
theorem dX5_pump_30 : decode cX5_pump 30 = .ok (.new 60, 3) := by decide +kernel
theorem dX5_pump_33 : decode cX5_pump 33 = .ok (.dup, 1) := by decide +kernel
theorem dX5_pump_34 : decode cX5_pump 34 = .ok (.ldc 85, 2) := by decide +kernel
theorem dX5_pump_36 : decode cX5_pump 36 = .ok (.invokespecial 64, 3) := by decide +kernel
theorem dX5_pump_39 : decode cX5_pump 39 = .ok (.athrow, 1) := by decide +kernel
theorem dX5_pump_40 : decode cX5_pump 40 = .ok (.aload_n 0, 1) := by decide +kernel
theorem dX5_pump_41 : decode cX5_pump 41 = .ok (.getfield 19, 3) := by decide +kernel
theorem dX5_pump_44 : decode cX5_pump 44 = .ok (.getfield 87, 3) := by decide +kernel
theorem dX5_pump_47 : decode cX5_pump 47 = .ok (.iconst 5, 1) := by decide +kernel
theorem dX5_pump_48 : decode cX5_pump 48 = .ok (.if_icmp .lt 13, 3) := by decide +kernel
theorem dX5_pump_51 : decode cX5_pump 51 = .ok (.new 91, 3) := by decide +kernel
theorem dX5_pump_54 : decode cX5_pump 54 = .ok (.dup, 1) := by decide +kernel
theorem dX5_pump_55 : decode cX5_pump 55 = .ok (.ldc 93, 2) := by decide +kernel
theorem dX5_pump_57 : decode cX5_pump 57 = .ok (.invokespecial 95, 3) := by decide +kernel
theorem dX5_pump_60 : decode cX5_pump 60 = .ok (.athrow, 1) := by decide +kernel
theorem dX5_pump_61 : decode cX5_pump 61 = .ok (.aload_n 0, 1) := by decide +kernel
theorem dX5_pump_62 : decode cX5_pump 62 = .ok (.getfield 19, 3) := by decide +kernel
theorem dX5_pump_65 : decode cX5_pump 65 = .ok (.iload_n 1, 1) := by decide +kernel
theorem dX5_pump_66 : decode cX5_pump 66 = .ok (.iload_n 2, 1) := by decide +kernel
theorem dX5_pump_67 : decode cX5_pump 67 = .ok (.invokevirtual 96, 3) := by decide +kernel
theorem dX5_pump_70 : decode cX5_pump 70 = .ok (.ireturn, 1) := by decide +kernel
set_option maxRecDepth 20000 in
theorem ggX5_run_X5_isOutside : GoodIn wsX5_run wsX5_isOutside := goodIn_r _ [10] (by decide +kernel) (by decide +kernel)
set_option maxRecDepth 20000 in
theorem gX5_run_X5_isOutside : GoodIn wsX5_run (va_wsS RX5 49 yX5_isOutside wsX5_isOutside) := goodIn_app (goodIn_of _ (by decide +kernel)) ggX5_run_X5_isOutside
theorem dX5_run_0 : decode cX5_run 0 = .ok (.iload_n 1, 1) := by decide +kernel
theorem dX5_run_1 : decode cX5_run 1 = .ok (.iconst 0, 1) := by decide +kernel
theorem dX5_run_2 : decode cX5_run 2 = .ok (.aload_n 0, 1) := by decide +kernel
theorem dX5_run_3 : decode cX5_run 3 = .ok (.getfield 19, 3) := by decide +kernel
theorem dX5_run_6 : decode cX5_run 6 = .ok (.getfield 87, 3) := by decide +kernel
theorem dX5_run_9 : decode cX5_run 9 = .ok (.iconst 1, 1) := by decide +kernel
theorem dX5_run_10 : decode cX5_run 10 = .ok (.isub, 1) := by decide +kernel
theorem dX5_run_11 : decode cX5_run 11 = .ok (.invokestatic 49, 3) := by decide +kernel
theorem dX5_run_14 : decode cX5_run 14 = .ok (.ifCond .eq 13, 3) := by decide +kernel
theorem dX5_run_17 : decode cX5_run 17 = .ok (.new 53, 3) := by decide +kernel
theorem dX5_run_20 : decode cX5_run 20 = .ok (.dup, 1) := by decide +kernel
theorem dX5_run_21 : decode cX5_run 21 = .ok (.ldc 100, 2) := by decide +kernel
theorem dX5_run_23 : decode cX5_run 23 = .ok (.invokespecial 57, 3) := by decide +kernel
theorem dX5_run_26 : decode cX5_run 26 = .ok (.athrow, 1) := by decide +kernel
theorem dX5_run_27 : decode cX5_run 27 = .ok (.aload_n 0, 1) := by decide +kernel
theorem dX5_run_28 : decode cX5_run 28 = .ok (.getfield 28, 3) := by decide +kernel
theorem dX5_run_31 : decode cX5_run 31 = .ok (.getfield 102, 3) := by decide +kernel
theorem dX5_run_34 : decode cX5_run 34 = .ok (.iload_n 1, 1) := by decide +kernel
theorem dX5_run_35 : decode cX5_run 35 = .ok (.aload_n 0, 1) := by decide +kernel
theorem dX5_run_36 : decode cX5_run 36 = .ok (.getfield 28, 3) := by decide +kernel
theorem dX5_run_39 : decode cX5_run 39 = .ok (.getfield 102, 3) := by decide +kernel
theorem dX5_run_42 : decode cX5_run 42 = .ok (.iload_n 1, 1) := by decide +kernel
theorem dX5_run_43 : decode cX5_run 43 = .ok (.baload, 1) := by decide +kernel
theorem dX5_run_44 : decode cX5_run 44 = .ok (.ifCond .ne 7, 3) := by decide +kernel
theorem dX5_run_47 : decode cX5_run 47 = .ok (.iconst 1, 1) := by decide +kernel
theorem dX5_run_48 : decode cX5_run 48 = .ok (.goto 4, 3) := by decide +kernel
theorem dX5_run_51 : decode cX5_run 51 = .ok (.iconst 0, 1) := by decide +kernel
theorem dX5_run_52 : decode cX5_run 52 = .ok (.bastore, 1) := by decide +kernel
theorem dX5_run_53 : decode cX5_run 53 = .ok (.aload_n 0, 1) := by decide +kernel
theorem dX5_run_54 : decode cX5_run 54 = .ok (.getfield 28, 3) := by decide +kernel
theorem dX5_run_57 : decode cX5_run 57 = .ok (.getfield 102, 3) := by decide +kernel
theorem dX5_run_60 : decode cX5_run 60 = .ok (.iload_n 1, 1) := by decide +kernel
theorem dX5_run_61 : decode cX5_run 61 = .ok (.baload, 1) := by decide +kernel
theorem dX5_run_62 : decode cX5_run 62 = .ok (.ireturn, 1) := by decide +kernel
set_option maxRecDepth 20000 in
theorem ggX5_fill_X5_isOutside : GoodIn wsX5_fill wsX5_isOutside := goodIn_r _ [12] (by decide +kernel) (by decide +kernel)
set_option maxRecDepth 20000 in
theorem gX5_fill_X5_isOutside : GoodIn wsX5_fill (va_wsS RX5 49 yX5_isOutside wsX5_isOutside) := goodIn_app (goodIn_of _ (by decide +kernel)) ggX5_fill_X5_isOutside
theorem dX5_fill_0 : decode cX5_fill 0 = .ok (.iload_n 1, 1) := by decide +kernel
theorem dX5_fill_1 : decode cX5_fill 1 = .ok (.iconst 1, 1) := by decide +kernel
theorem dX5_fill_2 : decode cX5_fill 2 = .ok (.sipush 9999, 3) := by decide +kernel
theorem dX5_fill_5 : decode cX5_fill 5 = .ok (.invokestatic 49, 3) := by decide +kernel
theorem dX5_fill_8 : decode cX5_fill 8 = .ok (.ifCond .eq 13, 3) := by decide +kernel
theorem dX5_fill_11 : decode cX5_fill 11 = .ok (.new 60, 3) := by decide +kernel
theorem dX5_fill_14 : decode cX5_fill 14 = .ok (.dup, 1) := by decide +kernel
theorem dX5_fill_15 : decode cX5_fill 15 = .ok (.ldc 106, 2) := by decide +kernel
theorem dX5_fill_17 : decode cX5_fill 17 = .ok (.invokespecial 64, 3) := by decide +kernel
theorem dX5_fill_20 : decode cX5_fill 20 = .ok (.athrow, 1) := by decide +kernel
theorem dX5_fill_21 : decode cX5_fill 21 = .ok (.aload_n 0, 1) := by decide +kernel
theorem dX5_fill_22 : decode cX5_fill 22 = .ok (.getfield 28, 3) := by decide +kernel
theorem dX5_fill_25 : decode cX5_fill 25 = .ok (.aload_n 0, 1) := by decide +kernel
theorem dX5_fill_26 : decode cX5_fill 26 = .ok (.getfield 28, 3) := by decide +kernel
theorem dX5_fill_29 : decode cX5_fill 29 = .ok (.getfield 108, 3) := by decide +kernel
theorem dX5_fill_32 : decode cX5_fill 32 = .ok (.iload_n 1, 1) := by decide +kernel
theorem dX5_fill_33 : decode cX5_fill 33 = .ok (.iadd, 1) := by decide +kernel
theorem dX5_fill_34 : decode cX5_fill 34 = .ok (.sipush 9999, 3) := by decide +kernel
theorem dX5_fill_37 : decode cX5_fill 37 = .ok (.invokestatic 111, 3) := by decide +kernel
theorem dX5_fill_40 : decode cX5_fill 40 = .ok (.putfield 108, 3) := by decide +kernel
theorem dX5_fill_43 : decode cX5_fill 43 = .ok (.aload_n 0, 1) := by decide +kernel
theorem dX5_fill_44 : decode cX5_fill 44 = .ok (.getfield 28, 3) := by decide +kernel
theorem dX5_fill_47 : decode cX5_fill 47 = .ok (.getfield 108, 3) := by decide +kernel
theorem dX5_fill_50 : decode cX5_fill 50 = .ok (.ireturn, 1) := by decide +kernel
set_option maxRecDepth 20000 in
theorem ggX5_groom_X5_isOutside : GoodIn wsX5_groom wsX5_isOutside := goodIn_r _ [9] (by decide +kernel) (by decide +kernel)
set_option maxRecDepth 20000 in
theorem gX5_groom_X5_isOutside : GoodIn wsX5_groom (va_wsS RX5 49 yX5_isOutside wsX5_isOutside) := goodIn_app (goodIn_of _ (by decide +kernel)) ggX5_groom_X5_isOutside
set_option maxRecDepth 20000 in
theorem ggX5_groom_X0_spreadSnow : GoodIn wsX5_groom wsX0_spreadSnow := goodIn_r _ [14, 15, 16, 23, 24, 25, 26, 27, 28, 29] (by decide +kernel) (by decide +kernel)
set_option maxRecDepth 20000 in
theorem gX5_groom_X0_spreadSnow : GoodIn wsX5_groom (wsV RX5 122 RX0 yX0_spreadSnow wsX0_spreadSnow) := goodIn_app (goodIn_of _ (by decide +kernel)) ggX5_groom_X0_spreadSnow
theorem dX5_groom_0 : decode cX5_groom 0 = .ok (.iload_n 1, 1) := by decide +kernel
theorem dX5_groom_1 : decode cX5_groom 1 = .ok (.iconst 0, 1) := by decide +kernel
theorem dX5_groom_2 : decode cX5_groom 2 = .ok (.bipush 19, 2) := by decide +kernel
theorem dX5_groom_4 : decode cX5_groom 4 = .ok (.invokestatic 49, 3) := by decide +kernel
theorem dX5_groom_7 : decode cX5_groom 7 = .ok (.ifCond .eq 13, 3) := by decide +kernel
theorem dX5_groom_10 : decode cX5_groom 10 = .ok (.new 53, 3) := by decide +kernel
theorem dX5_groom_13 : decode cX5_groom 13 = .ok (.dup, 1) := by decide +kernel
theorem dX5_groom_14 : decode cX5_groom 14 = .ok (.ldc 116, 2) := by decide +kernel
theorem dX5_groom_16 : decode cX5_groom 16 = .ok (.invokespecial 57, 3) := by decide +kernel
theorem dX5_groom_19 : decode cX5_groom 19 = .ok (.athrow, 1) := by decide +kernel
theorem dX5_groom_20 : decode cX5_groom 20 = .ok (.iload_n 2, 1) := by decide +kernel
theorem dX5_groom_21 : decode cX5_groom 21 = .ok (.iconst 0, 1) := by decide +kernel
theorem dX5_groom_22 : decode cX5_groom 22 = .ok (.bipush 19, 2) := by decide +kernel
theorem dX5_groom_24 : decode cX5_groom 24 = .ok (.invokestatic 49, 3) := by decide +kernel
theorem dX5_groom_27 : decode cX5_groom 27 = .ok (.ifCond .eq 13, 3) := by decide +kernel
theorem dX5_groom_30 : decode cX5_groom 30 = .ok (.new 53, 3) := by decide +kernel
theorem dX5_groom_33 : decode cX5_groom 33 = .ok (.dup, 1) := by decide +kernel
theorem dX5_groom_34 : decode cX5_groom 34 = .ok (.ldc 118, 2) := by decide +kernel
theorem dX5_groom_36 : decode cX5_groom 36 = .ok (.invokespecial 57, 3) := by decide +kernel
theorem dX5_groom_39 : decode cX5_groom 39 = .ok (.athrow, 1) := by decide +kernel
theorem dX5_groom_40 : decode cX5_groom 40 = .ok (.iload_n 1, 1) := by decide +kernel
theorem dX5_groom_41 : decode cX5_groom 41 = .ok (.iload_n 2, 1) := by decide +kernel
theorem dX5_groom_42 : decode cX5_groom 42 = .ok (.if_icmp .le 13, 3) := by decide +kernel
theorem dX5_groom_45 : decode cX5_groom 45 = .ok (.new 60, 3) := by decide +kernel
theorem dX5_groom_48 : decode cX5_groom 48 = .ok (.dup, 1) := by decide +kernel
theorem dX5_groom_49 : decode cX5_groom 49 = .ok (.ldc 120, 2) := by decide +kernel
theorem dX5_groom_51 : decode cX5_groom 51 = .ok (.invokespecial 64, 3) := by decide +kernel
theorem dX5_groom_54 : decode cX5_groom 54 = .ok (.athrow, 1) := by decide +kernel
theorem dX5_groom_55 : decode cX5_groom 55 = .ok (.aload_n 0, 1) := by decide +kernel
theorem dX5_groom_56 : decode cX5_groom 56 = .ok (.getfield 28, 3) := by decide +kernel
theorem dX5_groom_59 : decode cX5_groom 59 = .ok (.iload_n 1, 1) := by decide +kernel
theorem dX5_groom_60 : decode cX5_groom 60 = .ok (.iload_n 2, 1) := by decide +kernel
theorem dX5_groom_61 : decode cX5_groom 61 = .ok (.invokevirtual 122, 3) := by decide +kernel
theorem dX5_groom_64 : decode cX5_groom 64 = .ok (.ireturn, 1) := by decide +kernel
set_option maxRecDepth 20000 in
theorem ggX5_judge_X5_isOutside : GoodIn wsX5_judge wsX5_isOutside := goodIn_r _ [10] (by decide +kernel) (by decide +kernel)
set_option maxRecDepth 20000 in
theorem gX5_judge_X5_isOutside : GoodIn wsX5_judge (va_wsS RX5 49 yX5_isOutside wsX5_isOutside) := goodIn_app (goodIn_of _ (by decide +kernel)) ggX5_judge_X5_isOutside
theorem dX5_judge_0 : decode cX5_judge 0 = .ok (.iload_n 1, 1) := by decide +kernel
theorem dX5_judge_1 : decode cX5_judge 1 = .ok (.iconst 0, 1) := by decide +kernel
theorem dX5_judge_2 : decode cX5_judge 2 = .ok (.iconst 4, 1) := by decide +kernel
theorem dX5_judge_3 : decode cX5_judge 3 = .ok (.invokestatic 49, 3) := by decide +kernel
theorem dX5_judge_6 : decode cX5_judge 6 = .ok (.ifCond .eq 13, 3) := by decide +kernel
theorem dX5_judge_9 : decode cX5_judge 9 = .ok (.new 53, 3) := by decide +kernel
theorem dX5_judge_12 : decode cX5_judge 12 = .ok (.dup, 1) := by decide +kernel
theorem dX5_judge_13 : decode cX5_judge 13 = .ok (.ldc 125, 2) := by decide +kernel
theorem dX5_judge_15 : decode cX5_judge 15 = .ok (.invokespecial 57, 3) := by decide +kernel
theorem dX5_judge_18 : decode cX5_judge 18 = .ok (.athrow, 1) := by decide +kernel
theorem dX5_judge_19 : decode cX5_judge 19 = .ok (.iload_n 2, 1) := by decide +kernel
theorem dX5_judge_20 : decode cX5_judge 20 = .ok (.iconst 0, 1) := by decide +kernel
theorem dX5_judge_21 : decode cX5_judge 21 = .ok (.iconst 4, 1) := by decide +kernel
theorem dX5_judge_22 : decode cX5_judge 22 = .ok (.invokestatic 49, 3) := by decide +kernel
theorem dX5_judge_25 : decode cX5_judge 25 = .ok (.ifCond .eq 13, 3) := by decide +kernel
theorem dX5_judge_28 : decode cX5_judge 28 = .ok (.new 60, 3) := by decide +kernel
theorem dX5_judge_31 : decode cX5_judge 31 = .ok (.dup, 1) := by decide +kernel
theorem dX5_judge_32 : decode cX5_judge 32 = .ok (.ldc 127, 2) := by decide +kernel
theorem dX5_judge_34 : decode cX5_judge 34 = .ok (.invokespecial 64, 3) := by decide +kernel
theorem dX5_judge_37 : decode cX5_judge 37 = .ok (.athrow, 1) := by decide +kernel
theorem dX5_judge_38 : decode cX5_judge 38 = .ok (.aload_n 0, 1) := by decide +kernel
theorem dX5_judge_39 : decode cX5_judge 39 = .ok (.getfield 38, 3) := by decide +kernel
theorem dX5_judge_42 : decode cX5_judge 42 = .ok (.getfield 129, 3) := by decide +kernel
theorem dX5_judge_45 : decode cX5_judge 45 = .ok (.iload_n 1, 1) := by decide +kernel
theorem dX5_judge_46 : decode cX5_judge 46 = .ok (.iaload, 1) := by decide +kernel
theorem dX5_judge_47 : decode cX5_judge 47 = .ok (.istore_n 3, 1) := by decide +kernel
theorem dX5_judge_48 : decode cX5_judge 48 = .ok (.aload_n 0, 1) := by decide +kernel
theorem dX5_judge_49 : decode cX5_judge 49 = .ok (.getfield 38, 3) := by decide +kernel
theorem dX5_judge_52 : decode cX5_judge 52 = .ok (.getfield 129, 3) := by decide +kernel
theorem dX5_judge_55 : decode cX5_judge 55 = .ok (.iload_n 1, 1) := by decide +kernel
theorem dX5_judge_56 : decode cX5_judge 56 = .ok (.iload_n 2, 1) := by decide +kernel
theorem dX5_judge_57 : decode cX5_judge 57 = .ok (.iastore, 1) := by decide +kernel
theorem dX5_judge_58 : decode cX5_judge 58 = .ok (.iload_n 3, 1) := by decide +kernel
theorem dX5_judge_59 : decode cX5_judge 59 = .ok (.ireturn, 1) := by decide +kernel
set_option maxRecDepth 20000 in
theorem ggX5_jump_X5_isOutside : GoodIn wsX5_jump wsX5_isOutside := goodIn_r _ [15] (by decide +kernel) (by decide +kernel)
set_option maxRecDepth 20000 in
theorem gX5_jump_X5_isOutside : GoodIn wsX5_jump (va_wsS RX5 49 yX5_isOutside wsX5_isOutside) := goodIn_app (goodIn_of _ (by decide +kernel)) ggX5_jump_X5_isOutside
set_option maxRecDepth 20000 in
theorem ggX5_jump_X0_hourOfDay : GoodIn wsX5_jump wsX0_hourOfDay := goodIn_r _ [20, 21, 22, 23, 24, 25, 87, 88, 89, 90, 91, 92, 93] (by decide +kernel) (by decide +kernel)
set_option maxRecDepth 20000 in
theorem gX5_jump_X0_hourOfDay : GoodIn wsX5_jump (wsV RX5 141 RX0 yX0_hourOfDay wsX0_hourOfDay) := goodIn_app (goodIn_of _ (by decide +kernel)) ggX5_jump_X0_hourOfDay
set_option maxRecDepth 20000 in
theorem ggX5_jump_X5_lengthFrom : GoodIn wsX5_jump wsX5_lengthFrom := goodIn_r _ [28, 29, 30, 14, 31, 32, 33, 34, 35, 36, 37, 38] (by decide +kernel) (by decide +kernel)
set_option maxRecDepth 20000 in
theorem gX5_jump_X5_lengthFrom : GoodIn wsX5_jump (va_wsS RX5 145 yX5_lengthFrom wsX5_lengthFrom) := goodIn_app (goodIn_of _ (by decide +kernel)) ggX5_jump_X5_lengthFrom
set_option maxRecDepth 20000 in
theorem ggX5_jump_X0_fallsAt : GoodIn wsX5_jump wsX0_fallsAt := goodIn_r _ [42, 43, 44, 87, 88, 89, 90, 91, 92, 93] (by decide +kernel) (by decide +kernel)
set_option maxRecDepth 20000 in
theorem gX5_jump_X0_fallsAt : GoodIn wsX5_jump (wsV RX5 149 RX0 yX0_fallsAt wsX0_fallsAt) := goodIn_app (goodIn_of _ (by decide +kernel)) ggX5_jump_X0_fallsAt
set_option maxRecDepth 20000 in
theorem ggX5_jump_X0_takeSnow : GoodIn wsX5_jump wsX0_takeSnow := goodIn_r _ [48, 43, 49, 37, 34, 38, 87, 88, 89, 90, 91, 92, 93] (by decide +kernel) (by decide +kernel)
set_option maxRecDepth 20000 in
theorem gX5_jump_X0_takeSnow : GoodIn wsX5_jump (wsV RX5 153 RX0 yX0_takeSnow wsX0_takeSnow) := goodIn_app (goodIn_of _ (by decide +kernel)) ggX5_jump_X0_takeSnow
set_option maxRecDepth 20000 in
theorem ggX5_jump_X2_marks : GoodIn wsX5_jump wsX2_marks := goodIn_r _ [54, 55, 56, 34, 57, 58, 59, 37, 38, 60, 33, 35, 30, 14, 31, 32, 36, 94] (by decide +kernel) (by decide +kernel)
set_option maxRecDepth 20000 in
theorem gX5_jump_X2_marks : GoodIn wsX5_jump (wsV RX5 157 RX2 yX2_marks wsX2_marks) := goodIn_app (goodIn_of _ (by decide +kernel)) ggX5_jump_X2_marks
set_option maxRecDepth 20000 in
theorem ggX5_jump_X1_add : GoodIn wsX5_jump wsX1_add := goodIn_r _ [65, 66, 67, 68, 69, 70, 71, 78, 79, 80, 81, 82, 83] (by decide +kernel) (by decide +kernel)
set_option maxRecDepth 20000 in
theorem gX5_jump_X1_add : GoodIn wsX5_jump (wsV RX5 164 RX1 yX1_add wsX1_add) := goodIn_app (goodIn_of _ (by decide +kernel)) ggX5_jump_X1_add
theorem dX5_jump_0 : decode cX5_jump 0 = .ok (.iload_n 1, 1) := by decide +kernel
theorem dX5_jump_1 : decode cX5_jump 1 = .ok (.iconst 0, 1) := by decide +kernel
theorem dX5_jump_2 : decode cX5_jump 2 = .ok (.bipush 9, 2) := by decide +kernel
theorem dX5_jump_4 : decode cX5_jump 4 = .ok (.invokestatic 49, 3) := by decide +kernel
theorem dX5_jump_7 : decode cX5_jump 7 = .ok (.ifCond .eq 13, 3) := by decide +kernel
theorem dX5_jump_10 : decode cX5_jump 10 = .ok (.new 60, 3) := by decide +kernel
theorem dX5_jump_13 : decode cX5_jump 13 = .ok (.dup, 1) := by decide +kernel
theorem dX5_jump_14 : decode cX5_jump 14 = .ok (.ldc 132, 2) := by decide +kernel
theorem dX5_jump_16 : decode cX5_jump 16 = .ok (.invokespecial 64, 3) := by decide +kernel
theorem dX5_jump_19 : decode cX5_jump 19 = .ok (.athrow, 1) := by decide +kernel
theorem dX5_jump_20 : decode cX5_jump 20 = .ok (.iload_n 2, 1) := by decide +kernel
theorem dX5_jump_21 : decode cX5_jump 21 = .ok (.iconst 1, 1) := by decide +kernel
theorem dX5_jump_22 : decode cX5_jump 22 = .ok (.bipush 20, 2) := by decide +kernel
theorem dX5_jump_24 : decode cX5_jump 24 = .ok (.invokestatic 49, 3) := by decide +kernel
theorem dX5_jump_27 : decode cX5_jump 27 = .ok (.ifCond .eq 13, 3) := by decide +kernel
theorem dX5_jump_30 : decode cX5_jump 30 = .ok (.new 60, 3) := by decide +kernel
theorem dX5_jump_33 : decode cX5_jump 33 = .ok (.dup, 1) := by decide +kernel
theorem dX5_jump_34 : decode cX5_jump 34 = .ok (.ldc 134, 2) := by decide +kernel
theorem dX5_jump_36 : decode cX5_jump 36 = .ok (.invokespecial 64, 3) := by decide +kernel
theorem dX5_jump_39 : decode cX5_jump 39 = .ok (.athrow, 1) := by decide +kernel
theorem dX5_jump_40 : decode cX5_jump 40 = .ok (.iload_n 3, 1) := by decide +kernel
theorem dX5_jump_41 : decode cX5_jump 41 = .ok (.iconst 0, 1) := by decide +kernel
theorem dX5_jump_42 : decode cX5_jump 42 = .ok (.bipush 20, 2) := by decide +kernel
theorem dX5_jump_44 : decode cX5_jump 44 = .ok (.invokestatic 49, 3) := by decide +kernel
theorem dX5_jump_47 : decode cX5_jump 47 = .ok (.ifCond .eq 13, 3) := by decide +kernel
theorem dX5_jump_50 : decode cX5_jump 50 = .ok (.new 60, 3) := by decide +kernel
theorem dX5_jump_53 : decode cX5_jump 53 = .ok (.dup, 1) := by decide +kernel
theorem dX5_jump_54 : decode cX5_jump 54 = .ok (.ldc 136, 2) := by decide +kernel
theorem dX5_jump_56 : decode cX5_jump 56 = .ok (.invokespecial 64, 3) := by decide +kernel
theorem dX5_jump_59 : decode cX5_jump 59 = .ok (.athrow, 1) := by decide +kernel
theorem dX5_jump_60 : decode cX5_jump 60 = .ok (.aload_n 0, 1) := by decide +kernel
theorem dX5_jump_61 : decode cX5_jump 61 = .ok (.getfield 45, 3) := by decide +kernel
theorem dX5_jump_64 : decode cX5_jump 64 = .ok (.getfield 138, 3) := by decide +kernel
theorem dX5_jump_67 : decode cX5_jump 67 = .ok (.bipush 30, 2) := by decide +kernel
theorem dX5_jump_69 : decode cX5_jump 69 = .ok (.if_icmp .lt 13, 3) := by decide +kernel
theorem dX5_jump_72 : decode cX5_jump 72 = .ok (.new 91, 3) := by decide +kernel
theorem dX5_jump_75 : decode cX5_jump 75 = .ok (.dup, 1) := by decide +kernel
theorem dX5_jump_76 : decode cX5_jump 76 = .ok (.ldc 139, 2) := by decide +kernel
theorem dX5_jump_78 : decode cX5_jump 78 = .ok (.invokespecial 95, 3) := by decide +kernel
theorem dX5_jump_81 : decode cX5_jump 81 = .ok (.athrow, 1) := by decide +kernel
theorem dX5_jump_82 : decode cX5_jump 82 = .ok (.aload_n 0, 1) := by decide +kernel
theorem dX5_jump_83 : decode cX5_jump 83 = .ok (.getfield 10, 3) := by decide +kernel
theorem dX5_jump_86 : decode cX5_jump 86 = .ok (.getfield 76, 3) := by decide +kernel
theorem dX5_jump_89 : decode cX5_jump 89 = .ok (.aload_n 0, 1) := by decide +kernel
theorem dX5_jump_90 : decode cX5_jump 90 = .ok (.getfield 28, 3) := by decide +kernel
theorem dX5_jump_93 : decode cX5_jump 93 = .ok (.invokevirtual 141, 3) := by decide +kernel
theorem dX5_jump_96 : decode cX5_jump 96 = .ok (.iaload, 1) := by decide +kernel
theorem dX5_jump_97 : decode cX5_jump 97 = .ok (.istore 4, 2) := by decide +kernel
theorem dX5_jump_99 : decode cX5_jump 99 = .ok (.iload_n 2, 1) := by decide +kernel
theorem dX5_jump_100 : decode cX5_jump 100 = .ok (.iload 4, 2) := by decide +kernel
theorem dX5_jump_102 : decode cX5_jump 102 = .ok (.iload_n 3, 1) := by decide +kernel
theorem dX5_jump_103 : decode cX5_jump 103 = .ok (.invokestatic 145, 3) := by decide +kernel
theorem dX5_jump_106 : decode cX5_jump 106 = .ok (.istore 5, 2) := by decide +kernel
theorem dX5_jump_108 : decode cX5_jump 108 = .ok (.iload 5, 2) := by decide +kernel
theorem dX5_jump_110 : decode cX5_jump 110 = .ok (.iconst 5, 1) := by decide +kernel
theorem dX5_jump_111 : decode cX5_jump 111 = .ok (.idiv, 1) := by decide +kernel
theorem dX5_jump_112 : decode cX5_jump 112 = .ok (.istore 6, 2) := by decide +kernel
theorem dX5_jump_114 : decode cX5_jump 114 = .ok (.aload_n 0, 1) := by decide +kernel
theorem dX5_jump_115 : decode cX5_jump 115 = .ok (.getfield 28, 3) := by decide +kernel
theorem dX5_jump_118 : decode cX5_jump 118 = .ok (.iload 6, 2) := by decide +kernel
theorem dX5_jump_120 : decode cX5_jump 120 = .ok (.invokevirtual 149, 3) := by decide +kernel
theorem dX5_jump_123 : decode cX5_jump 123 = .ok (.istore 7, 2) := by decide +kernel
theorem dX5_jump_125 : decode cX5_jump 125 = .ok (.aload_n 0, 1) := by decide +kernel
theorem dX5_jump_126 : decode cX5_jump 126 = .ok (.getfield 28, 3) := by decide +kernel
theorem dX5_jump_129 : decode cX5_jump 129 = .ok (.iload 6, 2) := by decide +kernel
theorem dX5_jump_131 : decode cX5_jump 131 = .ok (.iconst 3, 1) := by decide +kernel
theorem dX5_jump_132 : decode cX5_jump 132 = .ok (.invokevirtual 153, 3) := by decide +kernel
theorem dX5_jump_135 : decode cX5_jump 135 = .ok (.aload_n 0, 1) := by decide +kernel
theorem dX5_jump_136 : decode cX5_jump 136 = .ok (.getfield 45, 3) := by decide +kernel
theorem dX5_jump_139 : decode cX5_jump 139 = .ok (.iload_n 1, 1) := by decide +kernel
theorem dX5_jump_140 : decode cX5_jump 140 = .ok (.iload 5, 2) := by decide +kernel
theorem dX5_jump_142 : decode cX5_jump 142 = .ok (.iload 5, 2) := by decide +kernel
theorem dX5_jump_144 : decode cX5_jump 144 = .ok (.aload_n 0, 1) := by decide +kernel
theorem dX5_jump_145 : decode cX5_jump 145 = .ok (.getfield 38, 3) := by decide +kernel
theorem dX5_jump_148 : decode cX5_jump 148 = .ok (.iload_n 3, 1) := by decide +kernel
theorem dX5_jump_149 : decode cX5_jump 149 = .ok (.iload 4, 2) := by decide +kernel
theorem dX5_jump_151 : decode cX5_jump 151 = .ok (.iload 7, 2) := by decide +kernel
theorem dX5_jump_153 : decode cX5_jump 153 = .ok (.invokevirtual 157, 3) := by decide +kernel
theorem dX5_jump_156 : decode cX5_jump 156 = .ok (.iadd, 1) := by decide +kernel
theorem dX5_jump_157 : decode cX5_jump 157 = .ok (.iload 7, 2) := by decide +kernel
theorem dX5_jump_159 : decode cX5_jump 159 = .ok (.aload_n 0, 1) := by decide +kernel
theorem dX5_jump_160 : decode cX5_jump 160 = .ok (.getfield 28, 3) := by decide +kernel
theorem dX5_jump_163 : decode cX5_jump 163 = .ok (.getfield 161, 3) := by decide +kernel
theorem dX5_jump_166 : decode cX5_jump 166 = .ok (.invokevirtual 164, 3) := by decide +kernel
theorem dX5_jump_169 : decode cX5_jump 169 = .ok (.ireturn, 1) := by decide +kernel
set_option maxRecDepth 20000 in
theorem ggX5_told_X5_isOutside : GoodIn wsX5_told wsX5_isOutside := goodIn_r _ [8] (by decide +kernel) (by decide +kernel)
set_option maxRecDepth 20000 in
theorem gX5_told_X5_isOutside : GoodIn wsX5_told (va_wsS RX5 49 yX5_isOutside wsX5_isOutside) := goodIn_app (goodIn_of _ (by decide +kernel)) ggX5_told_X5_isOutside
set_option maxRecDepth 20000 in
theorem ggX5_told_X1_tell : GoodIn wsX5_told wsX1_tell := goodIn_r _ [13, 14, 15, 16, 17, 18, 25, 26, 27, 28, 29, 30] (by decide +kernel) (by decide +kernel)
set_option maxRecDepth 20000 in
theorem gX5_told_X1_tell : GoodIn wsX5_told (wsV RX5 172 RX1 yX1_tell wsX1_tell) := goodIn_app (goodIn_of _ (by decide +kernel)) ggX5_told_X1_tell
theorem dX5_told_0 : decode cX5_told 0 = .ok (.iload_n 1, 1) := by decide +kernel
theorem dX5_told_1 : decode cX5_told 1 = .ok (.iconst 0, 1) := by decide +kernel
theorem dX5_told_2 : decode cX5_told 2 = .ok (.aload_n 0, 1) := by decide +kernel
theorem dX5_told_3 : decode cX5_told 3 = .ok (.getfield 45, 3) := by decide +kernel
theorem dX5_told_6 : decode cX5_told 6 = .ok (.getfield 138, 3) := by decide +kernel
theorem dX5_told_9 : decode cX5_told 9 = .ok (.iconst 1, 1) := by decide +kernel
theorem dX5_told_10 : decode cX5_told 10 = .ok (.isub, 1) := by decide +kernel
theorem dX5_told_11 : decode cX5_told 11 = .ok (.invokestatic 49, 3) := by decide +kernel
theorem dX5_told_14 : decode cX5_told 14 = .ok (.ifCond .eq 13, 3) := by decide +kernel
theorem dX5_told_17 : decode cX5_told 17 = .ok (.new 53, 3) := by decide +kernel
theorem dX5_told_20 : decode cX5_told 20 = .ok (.dup, 1) := by decide +kernel
theorem dX5_told_21 : decode cX5_told 21 = .ok (.ldc 168, 2) := by decide +kernel
theorem dX5_told_23 : decode cX5_told 23 = .ok (.invokespecial 57, 3) := by decide +kernel
theorem dX5_told_26 : decode cX5_told 26 = .ok (.athrow, 1) := by decide +kernel
theorem dX5_told_27 : decode cX5_told 27 = .ok (.iload_n 2, 1) := by decide +kernel
theorem dX5_told_28 : decode cX5_told 28 = .ok (.iconst 0, 1) := by decide +kernel
theorem dX5_told_29 : decode cX5_told 29 = .ok (.iconst 4, 1) := by decide +kernel
theorem dX5_told_30 : decode cX5_told 30 = .ok (.invokestatic 49, 3) := by decide +kernel
theorem dX5_told_33 : decode cX5_told 33 = .ok (.ifCond .eq 13, 3) := by decide +kernel
theorem dX5_told_36 : decode cX5_told 36 = .ok (.new 53, 3) := by decide +kernel
theorem dX5_told_39 : decode cX5_told 39 = .ok (.dup, 1) := by decide +kernel
theorem dX5_told_40 : decode cX5_told 40 = .ok (.ldc 170, 2) := by decide +kernel
theorem dX5_told_42 : decode cX5_told 42 = .ok (.invokespecial 57, 3) := by decide +kernel
theorem dX5_told_45 : decode cX5_told 45 = .ok (.athrow, 1) := by decide +kernel
theorem dX5_told_46 : decode cX5_told 46 = .ok (.aload_n 0, 1) := by decide +kernel
theorem dX5_told_47 : decode cX5_told 47 = .ok (.getfield 45, 3) := by decide +kernel
theorem dX5_told_50 : decode cX5_told 50 = .ok (.iload_n 1, 1) := by decide +kernel
theorem dX5_told_51 : decode cX5_told 51 = .ok (.iload_n 2, 1) := by decide +kernel
theorem dX5_told_52 : decode cX5_told 52 = .ok (.invokevirtual 172, 3) := by decide +kernel
theorem dX5_told_55 : decode cX5_told 55 = .ok (.ireturn, 1) := by decide +kernel
set_option maxRecDepth 20000 in
theorem ggX5_score_X5_isOutside : GoodIn wsX5_score wsX5_isOutside := goodIn_r _ [7] (by decide +kernel) (by decide +kernel)
set_option maxRecDepth 20000 in
theorem gX5_score_X5_isOutside : GoodIn wsX5_score (va_wsS RX5 49 yX5_isOutside wsX5_isOutside) := goodIn_app (goodIn_of _ (by decide +kernel)) ggX5_score_X5_isOutside
set_option maxRecDepth 20000 in
theorem ggX5_score_X1_bestTwo : GoodIn wsX5_score wsX1_bestTwo := goodIn_r _ [12, 13, 14, 15, 16, 17, 18, 19, 20, 21, 22, 29, 30, 31, 32, 33, 34] (by decide +kernel) (by decide +kernel)
set_option maxRecDepth 20000 in
theorem gX5_score_X1_bestTwo : GoodIn wsX5_score (wsV RX5 175 RX1 yX1_bestTwo wsX1_bestTwo) := goodIn_app (goodIn_of _ (by decide +kernel)) ggX5_score_X1_bestTwo
theorem dX5_score_0 : decode cX5_score 0 = .ok (.iload_n 1, 1) := by decide +kernel
theorem dX5_score_1 : decode cX5_score 1 = .ok (.iconst 0, 1) := by decide +kernel
theorem dX5_score_2 : decode cX5_score 2 = .ok (.bipush 9, 2) := by decide +kernel
theorem dX5_score_4 : decode cX5_score 4 = .ok (.invokestatic 49, 3) := by decide +kernel
theorem dX5_score_7 : decode cX5_score 7 = .ok (.ifCond .eq 13, 3) := by decide +kernel
theorem dX5_score_10 : decode cX5_score 10 = .ok (.new 53, 3) := by decide +kernel
theorem dX5_score_13 : decode cX5_score 13 = .ok (.dup, 1) := by decide +kernel
theorem dX5_score_14 : decode cX5_score 14 = .ok (.ldc 132, 2) := by decide +kernel
theorem dX5_score_16 : decode cX5_score 16 = .ok (.invokespecial 57, 3) := by decide +kernel
theorem dX5_score_19 : decode cX5_score 19 = .ok (.athrow, 1) := by decide +kernel
theorem dX5_score_20 : decode cX5_score 20 = .ok (.aload_n 0, 1) := by decide +kernel
theorem dX5_score_21 : decode cX5_score 21 = .ok (.getfield 45, 3) := by decide +kernel
theorem dX5_score_24 : decode cX5_score 24 = .ok (.iload_n 1, 1) := by decide +kernel
theorem dX5_score_25 : decode cX5_score 25 = .ok (.invokevirtual 175, 3) := by decide +kernel
theorem dX5_score_28 : decode cX5_score 28 = .ok (.ireturn, 1) := by decide +kernel
set_option maxRecDepth 20000 in
theorem ggX5_leader_X1_bestTwo : GoodIn wsX5_leader wsX1_bestTwo := goodIn_r _ [7, 8, 9, 10, 11, 12, 13, 14, 15, 16, 17, 24, 25, 26, 27, 28, 29] (by decide +kernel) (by decide +kernel)
set_option maxRecDepth 20000 in
theorem gX5_leader_X1_bestTwo : GoodIn wsX5_leader (wsV RX5 175 RX1 yX1_bestTwo wsX1_bestTwo) := goodIn_app (goodIn_of _ (by decide +kernel)) ggX5_leader_X1_bestTwo
theorem dX5_leader_0 : decode cX5_leader 0 = .ok (.aload_n 0, 1) := by decide +kernel
theorem dX5_leader_1 : decode cX5_leader 1 = .ok (.getfield 45, 3) := by decide +kernel
theorem dX5_leader_4 : decode cX5_leader 4 = .ok (.getfield 138, 3) := by decide +kernel
theorem dX5_leader_7 : decode cX5_leader 7 = .ok (.ifCond .ne 5, 3) := by decide +kernel
theorem dX5_leader_10 : decode cX5_leader 10 = .ok (.iconst (-1), 1) := by decide +kernel
theorem dX5_leader_11 : decode cX5_leader 11 = .ok (.ireturn, 1) := by decide +kernel
theorem dX5_leader_12 : decode cX5_leader 12 = .ok (.iconst 0, 1) := by decide +kernel
theorem dX5_leader_13 : decode cX5_leader 13 = .ok (.istore_n 1, 1) := by decide +kernel
theorem dX5_leader_14 : decode cX5_leader 14 = .ok (.aload_n 0, 1) := by decide +kernel
theorem dX5_leader_15 : decode cX5_leader 15 = .ok (.getfield 45, 3) := by decide +kernel
theorem dX5_leader_18 : decode cX5_leader 18 = .ok (.iconst 0, 1) := by decide +kernel
theorem dX5_leader_19 : decode cX5_leader 19 = .ok (.invokevirtual 175, 3) := by decide +kernel
theorem dX5_leader_22 : decode cX5_leader 22 = .ok (.istore_n 2, 1) := by decide +kernel
theorem dX5_leader_23 : decode cX5_leader 23 = .ok (.iconst 1, 1) := by decide +kernel
theorem dX5_leader_24 : decode cX5_leader 24 = .ok (.istore_n 3, 1) := by decide +kernel
theorem dX5_leader_25 : decode cX5_leader 25 = .ok (.iload_n 3, 1) := by decide +kernel
theorem dX5_leader_26 : decode cX5_leader 26 = .ok (.bipush 10, 2) := by decide +kernel
theorem dX5_leader_28 : decode cX5_leader 28 = .ok (.if_icmp .ge 30, 3) := by decide +kernel
theorem dX5_leader_31 : decode cX5_leader 31 = .ok (.aload_n 0, 1) := by decide +kernel
theorem dX5_leader_32 : decode cX5_leader 32 = .ok (.getfield 45, 3) := by decide +kernel
theorem dX5_leader_35 : decode cX5_leader 35 = .ok (.iload_n 3, 1) := by decide +kernel
theorem dX5_leader_36 : decode cX5_leader 36 = .ok (.invokevirtual 175, 3) := by decide +kernel
theorem dX5_leader_39 : decode cX5_leader 39 = .ok (.istore 4, 2) := by decide +kernel
theorem dX5_leader_41 : decode cX5_leader 41 = .ok (.iload 4, 2) := by decide +kernel
theorem dX5_leader_43 : decode cX5_leader 43 = .ok (.iload_n 2, 1) := by decide +kernel
theorem dX5_leader_44 : decode cX5_leader 44 = .ok (.if_icmp .le 8, 3) := by decide +kernel
theorem dX5_leader_47 : decode cX5_leader 47 = .ok (.iload 4, 2) := by decide +kernel
theorem dX5_leader_49 : decode cX5_leader 49 = .ok (.istore_n 2, 1) := by decide +kernel
theorem dX5_leader_50 : decode cX5_leader 50 = .ok (.iload_n 3, 1) := by decide +kernel
theorem dX5_leader_51 : decode cX5_leader 51 = .ok (.istore_n 1, 1) := by decide +kernel
theorem dX5_leader_52 : decode cX5_leader 52 = .ok (.iinc 3 1, 3) := by decide +kernel
theorem dX5_leader_55 : decode cX5_leader 55 = .ok (.goto (-30), 3) := by decide +kernel
theorem dX5_leader_58 : decode cX5_leader 58 = .ok (.iload_n 1, 1) := by decide +kernel
theorem dX5_leader_59 : decode cX5_leader 59 = .ok (.ireturn, 1) := by decide +kernel
set_option maxRecDepth 20000 in
theorem ggX5_part_X5_isOutside : GoodIn wsX5_part wsX5_isOutside := goodIn_r _ [6] (by decide +kernel) (by decide +kernel)
set_option maxRecDepth 20000 in
theorem gX5_part_X5_isOutside : GoodIn wsX5_part (va_wsS RX5 49 yX5_isOutside wsX5_isOutside) := goodIn_app (goodIn_of _ (by decide +kernel)) ggX5_part_X5_isOutside
set_option maxRecDepth 20000 in
theorem ggX5_part_X5_tellPart : GoodIn wsX5_part wsX5_tellPart := goodIn_r _ [10, 11, 12, 13, 14, 15, 16, 17, 18, 19, 20, 21, 22, 23, 24, 25, 26, 27, 28, 29, 30, 31, 32, 33, 34, 35, 36, 37, 38, 39, 40, 41, 42, 43, 44] (by decide +kernel) (by decide +kernel)
set_option maxRecDepth 20000 in
theorem gX5_part_X5_tellPart : GoodIn wsX5_part (wsV RX5 180 RX5 yX5_tellPart wsX5_tellPart) := goodIn_app (goodIn_of _ (by decide +kernel)) ggX5_part_X5_tellPart
theorem dX5_part_0 : decode cX5_part 0 = .ok (.iload_n 1, 1) := by decide +kernel
theorem dX5_part_1 : decode cX5_part 1 = .ok (.iconst 0, 1) := by decide +kernel
theorem dX5_part_2 : decode cX5_part 2 = .ok (.bipush 19, 2) := by decide +kernel
theorem dX5_part_4 : decode cX5_part 4 = .ok (.invokestatic 49, 3) := by decide +kernel
theorem dX5_part_7 : decode cX5_part 7 = .ok (.ifCond .eq 13, 3) := by decide +kernel
theorem dX5_part_10 : decode cX5_part 10 = .ok (.new 53, 3) := by decide +kernel
theorem dX5_part_13 : decode cX5_part 13 = .ok (.dup, 1) := by decide +kernel
theorem dX5_part_14 : decode cX5_part 14 = .ok (.ldc 83, 2) := by decide +kernel
theorem dX5_part_16 : decode cX5_part 16 = .ok (.invokespecial 57, 3) := by decide +kernel
theorem dX5_part_19 : decode cX5_part 19 = .ok (.athrow, 1) := by decide +kernel
theorem dX5_part_20 : decode cX5_part 20 = .ok (.iload_n 2, 1) := by decide +kernel
theorem dX5_part_21 : decode cX5_part 21 = .ok (.iconst 0, 1) := by decide +kernel
theorem dX5_part_22 : decode cX5_part 22 = .ok (.iconst 3, 1) := by decide +kernel
theorem dX5_part_23 : decode cX5_part 23 = .ok (.invokestatic 49, 3) := by decide +kernel
theorem dX5_part_26 : decode cX5_part 26 = .ok (.ifCond .eq 13, 3) := by decide +kernel
theorem dX5_part_29 : decode cX5_part 29 = .ok (.new 53, 3) := by decide +kernel
theorem dX5_part_32 : decode cX5_part 32 = .ok (.dup, 1) := by decide +kernel
theorem dX5_part_33 : decode cX5_part 33 = .ok (.ldc 178, 2) := by decide +kernel
theorem dX5_part_35 : decode cX5_part 35 = .ok (.invokespecial 57, 3) := by decide +kernel
theorem dX5_part_38 : decode cX5_part 38 = .ok (.athrow, 1) := by decide +kernel
theorem dX5_part_39 : decode cX5_part 39 = .ok (.aload_n 0, 1) := by decide +kernel
theorem dX5_part_40 : decode cX5_part 40 = .ok (.iload_n 1, 1) := by decide +kernel
theorem dX5_part_41 : decode cX5_part 41 = .ok (.iload_n 2, 1) := by decide +kernel
theorem dX5_part_42 : decode cX5_part 42 = .ok (.invokevirtual 180, 3) := by decide +kernel
theorem dX5_part_45 : decode cX5_part 45 = .ok (.ireturn, 1) := by decide +kernel
set_option maxRecDepth 20000 in
theorem ggX5_count_X5_isOutside : GoodIn wsX5_count wsX5_isOutside := goodIn_r _ [6] (by decide +kernel) (by decide +kernel)
set_option maxRecDepth 20000 in
theorem gX5_count_X5_isOutside : GoodIn wsX5_count (va_wsS RX5 49 yX5_isOutside wsX5_isOutside) := goodIn_app (goodIn_of _ (by decide +kernel)) ggX5_count_X5_isOutside
set_option maxRecDepth 20000 in
theorem ggX5_count_X5_tellCount : GoodIn wsX5_count wsX5_tellCount := goodIn_r _ [10, 11, 12, 13, 14, 15, 16, 17, 18, 19, 20, 21, 22, 23, 24, 25, 26, 27, 28, 29, 30, 31, 32, 33, 34, 35, 36, 37, 38, 39, 40, 41, 42, 43, 44, 45, 46, 47, 5, 48, 49, 50, 51, 52, 53, 54, 55, 56, 57, 58, 59, 60, 61, 62, 63, 64, 65, 66, 67, 68, 69, 70, 71, 72, 73, 74, 75, 76, 77, 78, 79, 80, 81, 82, 83, 84] (by decide +kernel) (by decide +kernel)
set_option maxRecDepth 20000 in
theorem gX5_count_X5_tellCount : GoodIn wsX5_count (wsV RX5 185 RX5 yX5_tellCount wsX5_tellCount) := goodIn_app (goodIn_of _ (by decide +kernel)) ggX5_count_X5_tellCount
theorem dX5_count_0 : decode cX5_count 0 = .ok (.iload_n 1, 1) := by decide +kernel
theorem dX5_count_1 : decode cX5_count 1 = .ok (.iconst 0, 1) := by decide +kernel
theorem dX5_count_2 : decode cX5_count 2 = .ok (.bipush 10, 2) := by decide +kernel
theorem dX5_count_4 : decode cX5_count 4 = .ok (.invokestatic 49, 3) := by decide +kernel
theorem dX5_count_7 : decode cX5_count 7 = .ok (.ifCond .eq 13, 3) := by decide +kernel
theorem dX5_count_10 : decode cX5_count 10 = .ok (.new 53, 3) := by decide +kernel
theorem dX5_count_13 : decode cX5_count 13 = .ok (.dup, 1) := by decide +kernel
theorem dX5_count_14 : decode cX5_count 14 = .ok (.ldc 183, 2) := by decide +kernel
theorem dX5_count_16 : decode cX5_count 16 = .ok (.invokespecial 57, 3) := by decide +kernel
theorem dX5_count_19 : decode cX5_count 19 = .ok (.athrow, 1) := by decide +kernel
theorem dX5_count_20 : decode cX5_count 20 = .ok (.aload_n 0, 1) := by decide +kernel
theorem dX5_count_21 : decode cX5_count 21 = .ok (.iload_n 1, 1) := by decide +kernel
theorem dX5_count_22 : decode cX5_count 22 = .ok (.invokevirtual 185, 3) := by decide +kernel
theorem dX5_count_25 : decode cX5_count 25 = .ok (.ireturn, 1) := by decide +kernel
set_option maxRecDepth 20000 in
theorem ggX5_pass_X5_isOutside : GoodIn wsX5_pass wsX5_isOutside := goodIn_r _ [7] (by decide +kernel) (by decide +kernel)
set_option maxRecDepth 20000 in
theorem gX5_pass_X5_isOutside : GoodIn wsX5_pass (va_wsS RX5 49 yX5_isOutside wsX5_isOutside) := goodIn_app (goodIn_of _ (by decide +kernel)) ggX5_pass_X5_isOutside
set_option maxRecDepth 20000 in
theorem ggX5_pass_X0_allSnow : GoodIn wsX5_pass wsX0_allSnow := goodIn_r _ [12, 13, 14, 6, 15, 81, 82, 83, 84, 85, 86, 87] (by decide +kernel) (by decide +kernel)
set_option maxRecDepth 20000 in
theorem gX5_pass_X0_allSnow : GoodIn wsX5_pass (wsV RX5 190 RX0 yX0_allSnow wsX0_allSnow) := goodIn_app (goodIn_of _ (by decide +kernel)) ggX5_pass_X0_allSnow
set_option maxRecDepth 20000 in
theorem ggX5_pass_X0_letHoursGoBy : GoodIn wsX5_pass wsX0_letHoursGoBy := goodIn_r _ [19, 20, 21, 22, 11, 23, 24, 25, 26, 27, 28, 29, 30, 31, 32, 33, 34, 35, 36, 37, 38, 39, 40, 41, 42, 43, 44, 45, 46, 47, 48, 49, 50, 51, 52, 53, 54, 55, 56, 57, 58, 59, 5, 6, 7, 60, 61, 62, 63, 13, 64, 65, 66, 67, 68, 69, 70, 71, 72, 73, 74, 81, 82, 83, 84, 85, 86, 87, 88, 89, 90, 91, 92, 93] (by decide +kernel) (by decide +kernel)
set_option maxRecDepth 20000 in
theorem gX5_pass_X0_letHoursGoBy : GoodIn wsX5_pass (wsV RX5 193 RX0 yX0_letHoursGoBy wsX0_letHoursGoBy) := goodIn_app (goodIn_of _ (by decide +kernel)) ggX5_pass_X0_letHoursGoBy
theorem dX5_pass_0 : decode cX5_pass 0 = .ok (.iload_n 1, 1) := by decide +kernel
theorem dX5_pass_1 : decode cX5_pass 1 = .ok (.iconst 1, 1) := by decide +kernel
theorem dX5_pass_2 : decode cX5_pass 2 = .ok (.bipush 96, 2) := by decide +kernel
theorem dX5_pass_4 : decode cX5_pass 4 = .ok (.invokestatic 49, 3) := by decide +kernel
theorem dX5_pass_7 : decode cX5_pass 7 = .ok (.ifCond .eq 13, 3) := by decide +kernel
theorem dX5_pass_10 : decode cX5_pass 10 = .ok (.new 60, 3) := by decide +kernel
theorem dX5_pass_13 : decode cX5_pass 13 = .ok (.dup, 1) := by decide +kernel
theorem dX5_pass_14 : decode cX5_pass 14 = .ok (.ldc 188, 2) := by decide +kernel
theorem dX5_pass_16 : decode cX5_pass 16 = .ok (.invokespecial 64, 3) := by decide +kernel
theorem dX5_pass_19 : decode cX5_pass 19 = .ok (.athrow, 1) := by decide +kernel
theorem dX5_pass_20 : decode cX5_pass 20 = .ok (.aload_n 0, 1) := by decide +kernel
theorem dX5_pass_21 : decode cX5_pass 21 = .ok (.getfield 28, 3) := by decide +kernel
theorem dX5_pass_24 : decode cX5_pass 24 = .ok (.invokevirtual 190, 3) := by decide +kernel
theorem dX5_pass_27 : decode cX5_pass 27 = .ok (.istore_n 2, 1) := by decide +kernel
theorem dX5_pass_28 : decode cX5_pass 28 = .ok (.aload_n 0, 1) := by decide +kernel
theorem dX5_pass_29 : decode cX5_pass 29 = .ok (.getfield 28, 3) := by decide +kernel
theorem dX5_pass_32 : decode cX5_pass 32 = .ok (.iload_n 1, 1) := by decide +kernel
theorem dX5_pass_33 : decode cX5_pass 33 = .ok (.invokevirtual 193, 3) := by decide +kernel
theorem dX5_pass_36 : decode cX5_pass 36 = .ok (.aload_n 0, 1) := by decide +kernel
theorem dX5_pass_37 : decode cX5_pass 37 = .ok (.getfield 28, 3) := by decide +kernel
theorem dX5_pass_40 : decode cX5_pass 40 = .ok (.invokevirtual 190, 3) := by decide +kernel
theorem dX5_pass_43 : decode cX5_pass 43 = .ok (.iload_n 2, 1) := by decide +kernel
theorem dX5_pass_44 : decode cX5_pass 44 = .ok (.isub, 1) := by decide +kernel
theorem dX5_pass_45 : decode cX5_pass 45 = .ok (.ireturn, 1) := by decide +kernel
set_option maxRecDepth 20000 in
theorem ggX5_enough_X5_isOutside : GoodIn wsX5_enough wsX5_isOutside := goodIn_r _ [11] (by decide +kernel) (by decide +kernel)
set_option maxRecDepth 20000 in
theorem gX5_enough_X5_isOutside : GoodIn wsX5_enough (va_wsS RX5 49 yX5_isOutside wsX5_isOutside) := goodIn_app (goodIn_of _ (by decide +kernel)) ggX5_enough_X5_isOutside
set_option maxRecDepth 20000 in
theorem ggX5_enough_X0_becomeLike : GoodIn wsX5_enough wsX0_becomeLike := goodIn_r _ [16, 17, 18, 19, 20, 21, 79, 80, 81, 82, 83, 84, 85] (by decide +kernel) (by decide +kernel)
set_option maxRecDepth 20000 in
theorem gX5_enough_X0_becomeLike : GoodIn wsX5_enough (wsV RX5 199 RX0 yX0_becomeLike wsX0_becomeLike) := goodIn_app (goodIn_of _ (by decide +kernel)) ggX5_enough_X0_becomeLike
set_option maxRecDepth 20000 in
theorem ggX5_enough_X0_letHourGoBy : GoodIn wsX5_enough wsX0_letHourGoBy := goodIn_r _ [25, 26, 27, 19, 28, 29, 30, 21, 31, 32, 33, 15, 34, 35, 36, 37, 38, 39, 40, 41, 42, 43, 44, 45, 46, 47, 48, 49, 20, 50, 51, 52, 53, 54, 55, 56, 57, 18, 9, 10, 11, 58, 59, 60, 61, 17, 62, 63, 64, 65, 66, 67, 68, 69, 70, 71, 72, 79, 80, 81, 82, 83, 84, 85, 86, 87, 88, 89, 90, 91] (by decide +kernel) (by decide +kernel)
set_option maxRecDepth 20000 in
theorem gX5_enough_X0_letHourGoBy : GoodIn wsX5_enough (wsV RX5 206 RX0 yX0_letHourGoBy wsX0_letHourGoBy) := goodIn_app (goodIn_of _ (by decide +kernel)) ggX5_enough_X0_letHourGoBy
theorem dX5_enough_0 : decode cX5_enough 0 = .ok (.iload_n 1, 1) := by decide +kernel
theorem dX5_enough_1 : decode cX5_enough 1 = .ok (.iconst 0, 1) := by decide +kernel
theorem dX5_enough_2 : decode cX5_enough 2 = .ok (.bipush 19, 2) := by decide +kernel
theorem dX5_enough_4 : decode cX5_enough 4 = .ok (.invokestatic 49, 3) := by decide +kernel
theorem dX5_enough_7 : decode cX5_enough 7 = .ok (.ifCond .eq 13, 3) := by decide +kernel
theorem dX5_enough_10 : decode cX5_enough 10 = .ok (.new 53, 3) := by decide +kernel
theorem dX5_enough_13 : decode cX5_enough 13 = .ok (.dup, 1) := by decide +kernel
theorem dX5_enough_14 : decode cX5_enough 14 = .ok (.ldc 83, 2) := by decide +kernel
theorem dX5_enough_16 : decode cX5_enough 16 = .ok (.invokespecial 57, 3) := by decide +kernel
theorem dX5_enough_19 : decode cX5_enough 19 = .ok (.athrow, 1) := by decide +kernel
theorem dX5_enough_20 : decode cX5_enough 20 = .ok (.iload_n 2, 1) := by decide +kernel
theorem dX5_enough_21 : decode cX5_enough 21 = .ok (.iconst 1, 1) := by decide +kernel
theorem dX5_enough_22 : decode cX5_enough 22 = .ok (.sipush 300, 3) := by decide +kernel
theorem dX5_enough_25 : decode cX5_enough 25 = .ok (.invokestatic 49, 3) := by decide +kernel
theorem dX5_enough_28 : decode cX5_enough 28 = .ok (.ifCond .eq 13, 3) := by decide +kernel
theorem dX5_enough_31 : decode cX5_enough 31 = .ok (.new 60, 3) := by decide +kernel
theorem dX5_enough_34 : decode cX5_enough 34 = .ok (.dup, 1) := by decide +kernel
theorem dX5_enough_35 : decode cX5_enough 35 = .ok (.ldc 197, 2) := by decide +kernel
theorem dX5_enough_37 : decode cX5_enough 37 = .ok (.invokespecial 64, 3) := by decide +kernel
theorem dX5_enough_40 : decode cX5_enough 40 = .ok (.athrow, 1) := by decide +kernel
theorem dX5_enough_41 : decode cX5_enough 41 = .ok (.aload_n 0, 1) := by decide +kernel
theorem dX5_enough_42 : decode cX5_enough 42 = .ok (.getfield 32, 3) := by decide +kernel
theorem dX5_enough_45 : decode cX5_enough 45 = .ok (.aload_n 0, 1) := by decide +kernel
theorem dX5_enough_46 : decode cX5_enough 46 = .ok (.getfield 28, 3) := by decide +kernel
theorem dX5_enough_49 : decode cX5_enough 49 = .ok (.invokevirtual 199, 3) := by decide +kernel
theorem dX5_enough_52 : decode cX5_enough 52 = .ok (.iconst 0, 1) := by decide +kernel
theorem dX5_enough_53 : decode cX5_enough 53 = .ok (.istore_n 3, 1) := by decide +kernel
theorem dX5_enough_54 : decode cX5_enough 54 = .ok (.iload_n 3, 1) := by decide +kernel
theorem dX5_enough_55 : decode cX5_enough 55 = .ok (.sipush 240, 3) := by decide +kernel
theorem dX5_enough_58 : decode cX5_enough 58 = .ok (.if_icmp .gt 31, 3) := by decide +kernel
theorem dX5_enough_61 : decode cX5_enough 61 = .ok (.aload_n 0, 1) := by decide +kernel
theorem dX5_enough_62 : decode cX5_enough 62 = .ok (.getfield 32, 3) := by decide +kernel
theorem dX5_enough_65 : decode cX5_enough 65 = .ok (.getfield 203, 3) := by decide +kernel
theorem dX5_enough_68 : decode cX5_enough 68 = .ok (.iload_n 1, 1) := by decide +kernel
theorem dX5_enough_69 : decode cX5_enough 69 = .ok (.iaload, 1) := by decide +kernel
theorem dX5_enough_70 : decode cX5_enough 70 = .ok (.iload_n 2, 1) := by decide +kernel
theorem dX5_enough_71 : decode cX5_enough 71 = .ok (.if_icmp .lt 5, 3) := by decide +kernel
theorem dX5_enough_74 : decode cX5_enough 74 = .ok (.iload_n 3, 1) := by decide +kernel
theorem dX5_enough_75 : decode cX5_enough 75 = .ok (.ireturn, 1) := by decide +kernel
theorem dX5_enough_76 : decode cX5_enough 76 = .ok (.aload_n 0, 1) := by decide +kernel
theorem dX5_enough_77 : decode cX5_enough 77 = .ok (.getfield 32, 3) := by decide +kernel
theorem dX5_enough_80 : decode cX5_enough 80 = .ok (.invokevirtual 206, 3) := by decide +kernel
theorem dX5_enough_83 : decode cX5_enough 83 = .ok (.iinc 3 1, 3) := by decide +kernel
theorem dX5_enough_86 : decode cX5_enough 86 = .ok (.goto (-32), 3) := by decide +kernel
theorem dX5_enough_89 : decode cX5_enough 89 = .ok (.iconst (-1), 1) := by decide +kernel
theorem dX5_enough_90 : decode cX5_enough 90 = .ok (.ireturn, 1) := by decide +kernel
set_option maxRecDepth 20000 in
theorem ggX5_foresee_X5_isOutside : GoodIn wsX5_foresee wsX5_isOutside := goodIn_r _ [11] (by decide +kernel) (by decide +kernel)
set_option maxRecDepth 20000 in
theorem gX5_foresee_X5_isOutside : GoodIn wsX5_foresee (va_wsS RX5 49 yX5_isOutside wsX5_isOutside) := goodIn_app (goodIn_of _ (by decide +kernel)) ggX5_foresee_X5_isOutside
set_option maxRecDepth 20000 in
theorem ggX5_foresee_X0_becomeLike : GoodIn wsX5_foresee wsX0_becomeLike := goodIn_r _ [16, 17, 18, 19, 20, 21, 93, 94, 95, 96, 97, 98, 99] (by decide +kernel) (by decide +kernel)
set_option maxRecDepth 20000 in
theorem gX5_foresee_X0_becomeLike : GoodIn wsX5_foresee (wsV RX5 199 RX0 yX0_becomeLike wsX0_becomeLike) := goodIn_app (goodIn_of _ (by decide +kernel)) ggX5_foresee_X0_becomeLike
set_option maxRecDepth 20000 in
theorem ggX5_foresee_X0_letHoursGoBy : GoodIn wsX5_foresee wsX0_letHoursGoBy := goodIn_r _ [25, 26, 27, 28, 15, 29, 30, 31, 19, 32, 33, 34, 21, 35, 36, 37, 38, 39, 40, 41, 42, 43, 44, 45, 46, 47, 48, 49, 50, 51, 52, 53, 20, 54, 55, 56, 57, 58, 59, 60, 61, 18, 9, 10, 11, 62, 63, 64, 65, 17, 66, 67, 68, 69, 70, 71, 72, 73, 74, 75, 76, 93, 94, 95, 96, 97, 98, 99, 100, 101, 102, 103, 104, 105] (by decide +kernel) (by decide +kernel)
set_option maxRecDepth 20000 in
theorem gX5_foresee_X0_letHoursGoBy : GoodIn wsX5_foresee (wsV RX5 193 RX0 yX0_letHoursGoBy wsX0_letHoursGoBy) := goodIn_app (goodIn_of _ (by decide +kernel)) ggX5_foresee_X0_letHoursGoBy
set_option maxRecDepth 20000 in
theorem ggX5_foresee_X0_allSnow : GoodIn wsX5_foresee wsX0_allSnow := goodIn_r _ [80, 17, 81, 10, 82, 93, 94, 95, 96, 97, 98, 99] (by decide +kernel) (by decide +kernel)
set_option maxRecDepth 20000 in
theorem gX5_foresee_X0_allSnow : GoodIn wsX5_foresee (wsV RX5 190 RX0 yX0_allSnow wsX0_allSnow) := goodIn_app (goodIn_of _ (by decide +kernel)) ggX5_foresee_X0_allSnow
set_option maxRecDepth 20000 in
theorem ggX5_foresee_X0_allIce : GoodIn wsX5_foresee wsX0_allIce := goodIn_r _ [86, 18, 81, 10, 82, 93, 94, 95, 96, 97, 98, 99] (by decide +kernel) (by decide +kernel)
set_option maxRecDepth 20000 in
theorem gX5_foresee_X0_allIce : GoodIn wsX5_foresee (wsV RX5 211 RX0 yX0_allIce wsX0_allIce) := goodIn_app (goodIn_of _ (by decide +kernel)) ggX5_foresee_X0_allIce
theorem dX5_foresee_0 : decode cX5_foresee 0 = .ok (.iload_n 1, 1) := by decide +kernel
theorem dX5_foresee_1 : decode cX5_foresee 1 = .ok (.iconst 1, 1) := by decide +kernel
theorem dX5_foresee_2 : decode cX5_foresee 2 = .ok (.bipush 96, 2) := by decide +kernel
theorem dX5_foresee_4 : decode cX5_foresee 4 = .ok (.invokestatic 49, 3) := by decide +kernel
theorem dX5_foresee_7 : decode cX5_foresee 7 = .ok (.ifCond .eq 13, 3) := by decide +kernel
theorem dX5_foresee_10 : decode cX5_foresee 10 = .ok (.new 60, 3) := by decide +kernel
theorem dX5_foresee_13 : decode cX5_foresee 13 = .ok (.dup, 1) := by decide +kernel
theorem dX5_foresee_14 : decode cX5_foresee 14 = .ok (.ldc 188, 2) := by decide +kernel
theorem dX5_foresee_16 : decode cX5_foresee 16 = .ok (.invokespecial 64, 3) := by decide +kernel
theorem dX5_foresee_19 : decode cX5_foresee 19 = .ok (.athrow, 1) := by decide +kernel
theorem dX5_foresee_20 : decode cX5_foresee 20 = .ok (.iload_n 2, 1) := by decide +kernel
theorem dX5_foresee_21 : decode cX5_foresee 21 = .ok (.iconst 4, 1) := by decide +kernel
theorem dX5_foresee_22 : decode cX5_foresee 22 = .ok (.if_icmp .eq 25, 3) := by decide +kernel
theorem dX5_foresee_25 : decode cX5_foresee 25 = .ok (.iload_n 2, 1) := by decide +kernel
theorem dX5_foresee_26 : decode cX5_foresee 26 = .ok (.bipush 7, 2) := by decide +kernel
theorem dX5_foresee_28 : decode cX5_foresee 28 = .ok (.if_icmp .eq 19, 3) := by decide +kernel
theorem dX5_foresee_31 : decode cX5_foresee 31 = .ok (.iload_n 2, 1) := by decide +kernel
theorem dX5_foresee_32 : decode cX5_foresee 32 = .ok (.bipush 8, 2) := by decide +kernel
theorem dX5_foresee_34 : decode cX5_foresee 34 = .ok (.if_icmp .eq 13, 3) := by decide +kernel
theorem dX5_foresee_37 : decode cX5_foresee 37 = .ok (.new 53, 3) := by decide +kernel
theorem dX5_foresee_40 : decode cX5_foresee 40 = .ok (.dup, 1) := by decide +kernel
theorem dX5_foresee_41 : decode cX5_foresee 41 = .ok (.ldc 209, 2) := by decide +kernel
theorem dX5_foresee_43 : decode cX5_foresee 43 = .ok (.invokespecial 57, 3) := by decide +kernel
theorem dX5_foresee_46 : decode cX5_foresee 46 = .ok (.athrow, 1) := by decide +kernel
theorem dX5_foresee_47 : decode cX5_foresee 47 = .ok (.aload_n 0, 1) := by decide +kernel
theorem dX5_foresee_48 : decode cX5_foresee 48 = .ok (.getfield 32, 3) := by decide +kernel
theorem dX5_foresee_51 : decode cX5_foresee 51 = .ok (.aload_n 0, 1) := by decide +kernel
theorem dX5_foresee_52 : decode cX5_foresee 52 = .ok (.getfield 28, 3) := by decide +kernel
theorem dX5_foresee_55 : decode cX5_foresee 55 = .ok (.invokevirtual 199, 3) := by decide +kernel
theorem dX5_foresee_58 : decode cX5_foresee 58 = .ok (.aload_n 0, 1) := by decide +kernel
theorem dX5_foresee_59 : decode cX5_foresee 59 = .ok (.getfield 32, 3) := by decide +kernel
theorem dX5_foresee_62 : decode cX5_foresee 62 = .ok (.iload_n 1, 1) := by decide +kernel
theorem dX5_foresee_63 : decode cX5_foresee 63 = .ok (.invokevirtual 193, 3) := by decide +kernel
theorem dX5_foresee_66 : decode cX5_foresee 66 = .ok (.iload_n 2, 1) := by decide +kernel
theorem dX5_foresee_67 : decode cX5_foresee 67 = .ok (.iconst 4, 1) := by decide +kernel
theorem dX5_foresee_68 : decode cX5_foresee 68 = .ok (.if_icmp .ne 11, 3) := by decide +kernel
theorem dX5_foresee_71 : decode cX5_foresee 71 = .ok (.aload_n 0, 1) := by decide +kernel
theorem dX5_foresee_72 : decode cX5_foresee 72 = .ok (.getfield 32, 3) := by decide +kernel
theorem dX5_foresee_75 : decode cX5_foresee 75 = .ok (.getfield 108, 3) := by decide +kernel
theorem dX5_foresee_78 : decode cX5_foresee 78 = .ok (.ireturn, 1) := by decide +kernel
theorem dX5_foresee_79 : decode cX5_foresee 79 = .ok (.iload_n 2, 1) := by decide +kernel
theorem dX5_foresee_80 : decode cX5_foresee 80 = .ok (.bipush 7, 2) := by decide +kernel
theorem dX5_foresee_82 : decode cX5_foresee 82 = .ok (.if_icmp .ne 13, 3) := by decide +kernel
theorem dX5_foresee_85 : decode cX5_foresee 85 = .ok (.aload_n 0, 1) := by decide +kernel
theorem dX5_foresee_86 : decode cX5_foresee 86 = .ok (.getfield 32, 3) := by decide +kernel
theorem dX5_foresee_89 : decode cX5_foresee 89 = .ok (.invokevirtual 190, 3) := by decide +kernel
theorem dX5_foresee_92 : decode cX5_foresee 92 = .ok (.goto 10, 3) := by decide +kernel
theorem dX5_foresee_95 : decode cX5_foresee 95 = .ok (.aload_n 0, 1) := by decide +kernel
theorem dX5_foresee_96 : decode cX5_foresee 96 = .ok (.getfield 32, 3) := by decide +kernel
theorem dX5_foresee_99 : decode cX5_foresee 99 = .ok (.invokevirtual 211, 3) := by decide +kernel
theorem dX5_foresee_102 : decode cX5_foresee 102 = .ok (.ireturn, 1) := by decide +kernel
set_option maxRecDepth 20000 in
theorem ggX5_gate_X5_isOutside : GoodIn wsX5_gate wsX5_isOutside := goodIn_r _ [9] (by decide +kernel) (by decide +kernel)
set_option maxRecDepth 20000 in
theorem gX5_gate_X5_isOutside : GoodIn wsX5_gate (va_wsS RX5 49 yX5_isOutside wsX5_isOutside) := goodIn_app (goodIn_of _ (by decide +kernel)) ggX5_gate_X5_isOutside
set_option maxRecDepth 20000 in
theorem ggX5_gate_X0_hourOfDay : GoodIn wsX5_gate wsX0_hourOfDay := goodIn_r _ [14, 15, 16, 17, 18, 19, 48, 49, 50, 51, 52, 53, 54] (by decide +kernel) (by decide +kernel)
set_option maxRecDepth 20000 in
theorem gX5_gate_X0_hourOfDay : GoodIn wsX5_gate (wsV RX5 141 RX0 yX0_hourOfDay wsX0_hourOfDay) := goodIn_app (goodIn_of _ (by decide +kernel)) ggX5_gate_X0_hourOfDay
set_option maxRecDepth 20000 in
theorem ggX5_gate_X5_lengthFrom : GoodIn wsX5_gate wsX5_lengthFrom := goodIn_r _ [22, 23, 24, 8, 25, 26, 27, 28, 29, 30, 31, 32] (by decide +kernel) (by decide +kernel)
set_option maxRecDepth 20000 in
theorem gX5_gate_X5_lengthFrom : GoodIn wsX5_gate (va_wsS RX5 145 yX5_lengthFrom wsX5_lengthFrom) := goodIn_app (goodIn_of _ (by decide +kernel)) ggX5_gate_X5_lengthFrom
set_option maxRecDepth 20000 in
theorem ggX5_gate_X0_fallsAt : GoodIn wsX5_gate wsX0_fallsAt := goodIn_r _ [36, 37, 38, 48, 49, 50, 51, 52, 53, 54] (by decide +kernel) (by decide +kernel)
set_option maxRecDepth 20000 in
theorem gX5_gate_X0_fallsAt : GoodIn wsX5_gate (wsV RX5 149 RX0 yX0_fallsAt wsX0_fallsAt) := goodIn_app (goodIn_of _ (by decide +kernel)) ggX5_gate_X0_fallsAt
theorem dX5_gate_0 : decode cX5_gate 0 = .ok (.iload_n 1, 1) := by decide +kernel
theorem dX5_gate_1 : decode cX5_gate 1 = .ok (.iconst 0, 1) := by decide +kernel
theorem dX5_gate_2 : decode cX5_gate 2 = .ok (.bipush 20, 2) := by decide +kernel
theorem dX5_gate_4 : decode cX5_gate 4 = .ok (.invokestatic 49, 3) := by decide +kernel
theorem dX5_gate_7 : decode cX5_gate 7 = .ok (.ifCond .eq 13, 3) := by decide +kernel
theorem dX5_gate_10 : decode cX5_gate 10 = .ok (.new 60, 3) := by decide +kernel
theorem dX5_gate_13 : decode cX5_gate 13 = .ok (.dup, 1) := by decide +kernel
theorem dX5_gate_14 : decode cX5_gate 14 = .ok (.ldc 136, 2) := by decide +kernel
theorem dX5_gate_16 : decode cX5_gate 16 = .ok (.invokespecial 64, 3) := by decide +kernel
theorem dX5_gate_19 : decode cX5_gate 19 = .ok (.athrow, 1) := by decide +kernel
theorem dX5_gate_20 : decode cX5_gate 20 = .ok (.aload_n 0, 1) := by decide +kernel
theorem dX5_gate_21 : decode cX5_gate 21 = .ok (.getfield 10, 3) := by decide +kernel
theorem dX5_gate_24 : decode cX5_gate 24 = .ok (.getfield 76, 3) := by decide +kernel
theorem dX5_gate_27 : decode cX5_gate 27 = .ok (.aload_n 0, 1) := by decide +kernel
theorem dX5_gate_28 : decode cX5_gate 28 = .ok (.getfield 28, 3) := by decide +kernel
theorem dX5_gate_31 : decode cX5_gate 31 = .ok (.invokevirtual 141, 3) := by decide +kernel
theorem dX5_gate_34 : decode cX5_gate 34 = .ok (.iaload, 1) := by decide +kernel
theorem dX5_gate_35 : decode cX5_gate 35 = .ok (.istore_n 2, 1) := by decide +kernel
theorem dX5_gate_36 : decode cX5_gate 36 = .ok (.bipush 20, 2) := by decide +kernel
theorem dX5_gate_38 : decode cX5_gate 38 = .ok (.istore_n 3, 1) := by decide +kernel
theorem dX5_gate_39 : decode cX5_gate 39 = .ok (.iload_n 3, 1) := by decide +kernel
theorem dX5_gate_40 : decode cX5_gate 40 = .ok (.iconst 1, 1) := by decide +kernel
theorem dX5_gate_41 : decode cX5_gate 41 = .ok (.if_icmp .lt 29, 3) := by decide +kernel
theorem dX5_gate_44 : decode cX5_gate 44 = .ok (.aload_n 0, 1) := by decide +kernel
theorem dX5_gate_45 : decode cX5_gate 45 = .ok (.getfield 28, 3) := by decide +kernel
theorem dX5_gate_48 : decode cX5_gate 48 = .ok (.iload_n 3, 1) := by decide +kernel
theorem dX5_gate_49 : decode cX5_gate 49 = .ok (.iload_n 2, 1) := by decide +kernel
theorem dX5_gate_50 : decode cX5_gate 50 = .ok (.iload_n 1, 1) := by decide +kernel
theorem dX5_gate_51 : decode cX5_gate 51 = .ok (.invokestatic 145, 3) := by decide +kernel
theorem dX5_gate_54 : decode cX5_gate 54 = .ok (.iconst 5, 1) := by decide +kernel
theorem dX5_gate_55 : decode cX5_gate 55 = .ok (.idiv, 1) := by decide +kernel
theorem dX5_gate_56 : decode cX5_gate 56 = .ok (.invokevirtual 149, 3) := by decide +kernel
theorem dX5_gate_59 : decode cX5_gate 59 = .ok (.ifCond .ne 5, 3) := by decide +kernel
theorem dX5_gate_62 : decode cX5_gate 62 = .ok (.iload_n 3, 1) := by decide +kernel
theorem dX5_gate_63 : decode cX5_gate 63 = .ok (.ireturn, 1) := by decide +kernel
theorem dX5_gate_64 : decode cX5_gate 64 = .ok (.iinc 3 (-1), 3) := by decide +kernel
theorem dX5_gate_67 : decode cX5_gate 67 = .ok (.goto (-28), 3) := by decide +kernel
theorem dX5_gate_70 : decode cX5_gate 70 = .ok (.iconst 0, 1) := by decide +kernel
theorem dX5_gate_71 : decode cX5_gate 71 = .ok (.ireturn, 1) := by decide +kernel
set_option maxRecDepth 20000 in
theorem ggX5_advise_X5_isOutside : GoodIn wsX5_advise wsX5_isOutside := goodIn_r _ [11] (by decide +kernel) (by decide +kernel)
set_option maxRecDepth 20000 in
theorem gX5_advise_X5_isOutside : GoodIn wsX5_advise (va_wsS RX5 49 yX5_isOutside wsX5_isOutside) := goodIn_app (goodIn_of _ (by decide +kernel)) ggX5_advise_X5_isOutside
set_option maxRecDepth 20000 in
theorem ggX5_advise_X0_becomeLike : GoodIn wsX5_advise wsX0_becomeLike := goodIn_r _ [16, 17, 18, 19, 20, 21, 96, 97, 98, 99, 100, 101, 102] (by decide +kernel) (by decide +kernel)
set_option maxRecDepth 20000 in
theorem gX5_advise_X0_becomeLike : GoodIn wsX5_advise (wsV RX5 199 RX0 yX0_becomeLike wsX0_becomeLike) := goodIn_app (goodIn_of _ (by decide +kernel)) ggX5_advise_X0_becomeLike
set_option maxRecDepth 20000 in
theorem ggX5_advise_X0_letHoursGoBy : GoodIn wsX5_advise wsX0_letHoursGoBy := goodIn_r _ [25, 26, 27, 28, 15, 29, 30, 31, 19, 32, 33, 34, 21, 35, 36, 37, 38, 39, 40, 41, 42, 43, 44, 45, 46, 47, 48, 49, 50, 51, 52, 53, 20, 54, 55, 56, 57, 58, 59, 60, 61, 18, 9, 10, 11, 62, 63, 64, 65, 17, 66, 67, 68, 69, 70, 71, 72, 73, 74, 75, 76, 96, 97, 98, 99, 100, 101, 102, 103, 104, 105, 93, 94, 95] (by decide +kernel) (by decide +kernel)
set_option maxRecDepth 20000 in
theorem gX5_advise_X0_letHoursGoBy : GoodIn wsX5_advise (wsV RX5 193 RX0 yX0_letHoursGoBy wsX0_letHoursGoBy) := goodIn_app (goodIn_of _ (by decide +kernel)) ggX5_advise_X0_letHoursGoBy
set_option maxRecDepth 20000 in
theorem ggX5_advise_X0_allSnow : GoodIn wsX5_advise wsX0_allSnow := goodIn_r _ [80, 17, 81, 10, 82, 96, 97, 98, 99, 100, 101, 102] (by decide +kernel) (by decide +kernel)
set_option maxRecDepth 20000 in
theorem gX5_advise_X0_allSnow : GoodIn wsX5_advise (wsV RX5 190 RX0 yX0_allSnow wsX0_allSnow) := goodIn_app (goodIn_of _ (by decide +kernel)) ggX5_advise_X0_allSnow
set_option maxRecDepth 20000 in
theorem ggX5_advise_X5_snowWithPump : GoodIn wsX5_advise wsX5_snowWithPump := goodIn_r _ [86, 3, 4, 7, 12, 13, 14, 15, 16, 17, 18, 19, 20, 21, 22, 23, 24, 25, 26, 27, 28, 29, 30, 31, 32, 33, 34, 35, 36, 37, 38, 39, 40, 41, 42, 43, 44, 45, 46, 47, 48, 49, 50, 51, 52, 53, 54, 55, 56, 57, 58, 59, 60, 61, 9, 10, 11, 62, 63, 64, 65, 66, 67, 68, 69, 70, 71, 72, 73, 74, 75, 76, 77, 78, 79, 80, 81, 82, 87, 88, 89, 90, 91, 92, 96, 97, 98, 99, 100, 101, 102, 103, 104, 105, 93, 94, 95] (by decide +kernel) (by decide +kernel)
set_option maxRecDepth 20000 in
theorem gX5_advise_X5_snowWithPump : GoodIn wsX5_advise (wsV RX5 214 RX5 yX5_snowWithPump wsX5_snowWithPump) := goodIn_app (goodIn_of _ (by decide +kernel)) ggX5_advise_X5_snowWithPump
theorem dX5_advise_0 : decode cX5_advise 0 = .ok (.iload_n 1, 1) := by decide +kernel
theorem dX5_advise_1 : decode cX5_advise 1 = .ok (.iconst 1, 1) := by decide +kernel
theorem dX5_advise_2 : decode cX5_advise 2 = .ok (.bipush 96, 2) := by decide +kernel
theorem dX5_advise_4 : decode cX5_advise 4 = .ok (.invokestatic 49, 3) := by decide +kernel
theorem dX5_advise_7 : decode cX5_advise 7 = .ok (.ifCond .eq 13, 3) := by decide +kernel
theorem dX5_advise_10 : decode cX5_advise 10 = .ok (.new 60, 3) := by decide +kernel
theorem dX5_advise_13 : decode cX5_advise 13 = .ok (.dup, 1) := by decide +kernel
theorem dX5_advise_14 : decode cX5_advise 14 = .ok (.ldc 188, 2) := by decide +kernel
theorem dX5_advise_16 : decode cX5_advise 16 = .ok (.invokespecial 64, 3) := by decide +kernel
theorem dX5_advise_19 : decode cX5_advise 19 = .ok (.athrow, 1) := by decide +kernel
theorem dX5_advise_20 : decode cX5_advise 20 = .ok (.aload_n 0, 1) := by decide +kernel
theorem dX5_advise_21 : decode cX5_advise 21 = .ok (.getfield 32, 3) := by decide +kernel
theorem dX5_advise_24 : decode cX5_advise 24 = .ok (.aload_n 0, 1) := by decide +kernel
theorem dX5_advise_25 : decode cX5_advise 25 = .ok (.getfield 28, 3) := by decide +kernel
theorem dX5_advise_28 : decode cX5_advise 28 = .ok (.invokevirtual 199, 3) := by decide +kernel
theorem dX5_advise_31 : decode cX5_advise 31 = .ok (.aload_n 0, 1) := by decide +kernel
theorem dX5_advise_32 : decode cX5_advise 32 = .ok (.getfield 32, 3) := by decide +kernel
theorem dX5_advise_35 : decode cX5_advise 35 = .ok (.iload_n 1, 1) := by decide +kernel
theorem dX5_advise_36 : decode cX5_advise 36 = .ok (.invokevirtual 193, 3) := by decide +kernel
theorem dX5_advise_39 : decode cX5_advise 39 = .ok (.aload_n 0, 1) := by decide +kernel
theorem dX5_advise_40 : decode cX5_advise 40 = .ok (.getfield 32, 3) := by decide +kernel
theorem dX5_advise_43 : decode cX5_advise 43 = .ok (.invokevirtual 190, 3) := by decide +kernel
theorem dX5_advise_46 : decode cX5_advise 46 = .ok (.istore_n 2, 1) := by decide +kernel
theorem dX5_advise_47 : decode cX5_advise 47 = .ok (.iconst (-1), 1) := by decide +kernel
theorem dX5_advise_48 : decode cX5_advise 48 = .ok (.istore_n 3, 1) := by decide +kernel
theorem dX5_advise_49 : decode cX5_advise 49 = .ok (.iconst 0, 1) := by decide +kernel
theorem dX5_advise_50 : decode cX5_advise 50 = .ok (.istore 4, 2) := by decide +kernel
theorem dX5_advise_52 : decode cX5_advise 52 = .ok (.iload 4, 2) := by decide +kernel
theorem dX5_advise_54 : decode cX5_advise 54 = .ok (.aload_n 0, 1) := by decide +kernel
theorem dX5_advise_55 : decode cX5_advise 55 = .ok (.getfield 19, 3) := by decide +kernel
theorem dX5_advise_58 : decode cX5_advise 58 = .ok (.getfield 87, 3) := by decide +kernel
theorem dX5_advise_61 : decode cX5_advise 61 = .ok (.if_icmp .ge 43, 3) := by decide +kernel
theorem dX5_advise_64 : decode cX5_advise 64 = .ok (.aload_n 0, 1) := by decide +kernel
theorem dX5_advise_65 : decode cX5_advise 65 = .ok (.getfield 28, 3) := by decide +kernel
theorem dX5_advise_68 : decode cX5_advise 68 = .ok (.getfield 102, 3) := by decide +kernel
theorem dX5_advise_71 : decode cX5_advise 71 = .ok (.iload 4, 2) := by decide +kernel
theorem dX5_advise_73 : decode cX5_advise 73 = .ok (.baload, 1) := by decide +kernel
theorem dX5_advise_74 : decode cX5_advise 74 = .ok (.ifCond .ne 24, 3) := by decide +kernel
theorem dX5_advise_77 : decode cX5_advise 77 = .ok (.aload_n 0, 1) := by decide +kernel
theorem dX5_advise_78 : decode cX5_advise 78 = .ok (.iload 4, 2) := by decide +kernel
theorem dX5_advise_80 : decode cX5_advise 80 = .ok (.iload_n 1, 1) := by decide +kernel
theorem dX5_advise_81 : decode cX5_advise 81 = .ok (.invokevirtual 214, 3) := by decide +kernel
theorem dX5_advise_84 : decode cX5_advise 84 = .ok (.istore 5, 2) := by decide +kernel
theorem dX5_advise_86 : decode cX5_advise 86 = .ok (.iload 5, 2) := by decide +kernel
theorem dX5_advise_88 : decode cX5_advise 88 = .ok (.iload_n 2, 1) := by decide +kernel
theorem dX5_advise_89 : decode cX5_advise 89 = .ok (.if_icmp .le 9, 3) := by decide +kernel
theorem dX5_advise_92 : decode cX5_advise 92 = .ok (.iload 5, 2) := by decide +kernel
theorem dX5_advise_94 : decode cX5_advise 94 = .ok (.istore_n 2, 1) := by decide +kernel
theorem dX5_advise_95 : decode cX5_advise 95 = .ok (.iload 4, 2) := by decide +kernel
theorem dX5_advise_97 : decode cX5_advise 97 = .ok (.istore_n 3, 1) := by decide +kernel
theorem dX5_advise_98 : decode cX5_advise 98 = .ok (.iinc 4 1, 3) := by decide +kernel
theorem dX5_advise_101 : decode cX5_advise 101 = .ok (.goto (-49), 3) := by decide +kernel
theorem dX5_advise_104 : decode cX5_advise 104 = .ok (.iload_n 3, 1) := by decide +kernel
theorem dX5_advise_105 : decode cX5_advise 105 = .ok (.ireturn, 1) := by decide +kernel
set_option maxRecDepth 20000 in
theorem ggX5_mean_X1_allPoints : GoodIn wsX5_mean wsX1_allPoints := goodIn_r _ [7, 8, 9, 10, 11, 18, 19, 20, 21, 22, 23] (by decide +kernel) (by decide +kernel)
set_option maxRecDepth 20000 in
theorem gX5_mean_X1_allPoints : GoodIn wsX5_mean (wsV RX5 217 RX1 yX1_allPoints wsX1_allPoints) := goodIn_app (goodIn_of _ (by decide +kernel)) ggX5_mean_X1_allPoints
theorem dX5_mean_0 : decode cX5_mean 0 = .ok (.aload_n 0, 1) := by decide +kernel
theorem dX5_mean_1 : decode cX5_mean 1 = .ok (.getfield 45, 3) := by decide +kernel
theorem dX5_mean_4 : decode cX5_mean 4 = .ok (.getfield 138, 3) := by decide +kernel
theorem dX5_mean_7 : decode cX5_mean 7 = .ok (.ifCond .ne 5, 3) := by decide +kernel
theorem dX5_mean_10 : decode cX5_mean 10 = .ok (.dconst 0, 1) := by decide +kernel
theorem dX5_mean_11 : decode cX5_mean 11 = .ok (.dreturn, 1) := by decide +kernel
theorem dX5_mean_12 : decode cX5_mean 12 = .ok (.aload_n 0, 1) := by decide +kernel
theorem dX5_mean_13 : decode cX5_mean 13 = .ok (.getfield 45, 3) := by decide +kernel
theorem dX5_mean_16 : decode cX5_mean 16 = .ok (.invokevirtual 217, 3) := by decide +kernel
theorem dX5_mean_19 : decode cX5_mean 19 = .ok (.i2d, 1) := by decide +kernel
theorem dX5_mean_20 : decode cX5_mean 20 = .ok (.aload_n 0, 1) := by decide +kernel
theorem dX5_mean_21 : decode cX5_mean 21 = .ok (.getfield 45, 3) := by decide +kernel
theorem dX5_mean_24 : decode cX5_mean 24 = .ok (.getfield 138, 3) := by decide +kernel
theorem dX5_mean_27 : decode cX5_mean 27 = .ok (.i2d, 1) := by decide +kernel
theorem dX5_mean_28 : decode cX5_mean 28 = .ok (.ddiv, 1) := by decide +kernel
theorem dX5_mean_29 : decode cX5_mean 29 = .ok (.dreturn, 1) := by decide +kernel
set_option maxRecDepth 20000 in
theorem ggX5_digest_X5_tellCount : GoodIn wsX5_digest wsX5_tellCount := goodIn_r _ [10, 11, 12, 3, 13, 14, 15, 16, 5, 17, 18, 19, 20, 21, 22, 23, 24, 25, 26, 27, 28, 29, 30, 31, 32, 33, 34, 35, 36, 37, 38, 39, 40, 41, 42, 43, 44, 45, 9, 46, 47, 48, 49, 50, 51, 52, 53, 54, 55, 56, 57, 120, 121, 122, 123, 124, 125, 126, 127, 128, 129, 130, 131, 132, 133, 134, 135, 136, 137, 138, 139, 140, 141, 142, 143, 144] (by decide +kernel) (by decide +kernel)
set_option maxRecDepth 20000 in
theorem gX5_digest_X5_tellCount : GoodIn wsX5_digest (wsV RX5 185 RX5 yX5_tellCount wsX5_tellCount) := goodIn_app (goodIn_of _ (by decide +kernel)) ggX5_digest_X5_tellCount
set_option maxRecDepth 20000 in
theorem ggX5_digest_X5_tellPart : GoodIn wsX5_digest wsX5_tellPart := goodIn_r _ [61, 11, 62, 63, 15, 64, 65, 66, 67, 68, 69, 70, 71, 72, 73, 21, 74, 44, 51, 120, 121, 122, 123, 124, 125, 126, 127, 128, 129, 130, 131, 132, 136, 137, 138] (by decide +kernel) (by decide +kernel)
set_option maxRecDepth 20000 in
theorem gX5_digest_X5_tellPart : GoodIn wsX5_digest (wsV RX5 180 RX5 yX5_tellPart wsX5_tellPart) := goodIn_app (goodIn_of _ (by decide +kernel)) ggX5_digest_X5_tellPart
set_option maxRecDepth 20000 in
theorem ggX5_digest_X4_addTo : GoodIn wsX5_digest wsX4_addTo := goodIn_r _ [78, 79, 33, 34, 80, 133, 134, 135] (by decide +kernel) (by decide +kernel)
set_option maxRecDepth 20000 in
theorem gX5_digest_X4_addTo : GoodIn wsX5_digest (wsV RX5 224 RX4 yX4_addTo wsX4_addTo) := goodIn_app (goodIn_of _ (by decide +kernel)) ggX5_digest_X4_addTo
set_option maxRecDepth 20000 in
theorem ggX5_digest_X2_addTo : GoodIn wsX5_digest wsX2_addTo := goodIn_r _ [85, 86, 87, 145] (by decide +kernel) (by decide +kernel)
set_option maxRecDepth 20000 in
theorem gX5_digest_X2_addTo : GoodIn wsX5_digest (wsV RX5 228 RX2 yX2_addTo wsX2_addTo) := goodIn_app (goodIn_of _ (by decide +kernel)) ggX5_digest_X2_addTo
set_option maxRecDepth 20000 in
theorem ggX5_digest_X5_addPumpsTo : GoodIn wsX5_digest wsX5_addPumpsTo := goodIn_r _ [91, 15, 16, 2, 92, 93, 11, 94, 120, 121, 122, 123, 124, 125, 136, 137, 138, 126, 127, 128, 129, 130, 131, 132] (by decide +kernel) (by decide +kernel)
set_option maxRecDepth 20000 in
theorem gX5_digest_X5_addPumpsTo : GoodIn wsX5_digest (wsV RX5 229 RX5 yX5_addPumpsTo wsX5_addPumpsTo) := goodIn_app (goodIn_of _ (by decide +kernel)) ggX5_digest_X5_addPumpsTo
set_option maxRecDepth 20000 in
theorem ggX5_digest_X1_addTo : GoodIn wsX5_digest wsX1_addTo := goodIn_r _ [98, 99, 100, 101, 102, 103, 55, 104, 105, 106, 107, 57, 108, 139, 140, 141, 142, 143, 144] (by decide +kernel) (by decide +kernel)
set_option maxRecDepth 20000 in
theorem gX5_digest_X1_addTo : GoodIn wsX5_digest (wsV RX5 232 RX1 yX1_addTo wsX1_addTo) := goodIn_app (goodIn_of _ (by decide +kernel)) ggX5_digest_X1_addTo
set_option maxRecDepth 20000 in
theorem ggX5_digest_X1_bestTwo : GoodIn wsX5_digest wsX1_bestTwo := goodIn_r _ [112, 99, 105, 107, 113, 114, 115, 116, 117, 118, 119, 139, 140, 141, 142, 143, 144] (by decide +kernel) (by decide +kernel)
set_option maxRecDepth 20000 in
theorem gX5_digest_X1_bestTwo : GoodIn wsX5_digest (wsV RX5 175 RX1 yX1_bestTwo wsX1_bestTwo) := goodIn_app (goodIn_of _ (by decide +kernel)) ggX5_digest_X1_bestTwo
end
section
theorem dX5_digest_0 : decode cX5_digest 0 = .ok (.ldc2_w 220, 3) := by decide +kernel
theorem dX5_digest_3 : decode cX5_digest 3 = .ok (.lstore_n 1, 1) := by decide +kernel
theorem dX5_digest_4 : decode cX5_digest 4 = .ok (.iconst 0, 1) := by decide +kernel
theorem dX5_digest_5 : decode cX5_digest 5 = .ok (.istore_n 3, 1) := by decide +kernel
theorem dX5_digest_6 : decode cX5_digest 6 = .ok (.iload_n 3, 1) := by decide +kernel
theorem dX5_digest_7 : decode cX5_digest 7 = .ok (.bipush 11, 2) := by decide +kernel
theorem dX5_digest_9 : decode cX5_digest 9 = .ok (.if_icmp .ge 22, 3) := by decide +kernel
theorem dX5_digest_12 : decode cX5_digest 12 = .ok (.lload_n 1, 1) := by decide +kernel
theorem dX5_digest_13 : decode cX5_digest 13 = .ok (.ldc2_w 222, 3) := by decide +kernel
theorem dX5_digest_16 : decode cX5_digest 16 = .ok (.lmul, 1) := by decide +kernel
theorem dX5_digest_17 : decode cX5_digest 17 = .ok (.aload_n 0, 1) := by decide +kernel
theorem dX5_digest_18 : decode cX5_digest 18 = .ok (.iload_n 3, 1) := by decide +kernel
theorem dX5_digest_19 : decode cX5_digest 19 = .ok (.invokevirtual 185, 3) := by decide +kernel
theorem dX5_digest_22 : decode cX5_digest 22 = .ok (.i2l, 1) := by decide +kernel
theorem dX5_digest_23 : decode cX5_digest 23 = .ok (.ladd, 1) := by decide +kernel
theorem dX5_digest_24 : decode cX5_digest 24 = .ok (.lstore_n 1, 1) := by decide +kernel
theorem dX5_digest_25 : decode cX5_digest 25 = .ok (.iinc 3 1, 3) := by decide +kernel
theorem dX5_digest_28 : decode cX5_digest 28 = .ok (.goto (-22), 3) := by decide +kernel
theorem dX5_digest_31 : decode cX5_digest 31 = .ok (.iconst 0, 1) := by decide +kernel
theorem dX5_digest_32 : decode cX5_digest 32 = .ok (.istore_n 3, 1) := by decide +kernel
theorem dX5_digest_33 : decode cX5_digest 33 = .ok (.iload_n 3, 1) := by decide +kernel
theorem dX5_digest_34 : decode cX5_digest 34 = .ok (.bipush 20, 2) := by decide +kernel
theorem dX5_digest_36 : decode cX5_digest 36 = .ok (.if_icmp .ge 39, 3) := by decide +kernel
theorem dX5_digest_39 : decode cX5_digest 39 = .ok (.iconst 0, 1) := by decide +kernel
theorem dX5_digest_40 : decode cX5_digest 40 = .ok (.istore 4, 2) := by decide +kernel
theorem dX5_digest_42 : decode cX5_digest 42 = .ok (.iload 4, 2) := by decide +kernel
theorem dX5_digest_44 : decode cX5_digest 44 = .ok (.iconst 4, 1) := by decide +kernel
theorem dX5_digest_45 : decode cX5_digest 45 = .ok (.if_icmp .ge 24, 3) := by decide +kernel
theorem dX5_digest_48 : decode cX5_digest 48 = .ok (.lload_n 1, 1) := by decide +kernel
theorem dX5_digest_49 : decode cX5_digest 49 = .ok (.ldc2_w 222, 3) := by decide +kernel
theorem dX5_digest_52 : decode cX5_digest 52 = .ok (.lmul, 1) := by decide +kernel
theorem dX5_digest_53 : decode cX5_digest 53 = .ok (.aload_n 0, 1) := by decide +kernel
theorem dX5_digest_54 : decode cX5_digest 54 = .ok (.iload_n 3, 1) := by decide +kernel
theorem dX5_digest_55 : decode cX5_digest 55 = .ok (.iload 4, 2) := by decide +kernel
theorem dX5_digest_57 : decode cX5_digest 57 = .ok (.invokevirtual 180, 3) := by decide +kernel
theorem dX5_digest_60 : decode cX5_digest 60 = .ok (.i2l, 1) := by decide +kernel
theorem dX5_digest_61 : decode cX5_digest 61 = .ok (.ladd, 1) := by decide +kernel
theorem dX5_digest_62 : decode cX5_digest 62 = .ok (.lstore_n 1, 1) := by decide +kernel
theorem dX5_digest_63 : decode cX5_digest 63 = .ok (.iinc 4 1, 3) := by decide +kernel
theorem dX5_digest_66 : decode cX5_digest 66 = .ok (.goto (-24), 3) := by decide +kernel
theorem dX5_digest_69 : decode cX5_digest 69 = .ok (.iinc 3 1, 3) := by decide +kernel
theorem dX5_digest_72 : decode cX5_digest 72 = .ok (.goto (-39), 3) := by decide +kernel
theorem dX5_digest_75 : decode cX5_digest 75 = .ok (.aload_n 0, 1) := by decide +kernel
theorem dX5_digest_76 : decode cX5_digest 76 = .ok (.getfield 10, 3) := by decide +kernel
theorem dX5_digest_79 : decode cX5_digest 79 = .ok (.lload_n 1, 1) := by decide +kernel
theorem dX5_digest_80 : decode cX5_digest 80 = .ok (.invokevirtual 224, 3) := by decide +kernel
theorem dX5_digest_83 : decode cX5_digest 83 = .ok (.lstore_n 1, 1) := by decide +kernel
theorem dX5_digest_84 : decode cX5_digest 84 = .ok (.aload_n 0, 1) := by decide +kernel
theorem dX5_digest_85 : decode cX5_digest 85 = .ok (.getfield 38, 3) := by decide +kernel
theorem dX5_digest_88 : decode cX5_digest 88 = .ok (.lload_n 1, 1) := by decide +kernel
theorem dX5_digest_89 : decode cX5_digest 89 = .ok (.invokevirtual 228, 3) := by decide +kernel
theorem dX5_digest_92 : decode cX5_digest 92 = .ok (.lstore_n 1, 1) := by decide +kernel
theorem dX5_digest_93 : decode cX5_digest 93 = .ok (.aload_n 0, 1) := by decide +kernel
theorem dX5_digest_94 : decode cX5_digest 94 = .ok (.lload_n 1, 1) := by decide +kernel
theorem dX5_digest_95 : decode cX5_digest 95 = .ok (.invokevirtual 229, 3) := by decide +kernel
theorem dX5_digest_98 : decode cX5_digest 98 = .ok (.lstore_n 1, 1) := by decide +kernel
theorem dX5_digest_99 : decode cX5_digest 99 = .ok (.aload_n 0, 1) := by decide +kernel
theorem dX5_digest_100 : decode cX5_digest 100 = .ok (.getfield 45, 3) := by decide +kernel
theorem dX5_digest_103 : decode cX5_digest 103 = .ok (.lload_n 1, 1) := by decide +kernel
theorem dX5_digest_104 : decode cX5_digest 104 = .ok (.invokevirtual 232, 3) := by decide +kernel
theorem dX5_digest_107 : decode cX5_digest 107 = .ok (.lstore_n 1, 1) := by decide +kernel
theorem dX5_digest_108 : decode cX5_digest 108 = .ok (.iconst 0, 1) := by decide +kernel
theorem dX5_digest_109 : decode cX5_digest 109 = .ok (.istore_n 3, 1) := by decide +kernel
theorem dX5_digest_110 : decode cX5_digest 110 = .ok (.iload_n 3, 1) := by decide +kernel
theorem dX5_digest_111 : decode cX5_digest 111 = .ok (.bipush 10, 2) := by decide +kernel
theorem dX5_digest_113 : decode cX5_digest 113 = .ok (.if_icmp .ge 25, 3) := by decide +kernel
theorem dX5_digest_116 : decode cX5_digest 116 = .ok (.lload_n 1, 1) := by decide +kernel
theorem dX5_digest_117 : decode cX5_digest 117 = .ok (.ldc2_w 222, 3) := by decide +kernel
theorem dX5_digest_120 : decode cX5_digest 120 = .ok (.lmul, 1) := by decide +kernel
theorem dX5_digest_121 : decode cX5_digest 121 = .ok (.aload_n 0, 1) := by decide +kernel
theorem dX5_digest_122 : decode cX5_digest 122 = .ok (.getfield 45, 3) := by decide +kernel
theorem dX5_digest_125 : decode cX5_digest 125 = .ok (.iload_n 3, 1) := by decide +kernel
theorem dX5_digest_126 : decode cX5_digest 126 = .ok (.invokevirtual 175, 3) := by decide +kernel
theorem dX5_digest_129 : decode cX5_digest 129 = .ok (.i2l, 1) := by decide +kernel
theorem dX5_digest_130 : decode cX5_digest 130 = .ok (.ladd, 1) := by decide +kernel
theorem dX5_digest_131 : decode cX5_digest 131 = .ok (.lstore_n 1, 1) := by decide +kernel
theorem dX5_digest_132 : decode cX5_digest 132 = .ok (.iinc 3 1, 3) := by decide +kernel
theorem dX5_digest_135 : decode cX5_digest 135 = .ok (.goto (-25), 3) := by decide +kernel
theorem dX5_digest_138 : decode cX5_digest 138 = .ok (.lload_n 1, 1) := by decide +kernel
theorem dX5_digest_139 : decode cX5_digest 139 = .ok (.lreturn, 1) := by decide +kernel
theorem dX5_addPumpsTo_0 : decode cX5_addPumpsTo 0 = .ok (.lload_n 1, 1) := by decide +kernel
theorem dX5_addPumpsTo_1 : decode cX5_addPumpsTo 1 = .ok (.lstore_n 3, 1) := by decide +kernel
theorem dX5_addPumpsTo_2 : decode cX5_addPumpsTo 2 = .ok (.iconst 0, 1) := by decide +kernel
theorem dX5_addPumpsTo_3 : decode cX5_addPumpsTo 3 = .ok (.istore 5, 2) := by decide +kernel
theorem dX5_addPumpsTo_5 : decode cX5_addPumpsTo 5 = .ok (.iload 5, 2) := by decide +kernel
theorem dX5_addPumpsTo_7 : decode cX5_addPumpsTo 7 = .ok (.aload_n 0, 1) := by decide +kernel
theorem dX5_addPumpsTo_8 : decode cX5_addPumpsTo 8 = .ok (.getfield 19, 3) := by decide +kernel
theorem dX5_addPumpsTo_11 : decode cX5_addPumpsTo 11 = .ok (.getfield 87, 3) := by decide +kernel
theorem dX5_addPumpsTo_14 : decode cX5_addPumpsTo 14 = .ok (.if_icmp .ge 71, 3) := by decide +kernel
theorem dX5_addPumpsTo_17 : decode cX5_addPumpsTo 17 = .ok (.lload_n 3, 1) := by decide +kernel
theorem dX5_addPumpsTo_18 : decode cX5_addPumpsTo 18 = .ok (.ldc2_w 222, 3) := by decide +kernel
theorem dX5_addPumpsTo_21 : decode cX5_addPumpsTo 21 = .ok (.lmul, 1) := by decide +kernel
theorem dX5_addPumpsTo_22 : decode cX5_addPumpsTo 22 = .ok (.aload_n 0, 1) := by decide +kernel
theorem dX5_addPumpsTo_23 : decode cX5_addPumpsTo 23 = .ok (.getfield 19, 3) := by decide +kernel
theorem dX5_addPumpsTo_26 : decode cX5_addPumpsTo 26 = .ok (.getfield 233, 3) := by decide +kernel
theorem dX5_addPumpsTo_29 : decode cX5_addPumpsTo 29 = .ok (.iload 5, 2) := by decide +kernel
theorem dX5_addPumpsTo_31 : decode cX5_addPumpsTo 31 = .ok (.iaload, 1) := by decide +kernel
theorem dX5_addPumpsTo_32 : decode cX5_addPumpsTo 32 = .ok (.i2l, 1) := by decide +kernel
theorem dX5_addPumpsTo_33 : decode cX5_addPumpsTo 33 = .ok (.ladd, 1) := by decide +kernel
theorem dX5_addPumpsTo_34 : decode cX5_addPumpsTo 34 = .ok (.lstore_n 3, 1) := by decide +kernel
theorem dX5_addPumpsTo_35 : decode cX5_addPumpsTo 35 = .ok (.lload_n 3, 1) := by decide +kernel
theorem dX5_addPumpsTo_36 : decode cX5_addPumpsTo 36 = .ok (.ldc2_w 222, 3) := by decide +kernel
theorem dX5_addPumpsTo_39 : decode cX5_addPumpsTo 39 = .ok (.lmul, 1) := by decide +kernel
theorem dX5_addPumpsTo_40 : decode cX5_addPumpsTo 40 = .ok (.aload_n 0, 1) := by decide +kernel
theorem dX5_addPumpsTo_41 : decode cX5_addPumpsTo 41 = .ok (.getfield 19, 3) := by decide +kernel
theorem dX5_addPumpsTo_44 : decode cX5_addPumpsTo 44 = .ok (.getfield 236, 3) := by decide +kernel
theorem dX5_addPumpsTo_47 : decode cX5_addPumpsTo 47 = .ok (.iload 5, 2) := by decide +kernel
theorem dX5_addPumpsTo_49 : decode cX5_addPumpsTo 49 = .ok (.iaload, 1) := by decide +kernel
theorem dX5_addPumpsTo_50 : decode cX5_addPumpsTo 50 = .ok (.i2l, 1) := by decide +kernel
theorem dX5_addPumpsTo_51 : decode cX5_addPumpsTo 51 = .ok (.ladd, 1) := by decide +kernel
theorem dX5_addPumpsTo_52 : decode cX5_addPumpsTo 52 = .ok (.lstore_n 3, 1) := by decide +kernel
theorem dX5_addPumpsTo_53 : decode cX5_addPumpsTo 53 = .ok (.lload_n 3, 1) := by decide +kernel
theorem dX5_addPumpsTo_54 : decode cX5_addPumpsTo 54 = .ok (.ldc2_w 222, 3) := by decide +kernel
theorem dX5_addPumpsTo_57 : decode cX5_addPumpsTo 57 = .ok (.lmul, 1) := by decide +kernel
theorem dX5_addPumpsTo_58 : decode cX5_addPumpsTo 58 = .ok (.aload_n 0, 1) := by decide +kernel
theorem dX5_addPumpsTo_59 : decode cX5_addPumpsTo 59 = .ok (.getfield 28, 3) := by decide +kernel
theorem dX5_addPumpsTo_62 : decode cX5_addPumpsTo 62 = .ok (.getfield 102, 3) := by decide +kernel
theorem dX5_addPumpsTo_65 : decode cX5_addPumpsTo 65 = .ok (.iload 5, 2) := by decide +kernel
theorem dX5_addPumpsTo_67 : decode cX5_addPumpsTo 67 = .ok (.baload, 1) := by decide +kernel
theorem dX5_addPumpsTo_68 : decode cX5_addPumpsTo 68 = .ok (.ifCond .eq 7, 3) := by decide +kernel
theorem dX5_addPumpsTo_71 : decode cX5_addPumpsTo 71 = .ok (.iconst 1, 1) := by decide +kernel
theorem dX5_addPumpsTo_72 : decode cX5_addPumpsTo 72 = .ok (.goto 4, 3) := by decide +kernel
theorem dX5_addPumpsTo_75 : decode cX5_addPumpsTo 75 = .ok (.iconst 0, 1) := by decide +kernel
theorem dX5_addPumpsTo_76 : decode cX5_addPumpsTo 76 = .ok (.i2l, 1) := by decide +kernel
theorem dX5_addPumpsTo_77 : decode cX5_addPumpsTo 77 = .ok (.ladd, 1) := by decide +kernel
theorem dX5_addPumpsTo_78 : decode cX5_addPumpsTo 78 = .ok (.lstore_n 3, 1) := by decide +kernel
theorem dX5_addPumpsTo_79 : decode cX5_addPumpsTo 79 = .ok (.iinc 5 1, 3) := by decide +kernel
theorem dX5_addPumpsTo_82 : decode cX5_addPumpsTo 82 = .ok (.goto (-77), 3) := by decide +kernel
theorem dX5_addPumpsTo_85 : decode cX5_addPumpsTo 85 = .ok (.lload_n 3, 1) := by decide +kernel
theorem dX5_addPumpsTo_86 : decode cX5_addPumpsTo 86 = .ok (.lreturn, 1) := by decide +kernel
set_option maxRecDepth 20000 in
theorem ggX5_tellPart_X3_countAt : GoodIn wsX5_tellPart wsX3_countAt := goodIn_r _ [9, 10, 11, 32, 33, 34] (by decide +kernel) (by decide +kernel)
set_option maxRecDepth 20000 in
theorem gX5_tellPart_X3_countAt : GoodIn wsX5_tellPart (wsV RX5 242 RX3 yX3_countAt wsX3_countAt) := goodIn_app (goodIn_of _ (by decide +kernel)) ggX5_tellPart_X3_countAt
set_option maxRecDepth 20000 in
theorem ggX5_tellPart_X0_fallsAt : GoodIn wsX5_tellPart wsX0_fallsAt := goodIn_r _ [16, 17, 18, 25, 26, 27, 28, 29, 30, 31] (by decide +kernel) (by decide +kernel)
set_option maxRecDepth 20000 in
theorem gX5_tellPart_X0_fallsAt : GoodIn wsX5_tellPart (wsV RX5 149 RX0 yX0_fallsAt wsX0_fallsAt) := goodIn_app (goodIn_of _ (by decide +kernel)) ggX5_tellPart_X0_fallsAt
theorem dX5_tellPart_0 : decode cX5_tellPart 0 = .ok (.iload_n 2, 1) := by decide +kernel
theorem dX5_tellPart_1 : decode cX5_tellPart 1 = .ok (.tableswitch 56 0 2 #[27, 37, 47], 27) := by decide +kernel
theorem dX5_tellPart_28 : decode cX5_tellPart 28 = .ok (.aload_n 0, 1) := by decide +kernel
theorem dX5_tellPart_29 : decode cX5_tellPart 29 = .ok (.getfield 28, 3) := by decide +kernel
theorem dX5_tellPart_32 : decode cX5_tellPart 32 = .ok (.getfield 203, 3) := by decide +kernel
theorem dX5_tellPart_35 : decode cX5_tellPart 35 = .ok (.iload_n 1, 1) := by decide +kernel
theorem dX5_tellPart_36 : decode cX5_tellPart 36 = .ok (.iaload, 1) := by decide +kernel
theorem dX5_tellPart_37 : decode cX5_tellPart 37 = .ok (.ireturn, 1) := by decide +kernel
theorem dX5_tellPart_38 : decode cX5_tellPart 38 = .ok (.aload_n 0, 1) := by decide +kernel
theorem dX5_tellPart_39 : decode cX5_tellPart 39 = .ok (.getfield 28, 3) := by decide +kernel
theorem dX5_tellPart_42 : decode cX5_tellPart 42 = .ok (.getfield 239, 3) := by decide +kernel
theorem dX5_tellPart_45 : decode cX5_tellPart 45 = .ok (.iload_n 1, 1) := by decide +kernel
theorem dX5_tellPart_46 : decode cX5_tellPart 46 = .ok (.iaload, 1) := by decide +kernel
theorem dX5_tellPart_47 : decode cX5_tellPart 47 = .ok (.ireturn, 1) := by decide +kernel
theorem dX5_tellPart_48 : decode cX5_tellPart 48 = .ok (.aload_n 0, 1) := by decide +kernel
theorem dX5_tellPart_49 : decode cX5_tellPart 49 = .ok (.getfield 19, 3) := by decide +kernel
theorem dX5_tellPart_52 : decode cX5_tellPart 52 = .ok (.iload_n 1, 1) := by decide +kernel
theorem dX5_tellPart_53 : decode cX5_tellPart 53 = .ok (.invokevirtual 242, 3) := by decide +kernel
theorem dX5_tellPart_56 : decode cX5_tellPart 56 = .ok (.ireturn, 1) := by decide +kernel
theorem dX5_tellPart_57 : decode cX5_tellPart 57 = .ok (.aload_n 0, 1) := by decide +kernel
theorem dX5_tellPart_58 : decode cX5_tellPart 58 = .ok (.getfield 28, 3) := by decide +kernel
theorem dX5_tellPart_61 : decode cX5_tellPart 61 = .ok (.iload_n 1, 1) := by decide +kernel
theorem dX5_tellPart_62 : decode cX5_tellPart 62 = .ok (.invokevirtual 149, 3) := by decide +kernel
theorem dX5_tellPart_65 : decode cX5_tellPart 65 = .ok (.ifCond .eq 7, 3) := by decide +kernel
theorem dX5_tellPart_68 : decode cX5_tellPart 68 = .ok (.iconst 1, 1) := by decide +kernel
theorem dX5_tellPart_69 : decode cX5_tellPart 69 = .ok (.goto 4, 3) := by decide +kernel
theorem dX5_tellPart_72 : decode cX5_tellPart 72 = .ok (.iconst 0, 1) := by decide +kernel
theorem dX5_tellPart_73 : decode cX5_tellPart 73 = .ok (.ireturn, 1) := by decide +kernel
set_option maxRecDepth 20000 in
theorem ggX5_tellCount_X0_hourOfDay : GoodIn wsX5_tellCount wsX0_hourOfDay := goodIn_r _ [14, 15, 16, 17, 18, 19, 57, 58, 59, 60, 61, 62, 63] (by decide +kernel) (by decide +kernel)
set_option maxRecDepth 20000 in
theorem gX5_tellCount_X0_hourOfDay : GoodIn wsX5_tellCount (wsV RX5 141 RX0 yX0_hourOfDay wsX0_hourOfDay) := goodIn_app (goodIn_of _ (by decide +kernel)) ggX5_tellCount_X0_hourOfDay
set_option maxRecDepth 20000 in
theorem ggX5_tellCount_X4_wetCold : GoodIn wsX5_tellCount wsX4_wetCold := goodIn_r _ [24, 25, 26, 64, 65, 66] (by decide +kernel) (by decide +kernel)
set_option maxRecDepth 20000 in
theorem gX5_tellCount_X4_wetCold : GoodIn wsX5_tellCount (wsV RX5 79 RX4 yX4_wetCold wsX4_wetCold) := goodIn_app (goodIn_of _ (by decide +kernel)) ggX5_tellCount_X4_wetCold
set_option maxRecDepth 20000 in
theorem ggX5_tellCount_X0_countRunning : GoodIn wsX5_tellCount wsX0_countRunning := goodIn_r _ [30, 31, 57, 58, 59, 60, 61, 62, 63] (by decide +kernel) (by decide +kernel)
set_option maxRecDepth 20000 in
theorem gX5_tellCount_X0_countRunning : GoodIn wsX5_tellCount (wsV RX5 245 RX0 yX0_countRunning wsX0_countRunning) := goodIn_app (goodIn_of _ (by decide +kernel)) ggX5_tellCount_X0_countRunning
set_option maxRecDepth 20000 in
theorem ggX5_tellCount_X0_allSnow : GoodIn wsX5_tellCount wsX0_allSnow := goodIn_r _ [35, 36, 37, 38, 39, 57, 58, 59, 60, 61, 62, 63] (by decide +kernel) (by decide +kernel)
set_option maxRecDepth 20000 in
theorem gX5_tellCount_X0_allSnow : GoodIn wsX5_tellCount (wsV RX5 190 RX0 yX0_allSnow wsX0_allSnow) := goodIn_app (goodIn_of _ (by decide +kernel)) ggX5_tellCount_X0_allSnow
set_option maxRecDepth 20000 in
theorem ggX5_tellCount_X0_allIce : GoodIn wsX5_tellCount wsX0_allIce := goodIn_r _ [43, 44, 37, 38, 39, 57, 58, 59, 60, 61, 62, 63] (by decide +kernel) (by decide +kernel)
set_option maxRecDepth 20000 in
theorem gX5_tellCount_X0_allIce : GoodIn wsX5_tellCount (wsV RX5 211 RX0 yX0_allIce wsX0_allIce) := goodIn_app (goodIn_of _ (by decide +kernel)) ggX5_tellCount_X0_allIce
set_option maxRecDepth 20000 in
theorem ggX5_tellCount_X1_countFalls : GoodIn wsX5_tellCount wsX1_countFalls := goodIn_r _ [49, 50, 37, 38, 39, 70, 71, 72, 73, 74, 75] (by decide +kernel) (by decide +kernel)
set_option maxRecDepth 20000 in
theorem gX5_tellCount_X1_countFalls : GoodIn wsX5_tellCount (wsV RX5 248 RX1 yX1_countFalls wsX1_countFalls) := goodIn_app (goodIn_of _ (by decide +kernel)) ggX5_tellCount_X1_countFalls
theorem dX5_tellCount_0 : decode cX5_tellCount 0 = .ok (.iload_n 1, 1) := by decide +kernel
theorem dX5_tellCount_1 : decode cX5_tellCount 1 = .ok (.tableswitch 150 0 9 #[55, 63, 71, 86, 102, 110, 118, 126, 134, 142], 55) := by decide +kernel
theorem dX5_tellCount_56 : decode cX5_tellCount 56 = .ok (.aload_n 0, 1) := by decide +kernel
theorem dX5_tellCount_57 : decode cX5_tellCount 57 = .ok (.getfield 28, 3) := by decide +kernel
theorem dX5_tellCount_60 : decode cX5_tellCount 60 = .ok (.getfield 161, 3) := by decide +kernel
theorem dX5_tellCount_63 : decode cX5_tellCount 63 = .ok (.ireturn, 1) := by decide +kernel
theorem dX5_tellCount_64 : decode cX5_tellCount 64 = .ok (.aload_n 0, 1) := by decide +kernel
theorem dX5_tellCount_65 : decode cX5_tellCount 65 = .ok (.getfield 28, 3) := by decide +kernel
theorem dX5_tellCount_68 : decode cX5_tellCount 68 = .ok (.invokevirtual 141, 3) := by decide +kernel
theorem dX5_tellCount_71 : decode cX5_tellCount 71 = .ok (.ireturn, 1) := by decide +kernel
theorem dX5_tellCount_72 : decode cX5_tellCount 72 = .ok (.aload_n 0, 1) := by decide +kernel
theorem dX5_tellCount_73 : decode cX5_tellCount 73 = .ok (.getfield 10, 3) := by decide +kernel
theorem dX5_tellCount_76 : decode cX5_tellCount 76 = .ok (.aload_n 0, 1) := by decide +kernel
theorem dX5_tellCount_77 : decode cX5_tellCount 77 = .ok (.getfield 28, 3) := by decide +kernel
theorem dX5_tellCount_80 : decode cX5_tellCount 80 = .ok (.invokevirtual 141, 3) := by decide +kernel
theorem dX5_tellCount_83 : decode cX5_tellCount 83 = .ok (.invokevirtual 79, 3) := by decide +kernel
theorem dX5_tellCount_86 : decode cX5_tellCount 86 = .ok (.ireturn, 1) := by decide +kernel
theorem dX5_tellCount_87 : decode cX5_tellCount 87 = .ok (.aload_n 0, 1) := by decide +kernel
theorem dX5_tellCount_88 : decode cX5_tellCount 88 = .ok (.getfield 10, 3) := by decide +kernel
theorem dX5_tellCount_91 : decode cX5_tellCount 91 = .ok (.getfield 76, 3) := by decide +kernel
theorem dX5_tellCount_94 : decode cX5_tellCount 94 = .ok (.aload_n 0, 1) := by decide +kernel
theorem dX5_tellCount_95 : decode cX5_tellCount 95 = .ok (.getfield 28, 3) := by decide +kernel
theorem dX5_tellCount_98 : decode cX5_tellCount 98 = .ok (.invokevirtual 141, 3) := by decide +kernel
theorem dX5_tellCount_101 : decode cX5_tellCount 101 = .ok (.iaload, 1) := by decide +kernel
theorem dX5_tellCount_102 : decode cX5_tellCount 102 = .ok (.ireturn, 1) := by decide +kernel
theorem dX5_tellCount_103 : decode cX5_tellCount 103 = .ok (.aload_n 0, 1) := by decide +kernel
theorem dX5_tellCount_104 : decode cX5_tellCount 104 = .ok (.getfield 28, 3) := by decide +kernel
theorem dX5_tellCount_107 : decode cX5_tellCount 107 = .ok (.getfield 108, 3) := by decide +kernel
theorem dX5_tellCount_110 : decode cX5_tellCount 110 = .ok (.ireturn, 1) := by decide +kernel
theorem dX5_tellCount_111 : decode cX5_tellCount 111 = .ok (.aload_n 0, 1) := by decide +kernel
theorem dX5_tellCount_112 : decode cX5_tellCount 112 = .ok (.getfield 19, 3) := by decide +kernel
theorem dX5_tellCount_115 : decode cX5_tellCount 115 = .ok (.getfield 87, 3) := by decide +kernel
theorem dX5_tellCount_118 : decode cX5_tellCount 118 = .ok (.ireturn, 1) := by decide +kernel
theorem dX5_tellCount_119 : decode cX5_tellCount 119 = .ok (.aload_n 0, 1) := by decide +kernel
theorem dX5_tellCount_120 : decode cX5_tellCount 120 = .ok (.getfield 28, 3) := by decide +kernel
theorem dX5_tellCount_123 : decode cX5_tellCount 123 = .ok (.invokevirtual 245, 3) := by decide +kernel
theorem dX5_tellCount_126 : decode cX5_tellCount 126 = .ok (.ireturn, 1) := by decide +kernel
theorem dX5_tellCount_127 : decode cX5_tellCount 127 = .ok (.aload_n 0, 1) := by decide +kernel
theorem dX5_tellCount_128 : decode cX5_tellCount 128 = .ok (.getfield 28, 3) := by decide +kernel
theorem dX5_tellCount_131 : decode cX5_tellCount 131 = .ok (.invokevirtual 190, 3) := by decide +kernel
theorem dX5_tellCount_134 : decode cX5_tellCount 134 = .ok (.ireturn, 1) := by decide +kernel
theorem dX5_tellCount_135 : decode cX5_tellCount 135 = .ok (.aload_n 0, 1) := by decide +kernel
theorem dX5_tellCount_136 : decode cX5_tellCount 136 = .ok (.getfield 28, 3) := by decide +kernel
theorem dX5_tellCount_139 : decode cX5_tellCount 139 = .ok (.invokevirtual 211, 3) := by decide +kernel
theorem dX5_tellCount_142 : decode cX5_tellCount 142 = .ok (.ireturn, 1) := by decide +kernel
theorem dX5_tellCount_143 : decode cX5_tellCount 143 = .ok (.aload_n 0, 1) := by decide +kernel
theorem dX5_tellCount_144 : decode cX5_tellCount 144 = .ok (.getfield 45, 3) := by decide +kernel
theorem dX5_tellCount_147 : decode cX5_tellCount 147 = .ok (.getfield 138, 3) := by decide +kernel
theorem dX5_tellCount_150 : decode cX5_tellCount 150 = .ok (.ireturn, 1) := by decide +kernel
theorem dX5_tellCount_151 : decode cX5_tellCount 151 = .ok (.aload_n 0, 1) := by decide +kernel
theorem dX5_tellCount_152 : decode cX5_tellCount 152 = .ok (.getfield 45, 3) := by decide +kernel
theorem dX5_tellCount_155 : decode cX5_tellCount 155 = .ok (.invokevirtual 248, 3) := by decide +kernel
theorem dX5_tellCount_158 : decode cX5_tellCount 158 = .ok (.ireturn, 1) := by decide +kernel
set_option maxRecDepth 20000 in
theorem ggX5_snowWithPump_X0_becomeLike : GoodIn wsX5_snowWithPump wsX0_becomeLike := goodIn_r _ [8, 9, 10, 11, 12, 13, 84, 85, 86, 87, 88, 89, 90] (by decide +kernel) (by decide +kernel)
set_option maxRecDepth 20000 in
theorem gX5_snowWithPump_X0_becomeLike : GoodIn wsX5_snowWithPump (wsV RX5 199 RX0 yX0_becomeLike wsX0_becomeLike) := goodIn_app (goodIn_of _ (by decide +kernel)) ggX5_snowWithPump_X0_becomeLike
set_option maxRecDepth 20000 in
theorem ggX5_snowWithPump_X0_letHoursGoBy : GoodIn wsX5_snowWithPump wsX0_letHoursGoBy := goodIn_r _ [17, 18, 19, 20, 7, 21, 22, 23, 11, 24, 25, 26, 13, 27, 28, 29, 30, 31, 32, 33, 34, 35, 36, 37, 38, 39, 40, 41, 42, 43, 44, 45, 12, 46, 47, 48, 49, 50, 51, 52, 53, 10, 54, 55, 56, 57, 58, 59, 60, 9, 61, 62, 63, 64, 65, 66, 67, 68, 69, 70, 71, 84, 85, 86, 87, 88, 89, 90, 91, 92, 93, 94, 95, 96] (by decide +kernel) (by decide +kernel)
set_option maxRecDepth 20000 in
theorem gX5_snowWithPump_X0_letHoursGoBy : GoodIn wsX5_snowWithPump (wsV RX5 193 RX0 yX0_letHoursGoBy wsX0_letHoursGoBy) := goodIn_app (goodIn_of _ (by decide +kernel)) ggX5_snowWithPump_X0_letHoursGoBy
set_option maxRecDepth 20000 in
theorem ggX5_snowWithPump_X0_allSnow : GoodIn wsX5_snowWithPump wsX0_allSnow := goodIn_r _ [75, 9, 76, 55, 77, 84, 85, 86, 87, 88, 89, 90] (by decide +kernel) (by decide +kernel)
set_option maxRecDepth 20000 in
theorem gX5_snowWithPump_X0_allSnow : GoodIn wsX5_snowWithPump (wsV RX5 190 RX0 yX0_allSnow wsX0_allSnow) := goodIn_app (goodIn_of _ (by decide +kernel)) ggX5_snowWithPump_X0_allSnow
theorem dX5_snowWithPump_0 : decode cX5_snowWithPump 0 = .ok (.aload_n 0, 1) := by decide +kernel
theorem dX5_snowWithPump_1 : decode cX5_snowWithPump 1 = .ok (.getfield 32, 3) := by decide +kernel
theorem dX5_snowWithPump_4 : decode cX5_snowWithPump 4 = .ok (.aload_n 0, 1) := by decide +kernel
theorem dX5_snowWithPump_5 : decode cX5_snowWithPump 5 = .ok (.getfield 28, 3) := by decide +kernel
theorem dX5_snowWithPump_8 : decode cX5_snowWithPump 8 = .ok (.invokevirtual 199, 3) := by decide +kernel
theorem dX5_snowWithPump_11 : decode cX5_snowWithPump 11 = .ok (.aload_n 0, 1) := by decide +kernel
theorem dX5_snowWithPump_12 : decode cX5_snowWithPump 12 = .ok (.getfield 32, 3) := by decide +kernel
theorem dX5_snowWithPump_15 : decode cX5_snowWithPump 15 = .ok (.getfield 102, 3) := by decide +kernel
theorem dX5_snowWithPump_18 : decode cX5_snowWithPump 18 = .ok (.iload_n 1, 1) := by decide +kernel
theorem dX5_snowWithPump_19 : decode cX5_snowWithPump 19 = .ok (.iconst 1, 1) := by decide +kernel
theorem dX5_snowWithPump_20 : decode cX5_snowWithPump 20 = .ok (.bastore, 1) := by decide +kernel
theorem dX5_snowWithPump_21 : decode cX5_snowWithPump 21 = .ok (.aload_n 0, 1) := by decide +kernel
theorem dX5_snowWithPump_22 : decode cX5_snowWithPump 22 = .ok (.getfield 32, 3) := by decide +kernel
theorem dX5_snowWithPump_25 : decode cX5_snowWithPump 25 = .ok (.iload_n 2, 1) := by decide +kernel
theorem dX5_snowWithPump_26 : decode cX5_snowWithPump 26 = .ok (.invokevirtual 193, 3) := by decide +kernel
theorem dX5_snowWithPump_29 : decode cX5_snowWithPump 29 = .ok (.aload_n 0, 1) := by decide +kernel
theorem dX5_snowWithPump_30 : decode cX5_snowWithPump 30 = .ok (.getfield 32, 3) := by decide +kernel
theorem dX5_snowWithPump_33 : decode cX5_snowWithPump 33 = .ok (.invokevirtual 190, 3) := by decide +kernel
theorem dX5_snowWithPump_36 : decode cX5_snowWithPump 36 = .ok (.ireturn, 1) := by decide +kernel
set_option maxRecDepth 20000 in
theorem ggX5_lengthFrom_X5_hold : GoodIn wsX5_lengthFrom wsX5_hold := goodIn_r _ [4, 5, 6, 7, 8, 9, 10, 11] (by decide +kernel) (by decide +kernel)
set_option maxRecDepth 20000 in
theorem gX5_lengthFrom_X5_hold : GoodIn wsX5_lengthFrom (va_wsS RX5 251 yX5_hold wsX5_hold) := goodIn_app (goodIn_of _ (by decide +kernel)) ggX5_lengthFrom_X5_hold
theorem dX5_lengthFrom_0 : decode cX5_lengthFrom 0 = .ok (.iconst 4, 1) := by decide +kernel
theorem dX5_lengthFrom_1 : decode cX5_lengthFrom 1 = .ok (.iload_n 0, 1) := by decide +kernel
theorem dX5_lengthFrom_2 : decode cX5_lengthFrom 2 = .ok (.imul, 1) := by decide +kernel
theorem dX5_lengthFrom_3 : decode cX5_lengthFrom 3 = .ok (.iconst 2, 1) := by decide +kernel
theorem dX5_lengthFrom_4 : decode cX5_lengthFrom 4 = .ok (.iload_n 1, 1) := by decide +kernel
theorem dX5_lengthFrom_5 : decode cX5_lengthFrom 5 = .ok (.imul, 1) := by decide +kernel
theorem dX5_lengthFrom_6 : decode cX5_lengthFrom 6 = .ok (.iadd, 1) := by decide +kernel
theorem dX5_lengthFrom_7 : decode cX5_lengthFrom 7 = .ok (.iload_n 2, 1) := by decide +kernel
theorem dX5_lengthFrom_8 : decode cX5_lengthFrom 8 = .ok (.iconst 4, 1) := by decide +kernel
theorem dX5_lengthFrom_9 : decode cX5_lengthFrom 9 = .ok (.idiv, 1) := by decide +kernel
theorem dX5_lengthFrom_10 : decode cX5_lengthFrom 10 = .ok (.iadd, 1) := by decide +kernel
theorem dX5_lengthFrom_11 : decode cX5_lengthFrom 11 = .ok (.iconst 0, 1) := by decide +kernel
theorem dX5_lengthFrom_12 : decode cX5_lengthFrom 12 = .ok (.bipush 99, 2) := by decide +kernel
theorem dX5_lengthFrom_14 : decode cX5_lengthFrom 14 = .ok (.invokestatic 251, 3) := by decide +kernel
theorem dX5_lengthFrom_17 : decode cX5_lengthFrom 17 = .ok (.ireturn, 1) := by decide +kernel
theorem dX5_isOutside_0 : decode cX5_isOutside 0 = .ok (.iload_n 0, 1) := by decide +kernel
theorem dX5_isOutside_1 : decode cX5_isOutside 1 = .ok (.iload_n 1, 1) := by decide +kernel
theorem dX5_isOutside_2 : decode cX5_isOutside 2 = .ok (.if_icmp .lt 8, 3) := by decide +kernel
theorem dX5_isOutside_5 : decode cX5_isOutside 5 = .ok (.iload_n 0, 1) := by decide +kernel
theorem dX5_isOutside_6 : decode cX5_isOutside 6 = .ok (.iload_n 2, 1) := by decide +kernel
theorem dX5_isOutside_7 : decode cX5_isOutside 7 = .ok (.if_icmp .le 7, 3) := by decide +kernel
theorem dX5_isOutside_10 : decode cX5_isOutside 10 = .ok (.iconst 1, 1) := by decide +kernel
theorem dX5_isOutside_11 : decode cX5_isOutside 11 = .ok (.goto 4, 3) := by decide +kernel
theorem dX5_isOutside_14 : decode cX5_isOutside 14 = .ok (.iconst 0, 1) := by decide +kernel
theorem dX5_isOutside_15 : decode cX5_isOutside 15 = .ok (.ireturn, 1) := by decide +kernel
theorem dX5_hold_0 : decode cX5_hold 0 = .ok (.iload_n 1, 1) := by decide +kernel
theorem dX5_hold_1 : decode cX5_hold 1 = .ok (.iload_n 0, 1) := by decide +kernel
theorem dX5_hold_2 : decode cX5_hold 2 = .ok (.iload_n 2, 1) := by decide +kernel
theorem dX5_hold_3 : decode cX5_hold 3 = .ok (.invokestatic 111, 3) := by decide +kernel
theorem dX5_hold_6 : decode cX5_hold 6 = .ok (.invokestatic 254, 3) := by decide +kernel
theorem dX5_hold_9 : decode cX5_hold 9 = .ok (.ireturn, 1) := by decide +kernel
theorem dX5_sum_0 : decode cX5_sum 0 = .ok (.iconst 0, 1) := by decide +kernel
theorem dX5_sum_1 : decode cX5_sum 1 = .ok (.istore_n 1, 1) := by decide +kernel
theorem dX5_sum_2 : decode cX5_sum 2 = .ok (.aload_n 0, 1) := by decide +kernel
theorem dX5_sum_3 : decode cX5_sum 3 = .ok (.astore_n 2, 1) := by decide +kernel
theorem dX5_sum_4 : decode cX5_sum 4 = .ok (.aload_n 2, 1) := by decide +kernel
theorem dX5_sum_5 : decode cX5_sum 5 = .ok (.arraylength, 1) := by decide +kernel
theorem dX5_sum_6 : decode cX5_sum 6 = .ok (.istore_n 3, 1) := by decide +kernel
theorem dX5_sum_7 : decode cX5_sum 7 = .ok (.iconst 0, 1) := by decide +kernel
theorem dX5_sum_8 : decode cX5_sum 8 = .ok (.istore 4, 2) := by decide +kernel
theorem dX5_sum_10 : decode cX5_sum 10 = .ok (.iload 4, 2) := by decide +kernel
theorem dX5_sum_12 : decode cX5_sum 12 = .ok (.iload_n 3, 1) := by decide +kernel
theorem dX5_sum_13 : decode cX5_sum 13 = .ok (.if_icmp .ge 20, 3) := by decide +kernel
theorem dX5_sum_16 : decode cX5_sum 16 = .ok (.aload_n 2, 1) := by decide +kernel
theorem dX5_sum_17 : decode cX5_sum 17 = .ok (.iload 4, 2) := by decide +kernel
theorem dX5_sum_19 : decode cX5_sum 19 = .ok (.iaload, 1) := by decide +kernel
theorem dX5_sum_20 : decode cX5_sum 20 = .ok (.istore 5, 2) := by decide +kernel
theorem dX5_sum_22 : decode cX5_sum 22 = .ok (.iload_n 1, 1) := by decide +kernel
theorem dX5_sum_23 : decode cX5_sum 23 = .ok (.iload 5, 2) := by decide +kernel
theorem dX5_sum_25 : decode cX5_sum 25 = .ok (.iadd, 1) := by decide +kernel
theorem dX5_sum_26 : decode cX5_sum 26 = .ok (.istore_n 1, 1) := by decide +kernel
theorem dX5_sum_27 : decode cX5_sum 27 = .ok (.iinc 4 1, 3) := by decide +kernel
theorem dX5_sum_30 : decode cX5_sum 30 = .ok (.goto (-20), 3) := by decide +kernel
theorem dX5_sum_33 : decode cX5_sum 33 = .ok (.iload_n 1, 1) := by decide +kernel
theorem dX5_sum_34 : decode cX5_sum 34 = .ok (.ireturn, 1) := by decide +kernel
theorem dX6_init_0 : decode cX6_init 0 = .ok (.aload_n 0, 1) := by decide +kernel
theorem dX6_init_1 : decode cX6_init 1 = .ok (.invokespecial 3, 3) := by decide +kernel
theorem dX6_init_4 : decode cX6_init 4 = .ok (.aload_n 0, 1) := by decide +kernel
theorem dX6_init_5 : decode cX6_init 5 = .ok (.bipush 20, 2) := by decide +kernel
theorem dX6_init_7 : decode cX6_init 7 = .ok (.newarray .int, 2) := by decide +kernel
theorem dX6_init_9 : decode cX6_init 9 = .ok (.putfield 9, 3) := by decide +kernel
theorem dX6_init_12 : decode cX6_init 12 = .ok (.aload_n 0, 1) := by decide +kernel
theorem dX6_init_13 : decode cX6_init 13 = .ok (.bipush 20, 2) := by decide +kernel
theorem dX6_init_15 : decode cX6_init 15 = .ok (.newarray .int, 2) := by decide +kernel
theorem dX6_init_17 : decode cX6_init 17 = .ok (.putfield 15, 3) := by decide +kernel
theorem dX6_init_20 : decode cX6_init 20 = .ok (.aload_n 0, 1) := by decide +kernel
theorem dX6_init_21 : decode cX6_init 21 = .ok (.iconst 5, 1) := by decide +kernel
theorem dX6_init_22 : decode cX6_init 22 = .ok (.newarray .int, 2) := by decide +kernel
theorem dX6_init_24 : decode cX6_init 24 = .ok (.putfield 18, 3) := by decide +kernel
theorem dX6_init_27 : decode cX6_init 27 = .ok (.return_, 1) := by decide +kernel
theorem dX6_become_0 : decode cX6_become 0 = .ok (.aload_n 0, 1) := by decide +kernel
theorem dX6_become_1 : decode cX6_become 1 = .ok (.aload_n 1, 1) := by decide +kernel
theorem dX6_become_2 : decode cX6_become 2 = .ok (.getfield 21, 3) := by decide +kernel
theorem dX6_become_5 : decode cX6_become 5 = .ok (.putfield 21, 3) := by decide +kernel
theorem dX6_become_8 : decode cX6_become 8 = .ok (.aload_n 0, 1) := by decide +kernel
theorem dX6_become_9 : decode cX6_become 9 = .ok (.aload_n 1, 1) := by decide +kernel
theorem dX6_become_10 : decode cX6_become 10 = .ok (.getfield 25, 3) := by decide +kernel
theorem dX6_become_13 : decode cX6_become 13 = .ok (.putfield 25, 3) := by decide +kernel
theorem dX6_become_16 : decode cX6_become 16 = .ok (.aload_n 1, 1) := by decide +kernel
theorem dX6_become_17 : decode cX6_become 17 = .ok (.getfield 9, 3) := by decide +kernel
theorem dX6_become_20 : decode cX6_become 20 = .ok (.iconst 0, 1) := by decide +kernel
theorem dX6_become_21 : decode cX6_become 21 = .ok (.aload_n 0, 1) := by decide +kernel
theorem dX6_become_22 : decode cX6_become 22 = .ok (.getfield 9, 3) := by decide +kernel
theorem dX6_become_25 : decode cX6_become 25 = .ok (.iconst 0, 1) := by decide +kernel
theorem dX6_become_26 : decode cX6_become 26 = .ok (.bipush 20, 2) := by decide +kernel
theorem dX6_become_28 : decode cX6_become 28 = .ok (.invokestatic 28, 3) := by decide +kernel
theorem dX6_become_31 : decode cX6_become 31 = .ok (.aload_n 1, 1) := by decide +kernel
theorem dX6_become_32 : decode cX6_become 32 = .ok (.getfield 15, 3) := by decide +kernel
theorem dX6_become_35 : decode cX6_become 35 = .ok (.iconst 0, 1) := by decide +kernel
theorem dX6_become_36 : decode cX6_become 36 = .ok (.aload_n 0, 1) := by decide +kernel
theorem dX6_become_37 : decode cX6_become 37 = .ok (.getfield 15, 3) := by decide +kernel
theorem dX6_become_40 : decode cX6_become 40 = .ok (.iconst 0, 1) := by decide +kernel
theorem dX6_become_41 : decode cX6_become 41 = .ok (.bipush 20, 2) := by decide +kernel
theorem dX6_become_43 : decode cX6_become 43 = .ok (.invokestatic 28, 3) := by decide +kernel
theorem dX6_become_46 : decode cX6_become 46 = .ok (.aload_n 1, 1) := by decide +kernel
theorem dX6_become_47 : decode cX6_become 47 = .ok (.getfield 18, 3) := by decide +kernel
theorem dX6_become_50 : decode cX6_become 50 = .ok (.iconst 0, 1) := by decide +kernel
theorem dX6_become_51 : decode cX6_become 51 = .ok (.aload_n 0, 1) := by decide +kernel
theorem dX6_become_52 : decode cX6_become 52 = .ok (.getfield 18, 3) := by decide +kernel
theorem dX6_become_55 : decode cX6_become 55 = .ok (.iconst 0, 1) := by decide +kernel
theorem dX6_become_56 : decode cX6_become 56 = .ok (.iconst 5, 1) := by decide +kernel
theorem dX6_become_57 : decode cX6_become 57 = .ok (.invokestatic 28, 3) := by decide +kernel
theorem dX6_become_60 : decode cX6_become 60 = .ok (.return_, 1) := by decide +kernel
set_option maxRecDepth 20000 in
theorem ggX6_lay_X7_isIn : GoodIn wsX6_lay wsX7_isIn := goodIn_r _ [8] (by decide +kernel) (by decide +kernel)
set_option maxRecDepth 20000 in
theorem gX6_lay_X7_isIn_n34 : GoodIn wsX6_lay (wsX7_isIn) := ggX6_lay_X7_isIn
theorem dX6_lay_0 : decode cX6_lay 0 = .ok (.iload_n 1, 1) := by decide +kernel
theorem dX6_lay_1 : decode cX6_lay 1 = .ok (.iconst 0, 1) := by decide +kernel
theorem dX6_lay_2 : decode cX6_lay 2 = .ok (.bipush 19, 2) := by decide +kernel
theorem dX6_lay_4 : decode cX6_lay 4 = .ok (.invokestatic 34, 3) := by decide +kernel
theorem dX6_lay_7 : decode cX6_lay 7 = .ok (.ifCond .eq 23, 3) := by decide +kernel
theorem dX6_lay_10 : decode cX6_lay 10 = .ok (.aload_n 0, 1) := by decide +kernel
theorem dX6_lay_11 : decode cX6_lay 11 = .ok (.getfield 9, 3) := by decide +kernel
theorem dX6_lay_14 : decode cX6_lay 14 = .ok (.iload_n 1, 1) := by decide +kernel
theorem dX6_lay_15 : decode cX6_lay 15 = .ok (.sipush 300, 3) := by decide +kernel
theorem dX6_lay_18 : decode cX6_lay 18 = .ok (.aload_n 0, 1) := by decide +kernel
theorem dX6_lay_19 : decode cX6_lay 19 = .ok (.getfield 9, 3) := by decide +kernel
theorem dX6_lay_22 : decode cX6_lay 22 = .ok (.iload_n 1, 1) := by decide +kernel
theorem dX6_lay_23 : decode cX6_lay 23 = .ok (.iaload, 1) := by decide +kernel
theorem dX6_lay_24 : decode cX6_lay 24 = .ok (.iload_n 2, 1) := by decide +kernel
theorem dX6_lay_25 : decode cX6_lay 25 = .ok (.iadd, 1) := by decide +kernel
theorem dX6_lay_26 : decode cX6_lay 26 = .ok (.invokestatic 38, 3) := by decide +kernel
theorem dX6_lay_29 : decode cX6_lay 29 = .ok (.iastore, 1) := by decide +kernel
theorem dX6_lay_30 : decode cX6_lay 30 = .ok (.return_, 1) := by decide +kernel
theorem dX6_isBad_0 : decode cX6_isBad 0 = .ok (.aload_n 0, 1) := by decide +kernel
theorem dX6_isBad_1 : decode cX6_isBad 1 = .ok (.getfield 9, 3) := by decide +kernel
theorem dX6_isBad_4 : decode cX6_isBad 4 = .ok (.iload_n 1, 1) := by decide +kernel
theorem dX6_isBad_5 : decode cX6_isBad 5 = .ok (.iaload, 1) := by decide +kernel
theorem dX6_isBad_6 : decode cX6_isBad 6 = .ok (.bipush 30, 2) := by decide +kernel
theorem dX6_isBad_8 : decode cX6_isBad 8 = .ok (.if_icmp .lt 14, 3) := by decide +kernel
theorem dX6_isBad_11 : decode cX6_isBad 11 = .ok (.aload_n 0, 1) := by decide +kernel
theorem dX6_isBad_12 : decode cX6_isBad 12 = .ok (.getfield 15, 3) := by decide +kernel
theorem dX6_isBad_15 : decode cX6_isBad 15 = .ok (.iload_n 1, 1) := by decide +kernel
theorem dX6_isBad_16 : decode cX6_isBad 16 = .ok (.iaload, 1) := by decide +kernel
theorem dX6_isBad_17 : decode cX6_isBad 17 = .ok (.bipush 10, 2) := by decide +kernel
theorem dX6_isBad_19 : decode cX6_isBad 19 = .ok (.if_icmp .lt 7, 3) := by decide +kernel
theorem dX6_isBad_22 : decode cX6_isBad 22 = .ok (.iconst 1, 1) := by decide +kernel
theorem dX6_isBad_23 : decode cX6_isBad 23 = .ok (.goto 4, 3) := by decide +kernel
theorem dX6_isBad_26 : decode cX6_isBad 26 = .ok (.iconst 0, 1) := by decide +kernel
theorem dX6_isBad_27 : decode cX6_isBad 27 = .ok (.ireturn, 1) := by decide +kernel
set_option maxRecDepth 20000 in
theorem ggX7_init_X6_init : GoodIn wsX7_init wsX6_init := goodIn_r _ [18, 19, 2, 3, 4, 20, 21, 22, 35, 36, 37, 38, 39] (by decide +kernel) (by decide +kernel)
set_option maxRecDepth 20000 in
theorem gX7_init_X6_init_n33 : GoodIn wsX7_init (wsX6_init) := ggX7_init_X6_init
theorem dX7_init_0 : decode cX7_init 0 = .ok (.aload_n 0, 1) := by decide +kernel
theorem dX7_init_1 : decode cX7_init 1 = .ok (.invokespecial 1, 3) := by decide +kernel
theorem dX7_init_4 : decode cX7_init 4 = .ok (.aload_n 0, 1) := by decide +kernel
theorem dX7_init_5 : decode cX7_init 5 = .ok (.bipush 24, 2) := by decide +kernel
theorem dX7_init_7 : decode cX7_init 7 = .ok (.newarray .int, 2) := by decide +kernel
theorem dX7_init_9 : decode cX7_init 9 = .ok (.putfield 9, 3) := by decide +kernel
theorem dX7_init_12 : decode cX7_init 12 = .ok (.aload_n 0, 1) := by decide +kernel
theorem dX7_init_13 : decode cX7_init 13 = .ok (.bipush 24, 2) := by decide +kernel
theorem dX7_init_15 : decode cX7_init 15 = .ok (.newarray .int, 2) := by decide +kernel
theorem dX7_init_17 : decode cX7_init 17 = .ok (.putfield 13, 3) := by decide +kernel
theorem dX7_init_20 : decode cX7_init 20 = .ok (.aload_n 0, 1) := by decide +kernel
theorem dX7_init_21 : decode cX7_init 21 = .ok (.bipush 24, 2) := by decide +kernel
theorem dX7_init_23 : decode cX7_init 23 = .ok (.newarray .int, 2) := by decide +kernel
theorem dX7_init_25 : decode cX7_init 25 = .ok (.putfield 16, 3) := by decide +kernel
theorem dX7_init_28 : decode cX7_init 28 = .ok (.aload_n 0, 1) := by decide +kernel
theorem dX7_init_29 : decode cX7_init 29 = .ok (.iconst 5, 1) := by decide +kernel
theorem dX7_init_30 : decode cX7_init 30 = .ok (.newarray .int, 2) := by decide +kernel
theorem dX7_init_32 : decode cX7_init 32 = .ok (.putfield 19, 3) := by decide +kernel
theorem dX7_init_35 : decode cX7_init 35 = .ok (.aload_n 0, 1) := by decide +kernel
theorem dX7_init_36 : decode cX7_init 36 = .ok (.iconst 5, 1) := by decide +kernel
theorem dX7_init_37 : decode cX7_init 37 = .ok (.newarray .int, 2) := by decide +kernel
theorem dX7_init_39 : decode cX7_init 39 = .ok (.putfield 22, 3) := by decide +kernel
theorem dX7_init_42 : decode cX7_init 42 = .ok (.aload_n 0, 1) := by decide +kernel
theorem dX7_init_43 : decode cX7_init 43 = .ok (.iconst 5, 1) := by decide +kernel
theorem dX7_init_44 : decode cX7_init 44 = .ok (.newarray .int, 2) := by decide +kernel
theorem dX7_init_46 : decode cX7_init 46 = .ok (.dup, 1) := by decide +kernel
theorem dX7_init_47 : decode cX7_init 47 = .ok (.iconst 0, 1) := by decide +kernel
theorem dX7_init_48 : decode cX7_init 48 = .ok (.iconst 0, 1) := by decide +kernel
theorem dX7_init_49 : decode cX7_init 49 = .ok (.iastore, 1) := by decide +kernel
theorem dX7_init_50 : decode cX7_init 50 = .ok (.dup, 1) := by decide +kernel
theorem dX7_init_51 : decode cX7_init 51 = .ok (.iconst 1, 1) := by decide +kernel
theorem dX7_init_52 : decode cX7_init 52 = .ok (.iconst 1, 1) := by decide +kernel
theorem dX7_init_53 : decode cX7_init 53 = .ok (.iastore, 1) := by decide +kernel
theorem dX7_init_54 : decode cX7_init 54 = .ok (.dup, 1) := by decide +kernel
theorem dX7_init_55 : decode cX7_init 55 = .ok (.iconst 2, 1) := by decide +kernel
theorem dX7_init_56 : decode cX7_init 56 = .ok (.iconst 2, 1) := by decide +kernel
theorem dX7_init_57 : decode cX7_init 57 = .ok (.iastore, 1) := by decide +kernel
theorem dX7_init_58 : decode cX7_init 58 = .ok (.dup, 1) := by decide +kernel
theorem dX7_init_59 : decode cX7_init 59 = .ok (.iconst 3, 1) := by decide +kernel
theorem dX7_init_60 : decode cX7_init 60 = .ok (.iconst 3, 1) := by decide +kernel
theorem dX7_init_61 : decode cX7_init 61 = .ok (.iastore, 1) := by decide +kernel
theorem dX7_init_62 : decode cX7_init 62 = .ok (.dup, 1) := by decide +kernel
theorem dX7_init_63 : decode cX7_init 63 = .ok (.iconst 4, 1) := by decide +kernel
theorem dX7_init_64 : decode cX7_init 64 = .ok (.iconst 4, 1) := by decide +kernel
theorem dX7_init_65 : decode cX7_init 65 = .ok (.iastore, 1) := by decide +kernel
theorem dX7_init_66 : decode cX7_init 66 = .ok (.putfield 25, 3) := by decide +kernel
theorem dX7_init_69 : decode cX7_init 69 = .ok (.aload_n 0, 1) := by decide +kernel
theorem dX7_init_70 : decode cX7_init 70 = .ok (.sipush 150, 3) := by decide +kernel
theorem dX7_init_73 : decode cX7_init 73 = .ok (.newarray .int, 2) := by decide +kernel
theorem dX7_init_75 : decode cX7_init 75 = .ok (.putfield 28, 3) := by decide +kernel
theorem dX7_init_78 : decode cX7_init 78 = .ok (.aload_n 0, 1) := by decide +kernel
theorem dX7_init_79 : decode cX7_init 79 = .ok (.new 31, 3) := by decide +kernel
theorem dX7_init_82 : decode cX7_init 82 = .ok (.dup, 1) := by decide +kernel
theorem dX7_init_83 : decode cX7_init 83 = .ok (.invokespecial 33, 3) := by decide +kernel
theorem dX7_init_86 : decode cX7_init 86 = .ok (.putfield 34, 3) := by decide +kernel
theorem dX7_init_89 : decode cX7_init 89 = .ok (.aload_n 0, 1) := by decide +kernel
theorem dX7_init_90 : decode cX7_init 90 = .ok (.new 31, 3) := by decide +kernel
theorem dX7_init_93 : decode cX7_init 93 = .ok (.dup, 1) := by decide +kernel
theorem dX7_init_94 : decode cX7_init 94 = .ok (.invokespecial 33, 3) := by decide +kernel
theorem dX7_init_97 : decode cX7_init 97 = .ok (.putfield 38, 3) := by decide +kernel
theorem dX7_init_100 : decode cX7_init 100 = .ok (.iconst 0, 1) := by decide +kernel
theorem dX7_init_101 : decode cX7_init 101 = .ok (.istore_n 1, 1) := by decide +kernel
theorem dX7_init_102 : decode cX7_init 102 = .ok (.iload_n 1, 1) := by decide +kernel
theorem dX7_init_103 : decode cX7_init 103 = .ok (.bipush 24, 2) := by decide +kernel
theorem dX7_init_105 : decode cX7_init 105 = .ok (.if_icmp .ge 25, 3) := by decide +kernel
theorem dX7_init_108 : decode cX7_init 108 = .ok (.aload_n 0, 1) := by decide +kernel
theorem dX7_init_109 : decode cX7_init 109 = .ok (.getfield 9, 3) := by decide +kernel
theorem dX7_init_112 : decode cX7_init 112 = .ok (.iload_n 1, 1) := by decide +kernel
theorem dX7_init_113 : decode cX7_init 113 = .ok (.bipush (-5), 2) := by decide +kernel
theorem dX7_init_115 : decode cX7_init 115 = .ok (.iastore, 1) := by decide +kernel
theorem dX7_init_116 : decode cX7_init 116 = .ok (.aload_n 0, 1) := by decide +kernel
theorem dX7_init_117 : decode cX7_init 117 = .ok (.getfield 13, 3) := by decide +kernel
theorem dX7_init_120 : decode cX7_init 120 = .ok (.iload_n 1, 1) := by decide +kernel
theorem dX7_init_121 : decode cX7_init 121 = .ok (.bipush 50, 2) := by decide +kernel
theorem dX7_init_123 : decode cX7_init 123 = .ok (.iastore, 1) := by decide +kernel
theorem dX7_init_124 : decode cX7_init 124 = .ok (.iinc 1 1, 3) := by decide +kernel
theorem dX7_init_127 : decode cX7_init 127 = .ok (.goto (-25), 3) := by decide +kernel
theorem dX7_init_130 : decode cX7_init 130 = .ok (.return_, 1) := by decide +kernel
theorem dX7_thrown_0 : decode cX7_thrown 0 = .ok (.aload_n 0, 1) := by decide +kernel
theorem dX7_thrown_1 : decode cX7_thrown 1 = .ok (.getfield 41, 3) := by decide +kernel
theorem dX7_thrown_4 : decode cX7_thrown 4 = .ok (.ireturn, 1) := by decide +kernel
theorem dX7_no_0 : decode cX7_no 0 = .ok (.aload_n 0, 1) := by decide +kernel
theorem dX7_no_1 : decode cX7_no 1 = .ok (.iload_n 1, 1) := by decide +kernel
theorem dX7_no_2 : decode cX7_no 2 = .ok (.putfield 41, 3) := by decide +kernel
theorem dX7_no_5 : decode cX7_no 5 = .ok (.iconst 0, 1) := by decide +kernel
theorem dX7_no_6 : decode cX7_no 6 = .ok (.ireturn, 1) := by decide +kernel
theorem dX7_isIn_0 : decode cX7_isIn 0 = .ok (.iload_n 0, 1) := by decide +kernel
theorem dX7_isIn_1 : decode cX7_isIn 1 = .ok (.iload_n 1, 1) := by decide +kernel
theorem dX7_isIn_2 : decode cX7_isIn 2 = .ok (.if_icmp .lt 12, 3) := by decide +kernel
theorem dX7_isIn_5 : decode cX7_isIn 5 = .ok (.iload_n 0, 1) := by decide +kernel
theorem dX7_isIn_6 : decode cX7_isIn 6 = .ok (.iload_n 2, 1) := by decide +kernel
theorem dX7_isIn_7 : decode cX7_isIn 7 = .ok (.if_icmp .gt 7, 3) := by decide +kernel
theorem dX7_isIn_10 : decode cX7_isIn 10 = .ok (.iconst 1, 1) := by decide +kernel
theorem dX7_isIn_11 : decode cX7_isIn 11 = .ok (.goto 4, 3) := by decide +kernel
theorem dX7_isIn_14 : decode cX7_isIn 14 = .ok (.iconst 0, 1) := by decide +kernel
theorem dX7_isIn_15 : decode cX7_isIn 15 = .ok (.ireturn, 1) := by decide +kernel
set_option maxRecDepth 20000 in
theorem ggX7_isPart_X7_isIn : GoodIn wsX7_isPart wsX7_isIn := goodIn_r _ [4] (by decide +kernel) (by decide +kernel)
set_option maxRecDepth 20000 in
theorem gX7_isPart_X7_isIn : GoodIn wsX7_isPart (va_wsS RX7 45 yX7_isIn wsX7_isIn) := goodIn_app (goodIn_of _ (by decide +kernel)) ggX7_isPart_X7_isIn
theorem dX7_isPart_0 : decode cX7_isPart 0 = .ok (.iload_n 0, 1) := by decide +kernel
theorem dX7_isPart_1 : decode cX7_isPart 1 = .ok (.iconst 0, 1) := by decide +kernel
theorem dX7_isPart_2 : decode cX7_isPart 2 = .ok (.bipush 19, 2) := by decide +kernel
theorem dX7_isPart_4 : decode cX7_isPart 4 = .ok (.invokestatic 45, 3) := by decide +kernel
theorem dX7_isPart_7 : decode cX7_isPart 7 = .ok (.ireturn, 1) := by decide +kernel
set_option maxRecDepth 20000 in
theorem ggX7_isPump_X7_isIn : GoodIn wsX7_isPump wsX7_isIn := goodIn_r _ [5] (by decide +kernel) (by decide +kernel)
set_option maxRecDepth 20000 in
theorem gX7_isPump_X7_isIn : GoodIn wsX7_isPump (va_wsS RX7 45 yX7_isIn wsX7_isIn) := goodIn_app (goodIn_of _ (by decide +kernel)) ggX7_isPump_X7_isIn
theorem dX7_isPump_0 : decode cX7_isPump 0 = .ok (.iload_n 1, 1) := by decide +kernel
theorem dX7_isPump_1 : decode cX7_isPump 1 = .ok (.iconst 0, 1) := by decide +kernel
theorem dX7_isPump_2 : decode cX7_isPump 2 = .ok (.aload_n 0, 1) := by decide +kernel
theorem dX7_isPump_3 : decode cX7_isPump 3 = .ok (.getfield 49, 3) := by decide +kernel
theorem dX7_isPump_6 : decode cX7_isPump 6 = .ok (.iconst 1, 1) := by decide +kernel
theorem dX7_isPump_7 : decode cX7_isPump 7 = .ok (.isub, 1) := by decide +kernel
theorem dX7_isPump_8 : decode cX7_isPump 8 = .ok (.invokestatic 45, 3) := by decide +kernel
theorem dX7_isPump_11 : decode cX7_isPump 11 = .ok (.ireturn, 1) := by decide +kernel
theorem dX7_sum_0 : decode cX7_sum 0 = .ok (.iconst 0, 1) := by decide +kernel
theorem dX7_sum_1 : decode cX7_sum 1 = .ok (.istore_n 1, 1) := by decide +kernel
theorem dX7_sum_2 : decode cX7_sum 2 = .ok (.aload_n 0, 1) := by decide +kernel
theorem dX7_sum_3 : decode cX7_sum 3 = .ok (.astore_n 2, 1) := by decide +kernel
theorem dX7_sum_4 : decode cX7_sum 4 = .ok (.aload_n 2, 1) := by decide +kernel
theorem dX7_sum_5 : decode cX7_sum 5 = .ok (.arraylength, 1) := by decide +kernel
theorem dX7_sum_6 : decode cX7_sum 6 = .ok (.istore_n 3, 1) := by decide +kernel
theorem dX7_sum_7 : decode cX7_sum 7 = .ok (.iconst 0, 1) := by decide +kernel
theorem dX7_sum_8 : decode cX7_sum 8 = .ok (.istore 4, 2) := by decide +kernel
theorem dX7_sum_10 : decode cX7_sum 10 = .ok (.iload 4, 2) := by decide +kernel
theorem dX7_sum_12 : decode cX7_sum 12 = .ok (.iload_n 3, 1) := by decide +kernel
theorem dX7_sum_13 : decode cX7_sum 13 = .ok (.if_icmp .ge 20, 3) := by decide +kernel
theorem dX7_sum_16 : decode cX7_sum 16 = .ok (.aload_n 2, 1) := by decide +kernel
theorem dX7_sum_17 : decode cX7_sum 17 = .ok (.iload 4, 2) := by decide +kernel
theorem dX7_sum_19 : decode cX7_sum 19 = .ok (.iaload, 1) := by decide +kernel
theorem dX7_sum_20 : decode cX7_sum 20 = .ok (.istore 5, 2) := by decide +kernel
theorem dX7_sum_22 : decode cX7_sum 22 = .ok (.iload_n 1, 1) := by decide +kernel
theorem dX7_sum_23 : decode cX7_sum 23 = .ok (.iload 5, 2) := by decide +kernel
theorem dX7_sum_25 : decode cX7_sum 25 = .ok (.iadd, 1) := by decide +kernel
theorem dX7_sum_26 : decode cX7_sum 26 = .ok (.istore_n 1, 1) := by decide +kernel
theorem dX7_sum_27 : decode cX7_sum 27 = .ok (.iinc 4 1, 3) := by decide +kernel
theorem dX7_sum_30 : decode cX7_sum 30 = .ok (.goto (-20), 3) := by decide +kernel
theorem dX7_sum_33 : decode cX7_sum 33 = .ok (.iload_n 1, 1) := by decide +kernel
theorem dX7_sum_34 : decode cX7_sum 34 = .ok (.ireturn, 1) := by decide +kernel
theorem dX7_wet_0 : decode cX7_wet 0 = .ok (.aload_n 0, 1) := by decide +kernel
theorem dX7_wet_1 : decode cX7_wet 1 = .ok (.getfield 9, 3) := by decide +kernel
theorem dX7_wet_4 : decode cX7_wet 4 = .ok (.iload_n 1, 1) := by decide +kernel
theorem dX7_wet_5 : decode cX7_wet 5 = .ok (.iaload, 1) := by decide +kernel
theorem dX7_wet_6 : decode cX7_wet 6 = .ok (.bipush 100, 2) := by decide +kernel
theorem dX7_wet_8 : decode cX7_wet 8 = .ok (.aload_n 0, 1) := by decide +kernel
theorem dX7_wet_9 : decode cX7_wet 9 = .ok (.getfield 13, 3) := by decide +kernel
theorem dX7_wet_12 : decode cX7_wet 12 = .ok (.iload_n 1, 1) := by decide +kernel
theorem dX7_wet_13 : decode cX7_wet 13 = .ok (.iaload, 1) := by decide +kernel
theorem dX7_wet_14 : decode cX7_wet 14 = .ok (.isub, 1) := by decide +kernel
theorem dX7_wet_15 : decode cX7_wet 15 = .ok (.bipush 10, 2) := by decide +kernel
theorem dX7_wet_17 : decode cX7_wet 17 = .ok (.idiv, 1) := by decide +kernel
theorem dX7_wet_18 : decode cX7_wet 18 = .ok (.isub, 1) := by decide +kernel
theorem dX7_wet_19 : decode cX7_wet 19 = .ok (.ireturn, 1) := by decide +kernel
set_option maxRecDepth 20000 in
theorem ggX7_work_X6_lay : GoodIn wsX7_work wsX6_lay := goodIn_r _ [11, 12, 13, 4, 5, 6, 14, 15, 16, 17, 18, 19, 20, 21] (by decide +kernel) (by decide +kernel)
set_option maxRecDepth 20000 in
theorem gX7_work_X6_lay : GoodIn wsX7_work (wsV RX7 67 RX6 yX6_lay wsX6_lay) := goodIn_app (goodIn_of _ (by decide +kernel)) ggX7_work_X6_lay
theorem dX7_work_0 : decode cX7_work 0 = .ok (.aload_n 1, 1) := by decide +kernel
theorem dX7_work_1 : decode cX7_work 1 = .ok (.getfield 52, 3) := by decide +kernel
theorem dX7_work_4 : decode cX7_work 4 = .ok (.iload_n 2, 1) := by decide +kernel
theorem dX7_work_5 : decode cX7_work 5 = .ok (.iaload, 1) := by decide +kernel
theorem dX7_work_6 : decode cX7_work 6 = .ok (.ifCond .eq 16, 3) := by decide +kernel
theorem dX7_work_9 : decode cX7_work 9 = .ok (.aload_n 0, 1) := by decide +kernel
theorem dX7_work_10 : decode cX7_work 10 = .ok (.getfield 22, 3) := by decide +kernel
theorem dX7_work_13 : decode cX7_work 13 = .ok (.iload_n 2, 1) := by decide +kernel
theorem dX7_work_14 : decode cX7_work 14 = .ok (.iaload, 1) := by decide +kernel
theorem dX7_work_15 : decode cX7_work 15 = .ok (.aload_n 1, 1) := by decide +kernel
theorem dX7_work_16 : decode cX7_work 16 = .ok (.getfield 55, 3) := by decide +kernel
theorem dX7_work_19 : decode cX7_work 19 = .ok (.if_icmp .le 4, 3) := by decide +kernel
theorem dX7_work_22 : decode cX7_work 22 = .ok (.return_, 1) := by decide +kernel
theorem dX7_work_23 : decode cX7_work 23 = .ok (.aload_n 1, 1) := by decide +kernel
theorem dX7_work_24 : decode cX7_work 24 = .ok (.dup, 1) := by decide +kernel
theorem dX7_work_25 : decode cX7_work 25 = .ok (.getfield 55, 3) := by decide +kernel
theorem dX7_work_28 : decode cX7_work 28 = .ok (.aload_n 0, 1) := by decide +kernel
theorem dX7_work_29 : decode cX7_work 29 = .ok (.getfield 22, 3) := by decide +kernel
theorem dX7_work_32 : decode cX7_work 32 = .ok (.iload_n 2, 1) := by decide +kernel
theorem dX7_work_33 : decode cX7_work 33 = .ok (.iaload, 1) := by decide +kernel
theorem dX7_work_34 : decode cX7_work 34 = .ok (.isub, 1) := by decide +kernel
theorem dX7_work_35 : decode cX7_work 35 = .ok (.putfield 55, 3) := by decide +kernel
theorem dX7_work_38 : decode cX7_work 38 = .ok (.aload_n 0, 1) := by decide +kernel
theorem dX7_work_39 : decode cX7_work 39 = .ok (.getfield 19, 3) := by decide +kernel
theorem dX7_work_42 : decode cX7_work 42 = .ok (.iload_n 2, 1) := by decide +kernel
theorem dX7_work_43 : decode cX7_work 43 = .ok (.iaload, 1) := by decide +kernel
theorem dX7_work_44 : decode cX7_work 44 = .ok (.istore 4, 2) := by decide +kernel
theorem dX7_work_46 : decode cX7_work 46 = .ok (.iload_n 3, 1) := by decide +kernel
theorem dX7_work_47 : decode cX7_work 47 = .ok (.bipush (-2), 2) := by decide +kernel
theorem dX7_work_49 : decode cX7_work 49 = .ok (.if_icmp .le 25, 3) := by decide +kernel
theorem dX7_work_52 : decode cX7_work 52 = .ok (.aload_n 1, 1) := by decide +kernel
theorem dX7_work_53 : decode cX7_work 53 = .ok (.getfield 58, 3) := by decide +kernel
theorem dX7_work_56 : decode cX7_work 56 = .ok (.iload 4, 2) := by decide +kernel
theorem dX7_work_58 : decode cX7_work 58 = .ok (.bipush 50, 2) := by decide +kernel
theorem dX7_work_60 : decode cX7_work 60 = .ok (.aload_n 1, 1) := by decide +kernel
theorem dX7_work_61 : decode cX7_work 61 = .ok (.getfield 58, 3) := by decide +kernel
theorem dX7_work_64 : decode cX7_work 64 = .ok (.iload 4, 2) := by decide +kernel
theorem dX7_work_66 : decode cX7_work 66 = .ok (.iaload, 1) := by decide +kernel
theorem dX7_work_67 : decode cX7_work 67 = .ok (.iconst 1, 1) := by decide +kernel
theorem dX7_work_68 : decode cX7_work 68 = .ok (.iadd, 1) := by decide +kernel
theorem dX7_work_69 : decode cX7_work 69 = .ok (.invokestatic 61, 3) := by decide +kernel
theorem dX7_work_72 : decode cX7_work 72 = .ok (.iastore, 1) := by decide +kernel
theorem dX7_work_73 : decode cX7_work 73 = .ok (.return_, 1) := by decide +kernel
theorem dX7_work_74 : decode cX7_work 74 = .ok (.aload_n 0, 1) := by decide +kernel
theorem dX7_work_75 : decode cX7_work 75 = .ok (.getfield 22, 3) := by decide +kernel
theorem dX7_work_78 : decode cX7_work 78 = .ok (.iload_n 2, 1) := by decide +kernel
theorem dX7_work_79 : decode cX7_work 79 = .ok (.iaload, 1) := by decide +kernel
theorem dX7_work_80 : decode cX7_work 80 = .ok (.bipush 8, 2) := by decide +kernel
theorem dX7_work_82 : decode cX7_work 82 = .ok (.iload_n 3, 1) := by decide +kernel
theorem dX7_work_83 : decode cX7_work 83 = .ok (.ineg, 1) := by decide +kernel
theorem dX7_work_84 : decode cX7_work 84 = .ok (.invokestatic 61, 3) := by decide +kernel
theorem dX7_work_87 : decode cX7_work 87 = .ok (.imul, 1) := by decide +kernel
theorem dX7_work_88 : decode cX7_work 88 = .ok (.istore 5, 2) := by decide +kernel
theorem dX7_work_90 : decode cX7_work 90 = .ok (.aload_n 1, 1) := by decide +kernel
theorem dX7_work_91 : decode cX7_work 91 = .ok (.iload 4, 2) := by decide +kernel
theorem dX7_work_93 : decode cX7_work 93 = .ok (.iload 5, 2) := by decide +kernel
theorem dX7_work_95 : decode cX7_work 95 = .ok (.iconst 2, 1) := by decide +kernel
theorem dX7_work_96 : decode cX7_work 96 = .ok (.idiv, 1) := by decide +kernel
theorem dX7_work_97 : decode cX7_work 97 = .ok (.invokevirtual 67, 3) := by decide +kernel
theorem dX7_work_100 : decode cX7_work 100 = .ok (.aload_n 1, 1) := by decide +kernel
theorem dX7_work_101 : decode cX7_work 101 = .ok (.iload 4, 2) := by decide +kernel
theorem dX7_work_103 : decode cX7_work 103 = .ok (.iconst 1, 1) := by decide +kernel
theorem dX7_work_104 : decode cX7_work 104 = .ok (.isub, 1) := by decide +kernel
theorem dX7_work_105 : decode cX7_work 105 = .ok (.iload 5, 2) := by decide +kernel
theorem dX7_work_107 : decode cX7_work 107 = .ok (.iconst 4, 1) := by decide +kernel
theorem dX7_work_108 : decode cX7_work 108 = .ok (.idiv, 1) := by decide +kernel
theorem dX7_work_109 : decode cX7_work 109 = .ok (.invokevirtual 67, 3) := by decide +kernel
theorem dX7_work_112 : decode cX7_work 112 = .ok (.aload_n 1, 1) := by decide +kernel
theorem dX7_work_113 : decode cX7_work 113 = .ok (.iload 4, 2) := by decide +kernel
theorem dX7_work_115 : decode cX7_work 115 = .ok (.iconst 1, 1) := by decide +kernel
theorem dX7_work_116 : decode cX7_work 116 = .ok (.iadd, 1) := by decide +kernel
theorem dX7_work_117 : decode cX7_work 117 = .ok (.iload 5, 2) := by decide +kernel
theorem dX7_work_119 : decode cX7_work 119 = .ok (.iconst 4, 1) := by decide +kernel
theorem dX7_work_120 : decode cX7_work 120 = .ok (.idiv, 1) := by decide +kernel
theorem dX7_work_121 : decode cX7_work 121 = .ok (.invokevirtual 67, 3) := by decide +kernel
theorem dX7_work_124 : decode cX7_work 124 = .ok (.return_, 1) := by decide +kernel
set_option maxRecDepth 20000 in
theorem ggX7_pass_X7_wet : GoodIn wsX7_pass wsX7_wet := goodIn_r _ [11, 2, 12, 36, 37, 38, 39, 40, 41, 42, 43, 44, 45, 46, 47] (by decide +kernel) (by decide +kernel)
set_option maxRecDepth 20000 in
theorem gX7_pass_X7_wet : GoodIn wsX7_pass (wsV RX7 74 RX7 yX7_wet wsX7_wet) := goodIn_app (goodIn_of _ (by decide +kernel)) ggX7_pass_X7_wet
set_option maxRecDepth 20000 in
theorem ggX7_pass_X7_work : GoodIn wsX7_pass wsX7_work := goodIn_r _ [16, 17, 18, 19, 20, 5, 21, 22, 23, 24, 25, 26, 27, 28, 29, 10, 30, 31, 32, 33, 34, 35, 36, 37, 38, 39, 40, 41, 42, 43, 44, 45, 46, 47] (by decide +kernel) (by decide +kernel)
set_option maxRecDepth 20000 in
theorem gX7_pass_X7_work : GoodIn wsX7_pass (wsV RX7 78 RX7 yX7_work wsX7_work) := goodIn_app (goodIn_of _ (by decide +kernel)) ggX7_pass_X7_work
theorem dX7_pass_0 : decode cX7_pass 0 = .ok (.aload_n 1, 1) := by decide +kernel
theorem dX7_pass_1 : decode cX7_pass 1 = .ok (.getfield 71, 3) := by decide +kernel
theorem dX7_pass_4 : decode cX7_pass 4 = .ok (.bipush 24, 2) := by decide +kernel
theorem dX7_pass_6 : decode cX7_pass 6 = .ok (.irem, 1) := by decide +kernel
theorem dX7_pass_7 : decode cX7_pass 7 = .ok (.istore_n 2, 1) := by decide +kernel
theorem dX7_pass_8 : decode cX7_pass 8 = .ok (.iconst 0, 1) := by decide +kernel
theorem dX7_pass_9 : decode cX7_pass 9 = .ok (.istore_n 3, 1) := by decide +kernel
theorem dX7_pass_10 : decode cX7_pass 10 = .ok (.iload_n 3, 1) := by decide +kernel
theorem dX7_pass_11 : decode cX7_pass 11 = .ok (.aload_n 0, 1) := by decide +kernel
theorem dX7_pass_12 : decode cX7_pass 12 = .ok (.getfield 49, 3) := by decide +kernel
theorem dX7_pass_15 : decode cX7_pass 15 = .ok (.if_icmp .ge 20, 3) := by decide +kernel
theorem dX7_pass_18 : decode cX7_pass 18 = .ok (.aload_n 0, 1) := by decide +kernel
theorem dX7_pass_19 : decode cX7_pass 19 = .ok (.aload_n 1, 1) := by decide +kernel
theorem dX7_pass_20 : decode cX7_pass 20 = .ok (.iload_n 3, 1) := by decide +kernel
theorem dX7_pass_21 : decode cX7_pass 21 = .ok (.aload_n 0, 1) := by decide +kernel
theorem dX7_pass_22 : decode cX7_pass 22 = .ok (.iload_n 2, 1) := by decide +kernel
theorem dX7_pass_23 : decode cX7_pass 23 = .ok (.invokevirtual 74, 3) := by decide +kernel
theorem dX7_pass_26 : decode cX7_pass 26 = .ok (.invokevirtual 78, 3) := by decide +kernel
theorem dX7_pass_29 : decode cX7_pass 29 = .ok (.iinc 3 1, 3) := by decide +kernel
theorem dX7_pass_32 : decode cX7_pass 32 = .ok (.goto (-22), 3) := by decide +kernel
theorem dX7_pass_35 : decode cX7_pass 35 = .ok (.iconst 0, 1) := by decide +kernel
theorem dX7_pass_36 : decode cX7_pass 36 = .ok (.istore_n 3, 1) := by decide +kernel
theorem dX7_pass_37 : decode cX7_pass 37 = .ok (.iload_n 3, 1) := by decide +kernel
theorem dX7_pass_38 : decode cX7_pass 38 = .ok (.bipush 20, 2) := by decide +kernel
theorem dX7_pass_40 : decode cX7_pass 40 = .ok (.if_icmp .ge 59, 3) := by decide +kernel
theorem dX7_pass_43 : decode cX7_pass 43 = .ok (.aload_n 0, 1) := by decide +kernel
theorem dX7_pass_44 : decode cX7_pass 44 = .ok (.getfield 9, 3) := by decide +kernel
theorem dX7_pass_47 : decode cX7_pass 47 = .ok (.iload_n 2, 1) := by decide +kernel
theorem dX7_pass_48 : decode cX7_pass 48 = .ok (.iaload, 1) := by decide +kernel
theorem dX7_pass_49 : decode cX7_pass 49 = .ok (.ifCond .le 50, 3) := by decide +kernel
theorem dX7_pass_52 : decode cX7_pass 52 = .ok (.aload_n 1, 1) := by decide +kernel
theorem dX7_pass_53 : decode cX7_pass 53 = .ok (.getfield 82, 3) := by decide +kernel
theorem dX7_pass_56 : decode cX7_pass 56 = .ok (.iload_n 3, 1) := by decide +kernel
theorem dX7_pass_57 : decode cX7_pass 57 = .ok (.iconst 0, 1) := by decide +kernel
theorem dX7_pass_58 : decode cX7_pass 58 = .ok (.aload_n 1, 1) := by decide +kernel
theorem dX7_pass_59 : decode cX7_pass 59 = .ok (.getfield 82, 3) := by decide +kernel
theorem dX7_pass_62 : decode cX7_pass 62 = .ok (.iload_n 3, 1) := by decide +kernel
theorem dX7_pass_63 : decode cX7_pass 63 = .ok (.iaload, 1) := by decide +kernel
theorem dX7_pass_64 : decode cX7_pass 64 = .ok (.aload_n 0, 1) := by decide +kernel
theorem dX7_pass_65 : decode cX7_pass 65 = .ok (.getfield 9, 3) := by decide +kernel
theorem dX7_pass_68 : decode cX7_pass 68 = .ok (.iload_n 2, 1) := by decide +kernel
theorem dX7_pass_69 : decode cX7_pass 69 = .ok (.iaload, 1) := by decide +kernel
theorem dX7_pass_70 : decode cX7_pass 70 = .ok (.isub, 1) := by decide +kernel
theorem dX7_pass_71 : decode cX7_pass 71 = .ok (.invokestatic 85, 3) := by decide +kernel
theorem dX7_pass_74 : decode cX7_pass 74 = .ok (.iastore, 1) := by decide +kernel
theorem dX7_pass_75 : decode cX7_pass 75 = .ok (.aload_n 1, 1) := by decide +kernel
theorem dX7_pass_76 : decode cX7_pass 76 = .ok (.getfield 58, 3) := by decide +kernel
theorem dX7_pass_79 : decode cX7_pass 79 = .ok (.iload_n 3, 1) := by decide +kernel
theorem dX7_pass_80 : decode cX7_pass 80 = .ok (.iconst 0, 1) := by decide +kernel
theorem dX7_pass_81 : decode cX7_pass 81 = .ok (.aload_n 1, 1) := by decide +kernel
theorem dX7_pass_82 : decode cX7_pass 82 = .ok (.getfield 58, 3) := by decide +kernel
theorem dX7_pass_85 : decode cX7_pass 85 = .ok (.iload_n 3, 1) := by decide +kernel
theorem dX7_pass_86 : decode cX7_pass 86 = .ok (.iaload, 1) := by decide +kernel
theorem dX7_pass_87 : decode cX7_pass 87 = .ok (.iconst 1, 1) := by decide +kernel
theorem dX7_pass_88 : decode cX7_pass 88 = .ok (.isub, 1) := by decide +kernel
theorem dX7_pass_89 : decode cX7_pass 89 = .ok (.invokestatic 85, 3) := by decide +kernel
theorem dX7_pass_92 : decode cX7_pass 92 = .ok (.iastore, 1) := by decide +kernel
theorem dX7_pass_93 : decode cX7_pass 93 = .ok (.iinc 3 1, 3) := by decide +kernel
theorem dX7_pass_96 : decode cX7_pass 96 = .ok (.goto (-59), 3) := by decide +kernel
theorem dX7_pass_99 : decode cX7_pass 99 = .ok (.aload_n 1, 1) := by decide +kernel
theorem dX7_pass_100 : decode cX7_pass 100 = .ok (.dup, 1) := by decide +kernel
theorem dX7_pass_101 : decode cX7_pass 101 = .ok (.getfield 71, 3) := by decide +kernel
theorem dX7_pass_104 : decode cX7_pass 104 = .ok (.iconst 1, 1) := by decide +kernel
theorem dX7_pass_105 : decode cX7_pass 105 = .ok (.iadd, 1) := by decide +kernel
theorem dX7_pass_106 : decode cX7_pass 106 = .ok (.putfield 71, 3) := by decide +kernel
theorem dX7_pass_109 : decode cX7_pass 109 = .ok (.return_, 1) := by decide +kernel
set_option maxRecDepth 20000 in
theorem ggX7_setWeather_X7_isIn : GoodIn wsX7_setWeather wsX7_isIn := goodIn_r _ [8] (by decide +kernel) (by decide +kernel)
set_option maxRecDepth 20000 in
theorem gX7_setWeather_X7_isIn : GoodIn wsX7_setWeather (va_wsS RX7 45 yX7_isIn wsX7_isIn) := goodIn_app (goodIn_of _ (by decide +kernel)) ggX7_setWeather_X7_isIn
set_option maxRecDepth 20000 in
theorem ggX7_setWeather_X7_no : GoodIn wsX7_setWeather wsX7_no := goodIn_r _ [12, 1, 17, 18, 19, 20, 21, 22, 23, 24, 25, 26, 27, 28] (by decide +kernel) (by decide +kernel)
set_option maxRecDepth 20000 in
theorem gX7_setWeather_X7_no : GoodIn wsX7_setWeather (wsV RX7 88 RX7 yX7_no wsX7_no) := goodIn_app (goodIn_of _ (by decide +kernel)) ggX7_setWeather_X7_no
set_option maxRecDepth 20000 in
theorem ggX7_setWeather_X7_wet : GoodIn wsX7_setWeather wsX7_wet := goodIn_r _ [16, 2, 3, 17, 18, 19, 20, 21, 22, 23, 24, 25, 26, 27, 28] (by decide +kernel) (by decide +kernel)
set_option maxRecDepth 20000 in
theorem gX7_setWeather_X7_wet : GoodIn wsX7_setWeather (wsV RX7 74 RX7 yX7_wet wsX7_wet) := goodIn_app (goodIn_of _ (by decide +kernel)) ggX7_setWeather_X7_wet
theorem dX7_setWeather_0 : decode cX7_setWeather 0 = .ok (.aload_n 0, 1) := by decide +kernel
theorem dX7_setWeather_1 : decode cX7_setWeather 1 = .ok (.iconst 0, 1) := by decide +kernel
theorem dX7_setWeather_2 : decode cX7_setWeather 2 = .ok (.putfield 41, 3) := by decide +kernel
theorem dX7_setWeather_5 : decode cX7_setWeather 5 = .ok (.iload_n 1, 1) := by decide +kernel
theorem dX7_setWeather_6 : decode cX7_setWeather 6 = .ok (.iconst 0, 1) := by decide +kernel
theorem dX7_setWeather_7 : decode cX7_setWeather 7 = .ok (.bipush 23, 2) := by decide +kernel
theorem dX7_setWeather_9 : decode cX7_setWeather 9 = .ok (.invokestatic 45, 3) := by decide +kernel
theorem dX7_setWeather_12 : decode cX7_setWeather 12 = .ok (.ifCond .ne 9, 3) := by decide +kernel
theorem dX7_setWeather_15 : decode cX7_setWeather 15 = .ok (.aload_n 0, 1) := by decide +kernel
theorem dX7_setWeather_16 : decode cX7_setWeather 16 = .ok (.iconst 1, 1) := by decide +kernel
theorem dX7_setWeather_17 : decode cX7_setWeather 17 = .ok (.invokevirtual 88, 3) := by decide +kernel
theorem dX7_setWeather_20 : decode cX7_setWeather 20 = .ok (.ireturn, 1) := by decide +kernel
theorem dX7_setWeather_21 : decode cX7_setWeather 21 = .ok (.iload_n 2, 1) := by decide +kernel
theorem dX7_setWeather_22 : decode cX7_setWeather 22 = .ok (.bipush (-30), 2) := by decide +kernel
theorem dX7_setWeather_24 : decode cX7_setWeather 24 = .ok (.bipush 20, 2) := by decide +kernel
theorem dX7_setWeather_26 : decode cX7_setWeather 26 = .ok (.invokestatic 45, 3) := by decide +kernel
theorem dX7_setWeather_29 : decode cX7_setWeather 29 = .ok (.ifCond .eq 25, 3) := by decide +kernel
theorem dX7_setWeather_32 : decode cX7_setWeather 32 = .ok (.iload_n 3, 1) := by decide +kernel
theorem dX7_setWeather_33 : decode cX7_setWeather 33 = .ok (.iconst 0, 1) := by decide +kernel
theorem dX7_setWeather_34 : decode cX7_setWeather 34 = .ok (.bipush 100, 2) := by decide +kernel
theorem dX7_setWeather_36 : decode cX7_setWeather 36 = .ok (.invokestatic 45, 3) := by decide +kernel
theorem dX7_setWeather_39 : decode cX7_setWeather 39 = .ok (.ifCond .eq 15, 3) := by decide +kernel
theorem dX7_setWeather_42 : decode cX7_setWeather 42 = .ok (.iload 4, 2) := by decide +kernel
theorem dX7_setWeather_44 : decode cX7_setWeather 44 = .ok (.bipush (-9), 2) := by decide +kernel
theorem dX7_setWeather_46 : decode cX7_setWeather 46 = .ok (.bipush 9, 2) := by decide +kernel
theorem dX7_setWeather_48 : decode cX7_setWeather 48 = .ok (.invokestatic 45, 3) := by decide +kernel
theorem dX7_setWeather_51 : decode cX7_setWeather 51 = .ok (.ifCond .ne 9, 3) := by decide +kernel
theorem dX7_setWeather_54 : decode cX7_setWeather 54 = .ok (.aload_n 0, 1) := by decide +kernel
theorem dX7_setWeather_55 : decode cX7_setWeather 55 = .ok (.iconst 2, 1) := by decide +kernel
theorem dX7_setWeather_56 : decode cX7_setWeather 56 = .ok (.invokevirtual 88, 3) := by decide +kernel
theorem dX7_setWeather_59 : decode cX7_setWeather 59 = .ok (.ireturn, 1) := by decide +kernel
theorem dX7_setWeather_60 : decode cX7_setWeather 60 = .ok (.aload_n 0, 1) := by decide +kernel
theorem dX7_setWeather_61 : decode cX7_setWeather 61 = .ok (.getfield 9, 3) := by decide +kernel
theorem dX7_setWeather_64 : decode cX7_setWeather 64 = .ok (.iload_n 1, 1) := by decide +kernel
theorem dX7_setWeather_65 : decode cX7_setWeather 65 = .ok (.iload_n 2, 1) := by decide +kernel
theorem dX7_setWeather_66 : decode cX7_setWeather 66 = .ok (.iastore, 1) := by decide +kernel
theorem dX7_setWeather_67 : decode cX7_setWeather 67 = .ok (.aload_n 0, 1) := by decide +kernel
theorem dX7_setWeather_68 : decode cX7_setWeather 68 = .ok (.getfield 13, 3) := by decide +kernel
theorem dX7_setWeather_71 : decode cX7_setWeather 71 = .ok (.iload_n 1, 1) := by decide +kernel
theorem dX7_setWeather_72 : decode cX7_setWeather 72 = .ok (.iload_n 3, 1) := by decide +kernel
theorem dX7_setWeather_73 : decode cX7_setWeather 73 = .ok (.iastore, 1) := by decide +kernel
theorem dX7_setWeather_74 : decode cX7_setWeather 74 = .ok (.aload_n 0, 1) := by decide +kernel
theorem dX7_setWeather_75 : decode cX7_setWeather 75 = .ok (.getfield 16, 3) := by decide +kernel
theorem dX7_setWeather_78 : decode cX7_setWeather 78 = .ok (.iload_n 1, 1) := by decide +kernel
theorem dX7_setWeather_79 : decode cX7_setWeather 79 = .ok (.iload 4, 2) := by decide +kernel
theorem dX7_setWeather_81 : decode cX7_setWeather 81 = .ok (.iastore, 1) := by decide +kernel
theorem dX7_setWeather_82 : decode cX7_setWeather 82 = .ok (.aload_n 0, 1) := by decide +kernel
theorem dX7_setWeather_83 : decode cX7_setWeather 83 = .ok (.iload_n 1, 1) := by decide +kernel
theorem dX7_setWeather_84 : decode cX7_setWeather 84 = .ok (.invokevirtual 74, 3) := by decide +kernel
theorem dX7_setWeather_87 : decode cX7_setWeather 87 = .ok (.ireturn, 1) := by decide +kernel
set_option maxRecDepth 20000 in
theorem ggX7_pump_X7_isPart : GoodIn wsX7_pump wsX7_isPart := goodIn_r _ [8, 9, 10, 7, 11] (by decide +kernel) (by decide +kernel)
set_option maxRecDepth 20000 in
theorem gX7_pump_X7_isPart : GoodIn wsX7_pump (va_wsS RX7 91 yX7_isPart wsX7_isPart) := goodIn_app (goodIn_of _ (by decide +kernel)) ggX7_pump_X7_isPart
set_option maxRecDepth 20000 in
theorem ggX7_pump_X7_no : GoodIn wsX7_pump wsX7_no := goodIn_r _ [15, 1, 16, 17, 18, 19, 20, 21, 22, 23, 24, 25, 26, 27] (by decide +kernel) (by decide +kernel)
set_option maxRecDepth 20000 in
theorem gX7_pump_X7_no : GoodIn wsX7_pump (wsV RX7 88 RX7 yX7_no wsX7_no) := goodIn_app (goodIn_of _ (by decide +kernel)) ggX7_pump_X7_no
set_option maxRecDepth 20000 in
theorem ggX7_pump_X7_isIn : GoodIn wsX7_pump wsX7_isIn := goodIn_r _ [11] (by decide +kernel) (by decide +kernel)
set_option maxRecDepth 20000 in
theorem gX7_pump_X7_isIn : GoodIn wsX7_pump (va_wsS RX7 45 yX7_isIn wsX7_isIn) := goodIn_app (goodIn_of _ (by decide +kernel)) ggX7_pump_X7_isIn
theorem dX7_pump_0 : decode cX7_pump 0 = .ok (.aload_n 0, 1) := by decide +kernel
theorem dX7_pump_1 : decode cX7_pump 1 = .ok (.iconst 0, 1) := by decide +kernel
theorem dX7_pump_2 : decode cX7_pump 2 = .ok (.putfield 41, 3) := by decide +kernel
theorem dX7_pump_5 : decode cX7_pump 5 = .ok (.iload_n 1, 1) := by decide +kernel
theorem dX7_pump_6 : decode cX7_pump 6 = .ok (.invokestatic 91, 3) := by decide +kernel
theorem dX7_pump_9 : decode cX7_pump 9 = .ok (.ifCond .ne 9, 3) := by decide +kernel
theorem dX7_pump_12 : decode cX7_pump 12 = .ok (.aload_n 0, 1) := by decide +kernel
theorem dX7_pump_13 : decode cX7_pump 13 = .ok (.iconst 1, 1) := by decide +kernel
theorem dX7_pump_14 : decode cX7_pump 14 = .ok (.invokevirtual 88, 3) := by decide +kernel
theorem dX7_pump_17 : decode cX7_pump 17 = .ok (.ireturn, 1) := by decide +kernel
theorem dX7_pump_18 : decode cX7_pump 18 = .ok (.iload_n 2, 1) := by decide +kernel
theorem dX7_pump_19 : decode cX7_pump 19 = .ok (.iconst 1, 1) := by decide +kernel
theorem dX7_pump_20 : decode cX7_pump 20 = .ok (.bipush 9, 2) := by decide +kernel
theorem dX7_pump_22 : decode cX7_pump 22 = .ok (.invokestatic 45, 3) := by decide +kernel
theorem dX7_pump_25 : decode cX7_pump 25 = .ok (.ifCond .ne 9, 3) := by decide +kernel
theorem dX7_pump_28 : decode cX7_pump 28 = .ok (.aload_n 0, 1) := by decide +kernel
theorem dX7_pump_29 : decode cX7_pump 29 = .ok (.iconst 2, 1) := by decide +kernel
theorem dX7_pump_30 : decode cX7_pump 30 = .ok (.invokevirtual 88, 3) := by decide +kernel
theorem dX7_pump_33 : decode cX7_pump 33 = .ok (.ireturn, 1) := by decide +kernel
theorem dX7_pump_34 : decode cX7_pump 34 = .ok (.aload_n 0, 1) := by decide +kernel
theorem dX7_pump_35 : decode cX7_pump 35 = .ok (.getfield 49, 3) := by decide +kernel
theorem dX7_pump_38 : decode cX7_pump 38 = .ok (.iconst 5, 1) := by decide +kernel
theorem dX7_pump_39 : decode cX7_pump 39 = .ok (.if_icmp .ne 9, 3) := by decide +kernel
theorem dX7_pump_42 : decode cX7_pump 42 = .ok (.aload_n 0, 1) := by decide +kernel
theorem dX7_pump_43 : decode cX7_pump 43 = .ok (.iconst 3, 1) := by decide +kernel
theorem dX7_pump_44 : decode cX7_pump 44 = .ok (.invokevirtual 88, 3) := by decide +kernel
theorem dX7_pump_47 : decode cX7_pump 47 = .ok (.ireturn, 1) := by decide +kernel
theorem dX7_pump_48 : decode cX7_pump 48 = .ok (.aload_n 0, 1) := by decide +kernel
theorem dX7_pump_49 : decode cX7_pump 49 = .ok (.getfield 19, 3) := by decide +kernel
theorem dX7_pump_52 : decode cX7_pump 52 = .ok (.aload_n 0, 1) := by decide +kernel
theorem dX7_pump_53 : decode cX7_pump 53 = .ok (.getfield 49, 3) := by decide +kernel
theorem dX7_pump_56 : decode cX7_pump 56 = .ok (.iload_n 1, 1) := by decide +kernel
theorem dX7_pump_57 : decode cX7_pump 57 = .ok (.iastore, 1) := by decide +kernel
theorem dX7_pump_58 : decode cX7_pump 58 = .ok (.aload_n 0, 1) := by decide +kernel
theorem dX7_pump_59 : decode cX7_pump 59 = .ok (.getfield 22, 3) := by decide +kernel
theorem dX7_pump_62 : decode cX7_pump 62 = .ok (.aload_n 0, 1) := by decide +kernel
theorem dX7_pump_63 : decode cX7_pump 63 = .ok (.getfield 49, 3) := by decide +kernel
theorem dX7_pump_66 : decode cX7_pump 66 = .ok (.iload_n 2, 1) := by decide +kernel
theorem dX7_pump_67 : decode cX7_pump 67 = .ok (.iastore, 1) := by decide +kernel
theorem dX7_pump_68 : decode cX7_pump 68 = .ok (.aload_n 0, 1) := by decide +kernel
theorem dX7_pump_69 : decode cX7_pump 69 = .ok (.dup, 1) := by decide +kernel
theorem dX7_pump_70 : decode cX7_pump 70 = .ok (.getfield 49, 3) := by decide +kernel
theorem dX7_pump_73 : decode cX7_pump 73 = .ok (.iconst 1, 1) := by decide +kernel
theorem dX7_pump_74 : decode cX7_pump 74 = .ok (.iadd, 1) := by decide +kernel
theorem dX7_pump_75 : decode cX7_pump 75 = .ok (.putfield 49, 3) := by decide +kernel
theorem dX7_pump_78 : decode cX7_pump 78 = .ok (.aload_n 0, 1) := by decide +kernel
theorem dX7_pump_79 : decode cX7_pump 79 = .ok (.getfield 49, 3) := by decide +kernel
theorem dX7_pump_82 : decode cX7_pump 82 = .ok (.iconst 1, 1) := by decide +kernel
theorem dX7_pump_83 : decode cX7_pump 83 = .ok (.isub, 1) := by decide +kernel
theorem dX7_pump_84 : decode cX7_pump 84 = .ok (.ireturn, 1) := by decide +kernel
set_option maxRecDepth 20000 in
theorem ggX7_run_X7_isPump : GoodIn wsX7_run wsX7_isPump := goodIn_r _ [7, 8, 9, 10, 6, 11, 12, 13, 14, 15, 16, 17, 18, 19, 20, 21, 22, 23] (by decide +kernel) (by decide +kernel)
set_option maxRecDepth 20000 in
theorem gX7_run_X7_isPump : GoodIn wsX7_run (wsV RX7 95 RX7 yX7_isPump wsX7_isPump) := goodIn_app (goodIn_of _ (by decide +kernel)) ggX7_run_X7_isPump
theorem dX7_run_0 : decode cX7_run 0 = .ok (.aload_n 0, 1) := by decide +kernel
theorem dX7_run_1 : decode cX7_run 1 = .ok (.aload_n 0, 1) := by decide +kernel
theorem dX7_run_2 : decode cX7_run 2 = .ok (.iload_n 1, 1) := by decide +kernel
theorem dX7_run_3 : decode cX7_run 3 = .ok (.invokevirtual 95, 3) := by decide +kernel
theorem dX7_run_6 : decode cX7_run 6 = .ok (.ifCond .eq 7, 3) := by decide +kernel
theorem dX7_run_9 : decode cX7_run 9 = .ok (.iconst 0, 1) := by decide +kernel
theorem dX7_run_10 : decode cX7_run 10 = .ok (.goto 4, 3) := by decide +kernel
theorem dX7_run_13 : decode cX7_run 13 = .ok (.iconst 1, 1) := by decide +kernel
theorem dX7_run_14 : decode cX7_run 14 = .ok (.putfield 41, 3) := by decide +kernel
theorem dX7_run_17 : decode cX7_run 17 = .ok (.aload_n 0, 1) := by decide +kernel
theorem dX7_run_18 : decode cX7_run 18 = .ok (.getfield 41, 3) := by decide +kernel
theorem dX7_run_21 : decode cX7_run 21 = .ok (.ifCond .eq 5, 3) := by decide +kernel
theorem dX7_run_24 : decode cX7_run 24 = .ok (.iconst 0, 1) := by decide +kernel
theorem dX7_run_25 : decode cX7_run 25 = .ok (.ireturn, 1) := by decide +kernel
theorem dX7_run_26 : decode cX7_run 26 = .ok (.aload_n 0, 1) := by decide +kernel
theorem dX7_run_27 : decode cX7_run 27 = .ok (.getfield 34, 3) := by decide +kernel
theorem dX7_run_30 : decode cX7_run 30 = .ok (.getfield 52, 3) := by decide +kernel
theorem dX7_run_33 : decode cX7_run 33 = .ok (.iload_n 1, 1) := by decide +kernel
theorem dX7_run_34 : decode cX7_run 34 = .ok (.iconst 1, 1) := by decide +kernel
theorem dX7_run_35 : decode cX7_run 35 = .ok (.aload_n 0, 1) := by decide +kernel
theorem dX7_run_36 : decode cX7_run 36 = .ok (.getfield 34, 3) := by decide +kernel
theorem dX7_run_39 : decode cX7_run 39 = .ok (.getfield 52, 3) := by decide +kernel
theorem dX7_run_42 : decode cX7_run 42 = .ok (.iload_n 1, 1) := by decide +kernel
theorem dX7_run_43 : decode cX7_run 43 = .ok (.iaload, 1) := by decide +kernel
theorem dX7_run_44 : decode cX7_run 44 = .ok (.isub, 1) := by decide +kernel
theorem dX7_run_45 : decode cX7_run 45 = .ok (.iastore, 1) := by decide +kernel
theorem dX7_run_46 : decode cX7_run 46 = .ok (.aload_n 0, 1) := by decide +kernel
theorem dX7_run_47 : decode cX7_run 47 = .ok (.getfield 34, 3) := by decide +kernel
theorem dX7_run_50 : decode cX7_run 50 = .ok (.getfield 52, 3) := by decide +kernel
theorem dX7_run_53 : decode cX7_run 53 = .ok (.iload_n 1, 1) := by decide +kernel
theorem dX7_run_54 : decode cX7_run 54 = .ok (.iaload, 1) := by decide +kernel
theorem dX7_run_55 : decode cX7_run 55 = .ok (.iconst 1, 1) := by decide +kernel
theorem dX7_run_56 : decode cX7_run 56 = .ok (.if_icmp .ne 7, 3) := by decide +kernel
theorem dX7_run_59 : decode cX7_run 59 = .ok (.iconst 1, 1) := by decide +kernel
theorem dX7_run_60 : decode cX7_run 60 = .ok (.goto 4, 3) := by decide +kernel
theorem dX7_run_63 : decode cX7_run 63 = .ok (.iconst 0, 1) := by decide +kernel
theorem dX7_run_64 : decode cX7_run 64 = .ok (.ireturn, 1) := by decide +kernel
set_option maxRecDepth 20000 in
theorem ggX7_fill_X7_isIn : GoodIn wsX7_fill wsX7_isIn := goodIn_r _ [10] (by decide +kernel) (by decide +kernel)
set_option maxRecDepth 20000 in
theorem gX7_fill_X7_isIn : GoodIn wsX7_fill (va_wsS RX7 45 yX7_isIn wsX7_isIn) := goodIn_app (goodIn_of _ (by decide +kernel)) ggX7_fill_X7_isIn
set_option maxRecDepth 20000 in
theorem ggX7_fill_X7_no : GoodIn wsX7_fill wsX7_no := goodIn_r _ [14, 1, 15, 16, 17, 18, 19, 20, 21, 22, 23, 24, 25, 26] (by decide +kernel) (by decide +kernel)
set_option maxRecDepth 20000 in
theorem gX7_fill_X7_no : GoodIn wsX7_fill (wsV RX7 88 RX7 yX7_no wsX7_no) := goodIn_app (goodIn_of _ (by decide +kernel)) ggX7_fill_X7_no
theorem dX7_fill_0 : decode cX7_fill 0 = .ok (.aload_n 0, 1) := by decide +kernel
theorem dX7_fill_1 : decode cX7_fill 1 = .ok (.iconst 0, 1) := by decide +kernel
theorem dX7_fill_2 : decode cX7_fill 2 = .ok (.putfield 41, 3) := by decide +kernel
theorem dX7_fill_5 : decode cX7_fill 5 = .ok (.iload_n 1, 1) := by decide +kernel
theorem dX7_fill_6 : decode cX7_fill 6 = .ok (.iconst 1, 1) := by decide +kernel
theorem dX7_fill_7 : decode cX7_fill 7 = .ok (.sipush 9999, 3) := by decide +kernel
theorem dX7_fill_10 : decode cX7_fill 10 = .ok (.invokestatic 45, 3) := by decide +kernel
theorem dX7_fill_13 : decode cX7_fill 13 = .ok (.ifCond .ne 9, 3) := by decide +kernel
theorem dX7_fill_16 : decode cX7_fill 16 = .ok (.aload_n 0, 1) := by decide +kernel
theorem dX7_fill_17 : decode cX7_fill 17 = .ok (.iconst 1, 1) := by decide +kernel
theorem dX7_fill_18 : decode cX7_fill 18 = .ok (.invokevirtual 88, 3) := by decide +kernel
theorem dX7_fill_21 : decode cX7_fill 21 = .ok (.ireturn, 1) := by decide +kernel
theorem dX7_fill_22 : decode cX7_fill 22 = .ok (.aload_n 0, 1) := by decide +kernel
theorem dX7_fill_23 : decode cX7_fill 23 = .ok (.getfield 34, 3) := by decide +kernel
theorem dX7_fill_26 : decode cX7_fill 26 = .ok (.sipush 9999, 3) := by decide +kernel
theorem dX7_fill_29 : decode cX7_fill 29 = .ok (.aload_n 0, 1) := by decide +kernel
theorem dX7_fill_30 : decode cX7_fill 30 = .ok (.getfield 34, 3) := by decide +kernel
theorem dX7_fill_33 : decode cX7_fill 33 = .ok (.getfield 55, 3) := by decide +kernel
theorem dX7_fill_36 : decode cX7_fill 36 = .ok (.iload_n 1, 1) := by decide +kernel
theorem dX7_fill_37 : decode cX7_fill 37 = .ok (.iadd, 1) := by decide +kernel
theorem dX7_fill_38 : decode cX7_fill 38 = .ok (.invokestatic 61, 3) := by decide +kernel
theorem dX7_fill_41 : decode cX7_fill 41 = .ok (.putfield 55, 3) := by decide +kernel
theorem dX7_fill_44 : decode cX7_fill 44 = .ok (.aload_n 0, 1) := by decide +kernel
theorem dX7_fill_45 : decode cX7_fill 45 = .ok (.getfield 34, 3) := by decide +kernel
theorem dX7_fill_48 : decode cX7_fill 48 = .ok (.getfield 55, 3) := by decide +kernel
theorem dX7_fill_51 : decode cX7_fill 51 = .ok (.ireturn, 1) := by decide +kernel
set_option maxRecDepth 20000 in
theorem ggX7_groom_X7_isPart : GoodIn wsX7_groom wsX7_isPart := goodIn_r _ [6, 7, 8, 5, 9] (by decide +kernel) (by decide +kernel)
set_option maxRecDepth 20000 in
theorem gX7_groom_X7_isPart : GoodIn wsX7_groom (va_wsS RX7 91 yX7_isPart wsX7_isPart) := goodIn_app (goodIn_of _ (by decide +kernel)) ggX7_groom_X7_isPart
set_option maxRecDepth 20000 in
theorem ggX7_groom_X7_no : GoodIn wsX7_groom wsX7_no := goodIn_r _ [13, 1, 14, 15, 16, 17, 18, 19, 20, 21, 22, 23, 24, 25] (by decide +kernel) (by decide +kernel)
set_option maxRecDepth 20000 in
theorem gX7_groom_X7_no : GoodIn wsX7_groom (wsV RX7 88 RX7 yX7_no wsX7_no) := goodIn_app (goodIn_of _ (by decide +kernel)) ggX7_groom_X7_no
theorem dX7_groom_0 : decode cX7_groom 0 = .ok (.aload_n 0, 1) := by decide +kernel
theorem dX7_groom_1 : decode cX7_groom 1 = .ok (.iconst 0, 1) := by decide +kernel
theorem dX7_groom_2 : decode cX7_groom 2 = .ok (.putfield 41, 3) := by decide +kernel
theorem dX7_groom_5 : decode cX7_groom 5 = .ok (.iload_n 1, 1) := by decide +kernel
theorem dX7_groom_6 : decode cX7_groom 6 = .ok (.invokestatic 91, 3) := by decide +kernel
theorem dX7_groom_9 : decode cX7_groom 9 = .ok (.ifCond .eq 10, 3) := by decide +kernel
theorem dX7_groom_12 : decode cX7_groom 12 = .ok (.iload_n 2, 1) := by decide +kernel
theorem dX7_groom_13 : decode cX7_groom 13 = .ok (.invokestatic 91, 3) := by decide +kernel
theorem dX7_groom_16 : decode cX7_groom 16 = .ok (.ifCond .ne 9, 3) := by decide +kernel
theorem dX7_groom_19 : decode cX7_groom 19 = .ok (.aload_n 0, 1) := by decide +kernel
theorem dX7_groom_20 : decode cX7_groom 20 = .ok (.iconst 1, 1) := by decide +kernel
theorem dX7_groom_21 : decode cX7_groom 21 = .ok (.invokevirtual 88, 3) := by decide +kernel
theorem dX7_groom_24 : decode cX7_groom 24 = .ok (.ireturn, 1) := by decide +kernel
theorem dX7_groom_25 : decode cX7_groom 25 = .ok (.iload_n 1, 1) := by decide +kernel
theorem dX7_groom_26 : decode cX7_groom 26 = .ok (.iload_n 2, 1) := by decide +kernel
theorem dX7_groom_27 : decode cX7_groom 27 = .ok (.if_icmp .le 9, 3) := by decide +kernel
theorem dX7_groom_30 : decode cX7_groom 30 = .ok (.aload_n 0, 1) := by decide +kernel
theorem dX7_groom_31 : decode cX7_groom 31 = .ok (.iconst 2, 1) := by decide +kernel
theorem dX7_groom_32 : decode cX7_groom 32 = .ok (.invokevirtual 88, 3) := by decide +kernel
theorem dX7_groom_35 : decode cX7_groom 35 = .ok (.ireturn, 1) := by decide +kernel
theorem dX7_groom_36 : decode cX7_groom 36 = .ok (.iconst 0, 1) := by decide +kernel
theorem dX7_groom_37 : decode cX7_groom 37 = .ok (.istore_n 3, 1) := by decide +kernel
theorem dX7_groom_38 : decode cX7_groom 38 = .ok (.iload_n 1, 1) := by decide +kernel
theorem dX7_groom_39 : decode cX7_groom 39 = .ok (.istore 4, 2) := by decide +kernel
theorem dX7_groom_41 : decode cX7_groom 41 = .ok (.iload 4, 2) := by decide +kernel
theorem dX7_groom_43 : decode cX7_groom 43 = .ok (.iload_n 2, 1) := by decide +kernel
theorem dX7_groom_44 : decode cX7_groom 44 = .ok (.if_icmp .gt 33, 3) := by decide +kernel
theorem dX7_groom_47 : decode cX7_groom 47 = .ok (.iload_n 3, 1) := by decide +kernel
theorem dX7_groom_48 : decode cX7_groom 48 = .ok (.aload_n 0, 1) := by decide +kernel
theorem dX7_groom_49 : decode cX7_groom 49 = .ok (.getfield 34, 3) := by decide +kernel
theorem dX7_groom_52 : decode cX7_groom 52 = .ok (.getfield 82, 3) := by decide +kernel
theorem dX7_groom_55 : decode cX7_groom 55 = .ok (.iload 4, 2) := by decide +kernel
theorem dX7_groom_57 : decode cX7_groom 57 = .ok (.iaload, 1) := by decide +kernel
theorem dX7_groom_58 : decode cX7_groom 58 = .ok (.iadd, 1) := by decide +kernel
theorem dX7_groom_59 : decode cX7_groom 59 = .ok (.istore_n 3, 1) := by decide +kernel
theorem dX7_groom_60 : decode cX7_groom 60 = .ok (.aload_n 0, 1) := by decide +kernel
theorem dX7_groom_61 : decode cX7_groom 61 = .ok (.getfield 34, 3) := by decide +kernel
theorem dX7_groom_64 : decode cX7_groom 64 = .ok (.getfield 58, 3) := by decide +kernel
theorem dX7_groom_67 : decode cX7_groom 67 = .ok (.iload 4, 2) := by decide +kernel
theorem dX7_groom_69 : decode cX7_groom 69 = .ok (.iconst 0, 1) := by decide +kernel
theorem dX7_groom_70 : decode cX7_groom 70 = .ok (.iastore, 1) := by decide +kernel
theorem dX7_groom_71 : decode cX7_groom 71 = .ok (.iinc 4 1, 3) := by decide +kernel
theorem dX7_groom_74 : decode cX7_groom 74 = .ok (.goto (-33), 3) := by decide +kernel
theorem dX7_groom_77 : decode cX7_groom 77 = .ok (.iload_n 3, 1) := by decide +kernel
theorem dX7_groom_78 : decode cX7_groom 78 = .ok (.istore 4, 2) := by decide +kernel
theorem dX7_groom_80 : decode cX7_groom 80 = .ok (.iload_n 2, 1) := by decide +kernel
theorem dX7_groom_81 : decode cX7_groom 81 = .ok (.istore 5, 2) := by decide +kernel
theorem dX7_groom_83 : decode cX7_groom 83 = .ok (.iload 5, 2) := by decide +kernel
theorem dX7_groom_85 : decode cX7_groom 85 = .ok (.iload_n 1, 1) := by decide +kernel
theorem dX7_groom_86 : decode cX7_groom 86 = .ok (.if_icmp .lt 43, 3) := by decide +kernel
theorem dX7_groom_89 : decode cX7_groom 89 = .ok (.aload_n 0, 1) := by decide +kernel
theorem dX7_groom_90 : decode cX7_groom 90 = .ok (.getfield 34, 3) := by decide +kernel
theorem dX7_groom_93 : decode cX7_groom 93 = .ok (.getfield 82, 3) := by decide +kernel
theorem dX7_groom_96 : decode cX7_groom 96 = .ok (.iload 5, 2) := by decide +kernel
theorem dX7_groom_98 : decode cX7_groom 98 = .ok (.iload 4, 2) := by decide +kernel
theorem dX7_groom_100 : decode cX7_groom 100 = .ok (.iload 5, 2) := by decide +kernel
theorem dX7_groom_102 : decode cX7_groom 102 = .ok (.iload_n 1, 1) := by decide +kernel
theorem dX7_groom_103 : decode cX7_groom 103 = .ok (.isub, 1) := by decide +kernel
theorem dX7_groom_104 : decode cX7_groom 104 = .ok (.iconst 1, 1) := by decide +kernel
theorem dX7_groom_105 : decode cX7_groom 105 = .ok (.iadd, 1) := by decide +kernel
theorem dX7_groom_106 : decode cX7_groom 106 = .ok (.idiv, 1) := by decide +kernel
theorem dX7_groom_107 : decode cX7_groom 107 = .ok (.iastore, 1) := by decide +kernel
theorem dX7_groom_108 : decode cX7_groom 108 = .ok (.iload 4, 2) := by decide +kernel
theorem dX7_groom_110 : decode cX7_groom 110 = .ok (.aload_n 0, 1) := by decide +kernel
theorem dX7_groom_111 : decode cX7_groom 111 = .ok (.getfield 34, 3) := by decide +kernel
theorem dX7_groom_114 : decode cX7_groom 114 = .ok (.getfield 82, 3) := by decide +kernel
theorem dX7_groom_117 : decode cX7_groom 117 = .ok (.iload 5, 2) := by decide +kernel
theorem dX7_groom_119 : decode cX7_groom 119 = .ok (.iaload, 1) := by decide +kernel
theorem dX7_groom_120 : decode cX7_groom 120 = .ok (.isub, 1) := by decide +kernel
theorem dX7_groom_121 : decode cX7_groom 121 = .ok (.istore 4, 2) := by decide +kernel
theorem dX7_groom_123 : decode cX7_groom 123 = .ok (.iinc 5 (-1), 3) := by decide +kernel
theorem dX7_groom_126 : decode cX7_groom 126 = .ok (.goto (-43), 3) := by decide +kernel
theorem dX7_groom_129 : decode cX7_groom 129 = .ok (.iload_n 3, 1) := by decide +kernel
theorem dX7_groom_130 : decode cX7_groom 130 = .ok (.ireturn, 1) := by decide +kernel
set_option maxRecDepth 20000 in
theorem ggX7_judge_X7_isIn : GoodIn wsX7_judge wsX7_isIn := goodIn_r _ [6] (by decide +kernel) (by decide +kernel)
set_option maxRecDepth 20000 in
theorem gX7_judge_X7_isIn : GoodIn wsX7_judge (va_wsS RX7 45 yX7_isIn wsX7_isIn) := goodIn_app (goodIn_of _ (by decide +kernel)) ggX7_judge_X7_isIn
set_option maxRecDepth 20000 in
theorem ggX7_judge_X7_no : GoodIn wsX7_judge wsX7_no := goodIn_r _ [10, 1, 11, 12, 13, 14, 15, 16, 17, 18, 19, 20, 21, 22] (by decide +kernel) (by decide +kernel)
set_option maxRecDepth 20000 in
theorem gX7_judge_X7_no : GoodIn wsX7_judge (wsV RX7 88 RX7 yX7_no wsX7_no) := goodIn_app (goodIn_of _ (by decide +kernel)) ggX7_judge_X7_no
theorem dX7_judge_0 : decode cX7_judge 0 = .ok (.aload_n 0, 1) := by decide +kernel
theorem dX7_judge_1 : decode cX7_judge 1 = .ok (.iconst 0, 1) := by decide +kernel
theorem dX7_judge_2 : decode cX7_judge 2 = .ok (.putfield 41, 3) := by decide +kernel
theorem dX7_judge_5 : decode cX7_judge 5 = .ok (.iload_n 1, 1) := by decide +kernel
theorem dX7_judge_6 : decode cX7_judge 6 = .ok (.iconst 0, 1) := by decide +kernel
theorem dX7_judge_7 : decode cX7_judge 7 = .ok (.iconst 4, 1) := by decide +kernel
theorem dX7_judge_8 : decode cX7_judge 8 = .ok (.invokestatic 45, 3) := by decide +kernel
theorem dX7_judge_11 : decode cX7_judge 11 = .ok (.ifCond .ne 9, 3) := by decide +kernel
theorem dX7_judge_14 : decode cX7_judge 14 = .ok (.aload_n 0, 1) := by decide +kernel
theorem dX7_judge_15 : decode cX7_judge 15 = .ok (.iconst 1, 1) := by decide +kernel
theorem dX7_judge_16 : decode cX7_judge 16 = .ok (.invokevirtual 88, 3) := by decide +kernel
theorem dX7_judge_19 : decode cX7_judge 19 = .ok (.ireturn, 1) := by decide +kernel
theorem dX7_judge_20 : decode cX7_judge 20 = .ok (.iload_n 2, 1) := by decide +kernel
theorem dX7_judge_21 : decode cX7_judge 21 = .ok (.iconst 0, 1) := by decide +kernel
theorem dX7_judge_22 : decode cX7_judge 22 = .ok (.iconst 4, 1) := by decide +kernel
theorem dX7_judge_23 : decode cX7_judge 23 = .ok (.invokestatic 45, 3) := by decide +kernel
theorem dX7_judge_26 : decode cX7_judge 26 = .ok (.ifCond .ne 9, 3) := by decide +kernel
theorem dX7_judge_29 : decode cX7_judge 29 = .ok (.aload_n 0, 1) := by decide +kernel
theorem dX7_judge_30 : decode cX7_judge 30 = .ok (.iconst 2, 1) := by decide +kernel
theorem dX7_judge_31 : decode cX7_judge 31 = .ok (.invokevirtual 88, 3) := by decide +kernel
theorem dX7_judge_34 : decode cX7_judge 34 = .ok (.ireturn, 1) := by decide +kernel
theorem dX7_judge_35 : decode cX7_judge 35 = .ok (.aload_n 0, 1) := by decide +kernel
theorem dX7_judge_36 : decode cX7_judge 36 = .ok (.getfield 25, 3) := by decide +kernel
theorem dX7_judge_39 : decode cX7_judge 39 = .ok (.iload_n 1, 1) := by decide +kernel
theorem dX7_judge_40 : decode cX7_judge 40 = .ok (.iaload, 1) := by decide +kernel
theorem dX7_judge_41 : decode cX7_judge 41 = .ok (.istore_n 3, 1) := by decide +kernel
theorem dX7_judge_42 : decode cX7_judge 42 = .ok (.aload_n 0, 1) := by decide +kernel
theorem dX7_judge_43 : decode cX7_judge 43 = .ok (.getfield 25, 3) := by decide +kernel
theorem dX7_judge_46 : decode cX7_judge 46 = .ok (.iload_n 1, 1) := by decide +kernel
theorem dX7_judge_47 : decode cX7_judge 47 = .ok (.iload_n 2, 1) := by decide +kernel
theorem dX7_judge_48 : decode cX7_judge 48 = .ok (.iastore, 1) := by decide +kernel
theorem dX7_judge_49 : decode cX7_judge 49 = .ok (.iload_n 3, 1) := by decide +kernel
theorem dX7_judge_50 : decode cX7_judge 50 = .ok (.ireturn, 1) := by decide +kernel
theorem dX7_gustNow_0 : decode cX7_gustNow 0 = .ok (.aload_n 0, 1) := by decide +kernel
theorem dX7_gustNow_1 : decode cX7_gustNow 1 = .ok (.getfield 16, 3) := by decide +kernel
theorem dX7_gustNow_4 : decode cX7_gustNow 4 = .ok (.aload_n 0, 1) := by decide +kernel
theorem dX7_gustNow_5 : decode cX7_gustNow 5 = .ok (.getfield 34, 3) := by decide +kernel
theorem dX7_gustNow_8 : decode cX7_gustNow 8 = .ok (.getfield 71, 3) := by decide +kernel
theorem dX7_gustNow_11 : decode cX7_gustNow 11 = .ok (.bipush 24, 2) := by decide +kernel
theorem dX7_gustNow_13 : decode cX7_gustNow 13 = .ok (.irem, 1) := by decide +kernel
theorem dX7_gustNow_14 : decode cX7_gustNow 14 = .ok (.iaload, 1) := by decide +kernel
theorem dX7_gustNow_15 : decode cX7_gustNow 15 = .ok (.ireturn, 1) := by decide +kernel
set_option maxRecDepth 20000 in
theorem ggX7_length_X7_gustNow : GoodIn wsX7_length wsX7_gustNow := goodIn_r _ [12, 13, 14, 15, 16, 17, 18, 19, 20, 21, 22, 23, 24, 25, 26, 27, 28, 29, 30, 31] (by decide +kernel) (by decide +kernel)
set_option maxRecDepth 20000 in
theorem gX7_length_X7_gustNow : GoodIn wsX7_length (wsV RX7 98 RX7 yX7_gustNow wsX7_gustNow) := goodIn_app (goodIn_of _ (by decide +kernel)) ggX7_length_X7_gustNow
theorem dX7_length_0 : decode cX7_length 0 = .ok (.iconst 0, 1) := by decide +kernel
theorem dX7_length_1 : decode cX7_length 1 = .ok (.bipush 99, 2) := by decide +kernel
theorem dX7_length_3 : decode cX7_length 3 = .ok (.iconst 4, 1) := by decide +kernel
theorem dX7_length_4 : decode cX7_length 4 = .ok (.iload_n 1, 1) := by decide +kernel
theorem dX7_length_5 : decode cX7_length 5 = .ok (.imul, 1) := by decide +kernel
theorem dX7_length_6 : decode cX7_length 6 = .ok (.iconst 2, 1) := by decide +kernel
theorem dX7_length_7 : decode cX7_length 7 = .ok (.aload_n 0, 1) := by decide +kernel
theorem dX7_length_8 : decode cX7_length 8 = .ok (.invokevirtual 98, 3) := by decide +kernel
theorem dX7_length_11 : decode cX7_length 11 = .ok (.imul, 1) := by decide +kernel
theorem dX7_length_12 : decode cX7_length 12 = .ok (.iadd, 1) := by decide +kernel
theorem dX7_length_13 : decode cX7_length 13 = .ok (.iload_n 2, 1) := by decide +kernel
theorem dX7_length_14 : decode cX7_length 14 = .ok (.iconst 4, 1) := by decide +kernel
theorem dX7_length_15 : decode cX7_length 15 = .ok (.idiv, 1) := by decide +kernel
theorem dX7_length_16 : decode cX7_length 16 = .ok (.iadd, 1) := by decide +kernel
theorem dX7_length_17 : decode cX7_length 17 = .ok (.invokestatic 61, 3) := by decide +kernel
theorem dX7_length_20 : decode cX7_length 20 = .ok (.invokestatic 85, 3) := by decide +kernel
theorem dX7_length_23 : decode cX7_length 23 = .ok (.ireturn, 1) := by decide +kernel
set_option maxRecDepth 20000 in
theorem ggX7_jump_X7_isIn : GoodIn wsX7_jump wsX7_isIn := goodIn_r _ [24] (by decide +kernel) (by decide +kernel)
set_option maxRecDepth 20000 in
theorem gX7_jump_X7_isIn : GoodIn wsX7_jump (va_wsS RX7 45 yX7_isIn wsX7_isIn) := goodIn_app (goodIn_of _ (by decide +kernel)) ggX7_jump_X7_isIn
set_option maxRecDepth 20000 in
theorem ggX7_jump_X7_no : GoodIn wsX7_jump wsX7_no := goodIn_r _ [28, 1, 45, 46, 47, 48, 49, 50, 51, 52, 53, 54, 55, 56] (by decide +kernel) (by decide +kernel)
set_option maxRecDepth 20000 in
theorem gX7_jump_X7_no : GoodIn wsX7_jump (wsV RX7 88 RX7 yX7_no wsX7_no) := goodIn_app (goodIn_of _ (by decide +kernel)) ggX7_jump_X7_no
set_option maxRecDepth 20000 in
theorem ggX7_jump_X7_length : GoodIn wsX7_jump wsX7_length := goodIn_r _ [32, 9, 10, 7, 11, 12, 13, 14, 33, 34, 35, 23, 36, 37, 3, 45, 46, 47, 48, 49, 50, 51, 52, 53, 54, 55, 56, 57, 58, 59, 60, 61] (by decide +kernel) (by decide +kernel)
set_option maxRecDepth 20000 in
theorem gX7_jump_X7_length : GoodIn wsX7_jump (wsV RX7 105 RX7 yX7_length wsX7_length) := goodIn_app (goodIn_of _ (by decide +kernel)) ggX7_jump_X7_length
set_option maxRecDepth 20000 in
theorem ggX7_jump_X6_isBad : GoodIn wsX7_jump wsX6_isBad := goodIn_r _ [42, 43, 44, 57, 58, 59, 60, 61] (by decide +kernel) (by decide +kernel)
set_option maxRecDepth 20000 in
theorem gX7_jump_X6_isBad : GoodIn wsX7_jump (wsV RX7 108 RX6 yX6_isBad wsX6_isBad) := goodIn_app (goodIn_of _ (by decide +kernel)) ggX7_jump_X6_isBad
set_option maxRecDepth 20000 in
theorem ggX7_jump_X7_gustNow : GoodIn wsX7_jump wsX7_gustNow := goodIn_r _ [36, 37, 3, 45, 46, 47, 48, 49, 50, 51, 52, 53, 54, 55, 56, 57, 58, 59, 60, 61] (by decide +kernel) (by decide +kernel)
set_option maxRecDepth 20000 in
theorem gX7_jump_X7_gustNow : GoodIn wsX7_jump (wsV RX7 98 RX7 yX7_gustNow wsX7_gustNow) := goodIn_app (goodIn_of _ (by decide +kernel)) ggX7_jump_X7_gustNow
theorem dX7_jump_0 : decode cX7_jump 0 = .ok (.aload_n 0, 1) := by decide +kernel
theorem dX7_jump_1 : decode cX7_jump 1 = .ok (.iconst 0, 1) := by decide +kernel
theorem dX7_jump_2 : decode cX7_jump 2 = .ok (.putfield 41, 3) := by decide +kernel
theorem dX7_jump_5 : decode cX7_jump 5 = .ok (.iload_n 1, 1) := by decide +kernel
theorem dX7_jump_6 : decode cX7_jump 6 = .ok (.iconst 0, 1) := by decide +kernel
theorem dX7_jump_7 : decode cX7_jump 7 = .ok (.bipush 9, 2) := by decide +kernel
theorem dX7_jump_9 : decode cX7_jump 9 = .ok (.invokestatic 45, 3) := by decide +kernel
theorem dX7_jump_12 : decode cX7_jump 12 = .ok (.ifCond .eq 23, 3) := by decide +kernel
theorem dX7_jump_15 : decode cX7_jump 15 = .ok (.iload_n 2, 1) := by decide +kernel
theorem dX7_jump_16 : decode cX7_jump 16 = .ok (.iconst 1, 1) := by decide +kernel
theorem dX7_jump_17 : decode cX7_jump 17 = .ok (.bipush 20, 2) := by decide +kernel
theorem dX7_jump_19 : decode cX7_jump 19 = .ok (.invokestatic 45, 3) := by decide +kernel
theorem dX7_jump_22 : decode cX7_jump 22 = .ok (.ifCond .eq 13, 3) := by decide +kernel
theorem dX7_jump_25 : decode cX7_jump 25 = .ok (.iload_n 3, 1) := by decide +kernel
theorem dX7_jump_26 : decode cX7_jump 26 = .ok (.iconst 0, 1) := by decide +kernel
theorem dX7_jump_27 : decode cX7_jump 27 = .ok (.bipush 20, 2) := by decide +kernel
theorem dX7_jump_29 : decode cX7_jump 29 = .ok (.invokestatic 45, 3) := by decide +kernel
theorem dX7_jump_32 : decode cX7_jump 32 = .ok (.ifCond .ne 9, 3) := by decide +kernel
theorem dX7_jump_35 : decode cX7_jump 35 = .ok (.aload_n 0, 1) := by decide +kernel
theorem dX7_jump_36 : decode cX7_jump 36 = .ok (.iconst 1, 1) := by decide +kernel
theorem dX7_jump_37 : decode cX7_jump 37 = .ok (.invokevirtual 88, 3) := by decide +kernel
theorem dX7_jump_40 : decode cX7_jump 40 = .ok (.ireturn, 1) := by decide +kernel
theorem dX7_jump_41 : decode cX7_jump 41 = .ok (.aload_n 0, 1) := by decide +kernel
theorem dX7_jump_42 : decode cX7_jump 42 = .ok (.getfield 102, 3) := by decide +kernel
theorem dX7_jump_45 : decode cX7_jump 45 = .ok (.bipush 30, 2) := by decide +kernel
theorem dX7_jump_47 : decode cX7_jump 47 = .ok (.if_icmp .ne 9, 3) := by decide +kernel
theorem dX7_jump_50 : decode cX7_jump 50 = .ok (.aload_n 0, 1) := by decide +kernel
theorem dX7_jump_51 : decode cX7_jump 51 = .ok (.iconst 2, 1) := by decide +kernel
theorem dX7_jump_52 : decode cX7_jump 52 = .ok (.invokevirtual 88, 3) := by decide +kernel
theorem dX7_jump_55 : decode cX7_jump 55 = .ok (.ireturn, 1) := by decide +kernel
theorem dX7_jump_56 : decode cX7_jump 56 = .ok (.aload_n 0, 1) := by decide +kernel
theorem dX7_jump_57 : decode cX7_jump 57 = .ok (.iload_n 2, 1) := by decide +kernel
theorem dX7_jump_58 : decode cX7_jump 58 = .ok (.iload_n 3, 1) := by decide +kernel
theorem dX7_jump_59 : decode cX7_jump 59 = .ok (.invokevirtual 105, 3) := by decide +kernel
theorem dX7_jump_62 : decode cX7_jump 62 = .ok (.istore 4, 2) := by decide +kernel
theorem dX7_jump_64 : decode cX7_jump 64 = .ok (.iload 4, 2) := by decide +kernel
theorem dX7_jump_66 : decode cX7_jump 66 = .ok (.iconst 5, 1) := by decide +kernel
theorem dX7_jump_67 : decode cX7_jump 67 = .ok (.idiv, 1) := by decide +kernel
theorem dX7_jump_68 : decode cX7_jump 68 = .ok (.istore 5, 2) := by decide +kernel
theorem dX7_jump_70 : decode cX7_jump 70 = .ok (.aload_n 0, 1) := by decide +kernel
theorem dX7_jump_71 : decode cX7_jump 71 = .ok (.getfield 34, 3) := by decide +kernel
theorem dX7_jump_74 : decode cX7_jump 74 = .ok (.iload 5, 2) := by decide +kernel
theorem dX7_jump_76 : decode cX7_jump 76 = .ok (.invokevirtual 108, 3) := by decide +kernel
theorem dX7_jump_79 : decode cX7_jump 79 = .ok (.istore 6, 2) := by decide +kernel
theorem dX7_jump_81 : decode cX7_jump 81 = .ok (.iconst 0, 1) := by decide +kernel
theorem dX7_jump_82 : decode cX7_jump 82 = .ok (.istore 7, 2) := by decide +kernel
theorem dX7_jump_84 : decode cX7_jump 84 = .ok (.iconst 0, 1) := by decide +kernel
theorem dX7_jump_85 : decode cX7_jump 85 = .ok (.istore 8, 2) := by decide +kernel
theorem dX7_jump_87 : decode cX7_jump 87 = .ok (.bipush 20, 2) := by decide +kernel
theorem dX7_jump_89 : decode cX7_jump 89 = .ok (.istore 9, 2) := by decide +kernel
theorem dX7_jump_91 : decode cX7_jump 91 = .ok (.aload_n 0, 1) := by decide +kernel
theorem dX7_jump_92 : decode cX7_jump 92 = .ok (.getfield 25, 3) := by decide +kernel
theorem dX7_jump_95 : decode cX7_jump 95 = .ok (.astore 10, 2) := by decide +kernel
theorem dX7_jump_97 : decode cX7_jump 97 = .ok (.aload 10, 2) := by decide +kernel
theorem dX7_jump_99 : decode cX7_jump 99 = .ok (.arraylength, 1) := by decide +kernel
theorem dX7_jump_100 : decode cX7_jump 100 = .ok (.istore 11, 2) := by decide +kernel
theorem dX7_jump_102 : decode cX7_jump 102 = .ok (.iconst 0, 1) := by decide +kernel
theorem dX7_jump_103 : decode cX7_jump 103 = .ok (.istore 12, 2) := by decide +kernel
theorem dX7_jump_105 : decode cX7_jump 105 = .ok (.iload 12, 2) := by decide +kernel
theorem dX7_jump_107 : decode cX7_jump 107 = .ok (.iload 11, 2) := by decide +kernel
theorem dX7_jump_109 : decode cX7_jump 109 = .ok (.if_icmp .ge 76, 3) := by decide +kernel
theorem dX7_jump_112 : decode cX7_jump 112 = .ok (.aload 10, 2) := by decide +kernel
theorem dX7_jump_114 : decode cX7_jump 114 = .ok (.iload 12, 2) := by decide +kernel
theorem dX7_jump_116 : decode cX7_jump 116 = .ok (.iaload, 1) := by decide +kernel
theorem dX7_jump_117 : decode cX7_jump 117 = .ok (.istore 13, 2) := by decide +kernel
theorem dX7_jump_119 : decode cX7_jump 119 = .ok (.iconst 0, 1) := by decide +kernel
theorem dX7_jump_120 : decode cX7_jump 120 = .ok (.bipush 20, 2) := by decide +kernel
theorem dX7_jump_122 : decode cX7_jump 122 = .ok (.iload_n 3, 1) := by decide +kernel
theorem dX7_jump_123 : decode cX7_jump 123 = .ok (.aload_n 0, 1) := by decide +kernel
theorem dX7_jump_124 : decode cX7_jump 124 = .ok (.invokevirtual 98, 3) := by decide +kernel
theorem dX7_jump_127 : decode cX7_jump 127 = .ok (.invokestatic 111, 3) := by decide +kernel
theorem dX7_jump_130 : decode cX7_jump 130 = .ok (.isub, 1) := by decide +kernel
theorem dX7_jump_131 : decode cX7_jump 131 = .ok (.iload 13, 2) := by decide +kernel
theorem dX7_jump_133 : decode cX7_jump 133 = .ok (.isub, 1) := by decide +kernel
theorem dX7_jump_134 : decode cX7_jump 134 = .ok (.iload 6, 2) := by decide +kernel
theorem dX7_jump_136 : decode cX7_jump 136 = .ok (.ifCond .eq 8, 3) := by decide +kernel
theorem dX7_jump_139 : decode cX7_jump 139 = .ok (.bipush 8, 2) := by decide +kernel
theorem dX7_jump_141 : decode cX7_jump 141 = .ok (.goto 4, 3) := by decide +kernel
theorem dX7_jump_144 : decode cX7_jump 144 = .ok (.iconst 0, 1) := by decide +kernel
theorem dX7_jump_145 : decode cX7_jump 145 = .ok (.isub, 1) := by decide +kernel
theorem dX7_jump_146 : decode cX7_jump 146 = .ok (.invokestatic 61, 3) := by decide +kernel
theorem dX7_jump_149 : decode cX7_jump 149 = .ok (.invokestatic 85, 3) := by decide +kernel
theorem dX7_jump_152 : decode cX7_jump 152 = .ok (.istore 14, 2) := by decide +kernel
theorem dX7_jump_154 : decode cX7_jump 154 = .ok (.iload 7, 2) := by decide +kernel
theorem dX7_jump_156 : decode cX7_jump 156 = .ok (.iload 14, 2) := by decide +kernel
theorem dX7_jump_158 : decode cX7_jump 158 = .ok (.iadd, 1) := by decide +kernel
theorem dX7_jump_159 : decode cX7_jump 159 = .ok (.istore 7, 2) := by decide +kernel
theorem dX7_jump_161 : decode cX7_jump 161 = .ok (.iload 8, 2) := by decide +kernel
theorem dX7_jump_163 : decode cX7_jump 163 = .ok (.iload 14, 2) := by decide +kernel
theorem dX7_jump_165 : decode cX7_jump 165 = .ok (.invokestatic 85, 3) := by decide +kernel
theorem dX7_jump_168 : decode cX7_jump 168 = .ok (.istore 8, 2) := by decide +kernel
theorem dX7_jump_170 : decode cX7_jump 170 = .ok (.iload 9, 2) := by decide +kernel
theorem dX7_jump_172 : decode cX7_jump 172 = .ok (.iload 14, 2) := by decide +kernel
theorem dX7_jump_174 : decode cX7_jump 174 = .ok (.invokestatic 61, 3) := by decide +kernel
theorem dX7_jump_177 : decode cX7_jump 177 = .ok (.istore 9, 2) := by decide +kernel
theorem dX7_jump_179 : decode cX7_jump 179 = .ok (.iinc 12 1, 3) := by decide +kernel
theorem dX7_jump_182 : decode cX7_jump 182 = .ok (.goto (-77), 3) := by decide +kernel
theorem dX7_jump_185 : decode cX7_jump 185 = .ok (.iconst 5, 1) := by decide +kernel
theorem dX7_jump_186 : decode cX7_jump 186 = .ok (.newarray .int, 2) := by decide +kernel
theorem dX7_jump_188 : decode cX7_jump 188 = .ok (.dup, 1) := by decide +kernel
theorem dX7_jump_189 : decode cX7_jump 189 = .ok (.iconst 0, 1) := by decide +kernel
theorem dX7_jump_190 : decode cX7_jump 190 = .ok (.iload_n 1, 1) := by decide +kernel
theorem dX7_jump_191 : decode cX7_jump 191 = .ok (.iastore, 1) := by decide +kernel
theorem dX7_jump_192 : decode cX7_jump 192 = .ok (.dup, 1) := by decide +kernel
theorem dX7_jump_193 : decode cX7_jump 193 = .ok (.iconst 1, 1) := by decide +kernel
theorem dX7_jump_194 : decode cX7_jump 194 = .ok (.iload 4, 2) := by decide +kernel
theorem dX7_jump_196 : decode cX7_jump 196 = .ok (.iastore, 1) := by decide +kernel
theorem dX7_jump_197 : decode cX7_jump 197 = .ok (.dup, 1) := by decide +kernel
theorem dX7_jump_198 : decode cX7_jump 198 = .ok (.iconst 2, 1) := by decide +kernel
theorem dX7_jump_199 : decode cX7_jump 199 = .ok (.iload 4, 2) := by decide +kernel
theorem dX7_jump_201 : decode cX7_jump 201 = .ok (.iload 7, 2) := by decide +kernel
theorem dX7_jump_203 : decode cX7_jump 203 = .ok (.iadd, 1) := by decide +kernel
theorem dX7_jump_204 : decode cX7_jump 204 = .ok (.iload 8, 2) := by decide +kernel
theorem dX7_jump_206 : decode cX7_jump 206 = .ok (.isub, 1) := by decide +kernel
theorem dX7_jump_207 : decode cX7_jump 207 = .ok (.iload 9, 2) := by decide +kernel
theorem dX7_jump_209 : decode cX7_jump 209 = .ok (.isub, 1) := by decide +kernel
theorem dX7_jump_210 : decode cX7_jump 210 = .ok (.iastore, 1) := by decide +kernel
theorem dX7_jump_211 : decode cX7_jump 211 = .ok (.dup, 1) := by decide +kernel
theorem dX7_jump_212 : decode cX7_jump 212 = .ok (.iconst 3, 1) := by decide +kernel
theorem dX7_jump_213 : decode cX7_jump 213 = .ok (.iload 6, 2) := by decide +kernel
theorem dX7_jump_215 : decode cX7_jump 215 = .ok (.ifCond .eq 7, 3) := by decide +kernel
theorem dX7_jump_218 : decode cX7_jump 218 = .ok (.iconst 1, 1) := by decide +kernel
theorem dX7_jump_219 : decode cX7_jump 219 = .ok (.goto 4, 3) := by decide +kernel
theorem dX7_jump_222 : decode cX7_jump 222 = .ok (.iconst 0, 1) := by decide +kernel
theorem dX7_jump_223 : decode cX7_jump 223 = .ok (.iastore, 1) := by decide +kernel
theorem dX7_jump_224 : decode cX7_jump 224 = .ok (.dup, 1) := by decide +kernel
theorem dX7_jump_225 : decode cX7_jump 225 = .ok (.iconst 4, 1) := by decide +kernel
theorem dX7_jump_226 : decode cX7_jump 226 = .ok (.aload_n 0, 1) := by decide +kernel
theorem dX7_jump_227 : decode cX7_jump 227 = .ok (.getfield 34, 3) := by decide +kernel
theorem dX7_jump_230 : decode cX7_jump 230 = .ok (.getfield 71, 3) := by decide +kernel
theorem dX7_jump_233 : decode cX7_jump 233 = .ok (.iastore, 1) := by decide +kernel
theorem dX7_jump_234 : decode cX7_jump 234 = .ok (.astore 10, 2) := by decide +kernel
theorem dX7_jump_236 : decode cX7_jump 236 = .ok (.aload 10, 2) := by decide +kernel
theorem dX7_jump_238 : decode cX7_jump 238 = .ok (.iconst 0, 1) := by decide +kernel
theorem dX7_jump_239 : decode cX7_jump 239 = .ok (.aload_n 0, 1) := by decide +kernel
theorem dX7_jump_240 : decode cX7_jump 240 = .ok (.getfield 28, 3) := by decide +kernel
theorem dX7_jump_243 : decode cX7_jump 243 = .ok (.iconst 5, 1) := by decide +kernel
theorem dX7_jump_244 : decode cX7_jump 244 = .ok (.aload_n 0, 1) := by decide +kernel
theorem dX7_jump_245 : decode cX7_jump 245 = .ok (.getfield 102, 3) := by decide +kernel
theorem dX7_jump_248 : decode cX7_jump 248 = .ok (.imul, 1) := by decide +kernel
theorem dX7_jump_249 : decode cX7_jump 249 = .ok (.iconst 5, 1) := by decide +kernel
theorem dX7_jump_250 : decode cX7_jump 250 = .ok (.invokestatic 114, 3) := by decide +kernel
theorem dX7_jump_253 : decode cX7_jump 253 = .ok (.aload_n 0, 1) := by decide +kernel
theorem dX7_jump_254 : decode cX7_jump 254 = .ok (.dup, 1) := by decide +kernel
theorem dX7_jump_255 : decode cX7_jump 255 = .ok (.getfield 102, 3) := by decide +kernel
theorem dX7_jump_258 : decode cX7_jump 258 = .ok (.iconst 1, 1) := by decide +kernel
theorem dX7_jump_259 : decode cX7_jump 259 = .ok (.iadd, 1) := by decide +kernel
theorem dX7_jump_260 : decode cX7_jump 260 = .ok (.putfield 102, 3) := by decide +kernel
theorem dX7_jump_263 : decode cX7_jump 263 = .ok (.aload_n 0, 1) := by decide +kernel
theorem dX7_jump_264 : decode cX7_jump 264 = .ok (.getfield 34, 3) := by decide +kernel
theorem dX7_jump_267 : decode cX7_jump 267 = .ok (.getfield 82, 3) := by decide +kernel
theorem dX7_jump_270 : decode cX7_jump 270 = .ok (.iload 5, 2) := by decide +kernel
theorem dX7_jump_272 : decode cX7_jump 272 = .ok (.iconst 0, 1) := by decide +kernel
theorem dX7_jump_273 : decode cX7_jump 273 = .ok (.aload_n 0, 1) := by decide +kernel
theorem dX7_jump_274 : decode cX7_jump 274 = .ok (.getfield 34, 3) := by decide +kernel
theorem dX7_jump_277 : decode cX7_jump 277 = .ok (.getfield 82, 3) := by decide +kernel
theorem dX7_jump_280 : decode cX7_jump 280 = .ok (.iload 5, 2) := by decide +kernel
theorem dX7_jump_282 : decode cX7_jump 282 = .ok (.iaload, 1) := by decide +kernel
theorem dX7_jump_283 : decode cX7_jump 283 = .ok (.iconst 3, 1) := by decide +kernel
theorem dX7_jump_284 : decode cX7_jump 284 = .ok (.isub, 1) := by decide +kernel
theorem dX7_jump_285 : decode cX7_jump 285 = .ok (.invokestatic 85, 3) := by decide +kernel
theorem dX7_jump_288 : decode cX7_jump 288 = .ok (.iastore, 1) := by decide +kernel
theorem dX7_jump_289 : decode cX7_jump 289 = .ok (.aload_n 0, 1) := by decide +kernel
theorem dX7_jump_290 : decode cX7_jump 290 = .ok (.getfield 102, 3) := by decide +kernel
theorem dX7_jump_293 : decode cX7_jump 293 = .ok (.iconst 1, 1) := by decide +kernel
theorem dX7_jump_294 : decode cX7_jump 294 = .ok (.isub, 1) := by decide +kernel
theorem dX7_jump_295 : decode cX7_jump 295 = .ok (.ireturn, 1) := by decide +kernel
set_option maxRecDepth 20000 in
theorem ggX7_told_X7_isIn : GoodIn wsX7_told wsX7_isIn := goodIn_r _ [7] (by decide +kernel) (by decide +kernel)
set_option maxRecDepth 20000 in
theorem gX7_told_X7_isIn : GoodIn wsX7_told (va_wsS RX7 45 yX7_isIn wsX7_isIn) := goodIn_app (goodIn_of _ (by decide +kernel)) ggX7_told_X7_isIn
set_option maxRecDepth 20000 in
theorem ggX7_told_X7_no : GoodIn wsX7_told wsX7_no := goodIn_r _ [11, 1, 12, 13, 14, 15, 16, 17, 18, 19, 20, 21, 22, 23] (by decide +kernel) (by decide +kernel)
set_option maxRecDepth 20000 in
theorem gX7_told_X7_no : GoodIn wsX7_told (wsV RX7 88 RX7 yX7_no wsX7_no) := goodIn_app (goodIn_of _ (by decide +kernel)) ggX7_told_X7_no
theorem dX7_told_0 : decode cX7_told 0 = .ok (.aload_n 0, 1) := by decide +kernel
theorem dX7_told_1 : decode cX7_told 1 = .ok (.iconst 0, 1) := by decide +kernel
theorem dX7_told_2 : decode cX7_told 2 = .ok (.putfield 41, 3) := by decide +kernel
theorem dX7_told_5 : decode cX7_told 5 = .ok (.iload_n 1, 1) := by decide +kernel
theorem dX7_told_6 : decode cX7_told 6 = .ok (.iconst 0, 1) := by decide +kernel
theorem dX7_told_7 : decode cX7_told 7 = .ok (.aload_n 0, 1) := by decide +kernel
theorem dX7_told_8 : decode cX7_told 8 = .ok (.getfield 102, 3) := by decide +kernel
theorem dX7_told_11 : decode cX7_told 11 = .ok (.iconst 1, 1) := by decide +kernel
theorem dX7_told_12 : decode cX7_told 12 = .ok (.isub, 1) := by decide +kernel
theorem dX7_told_13 : decode cX7_told 13 = .ok (.invokestatic 45, 3) := by decide +kernel
theorem dX7_told_16 : decode cX7_told 16 = .ok (.ifCond .eq 25, 3) := by decide +kernel
theorem dX7_told_19 : decode cX7_told 19 = .ok (.iload_n 2, 1) := by decide +kernel
theorem dX7_told_20 : decode cX7_told 20 = .ok (.iconst 0, 1) := by decide +kernel
theorem dX7_told_21 : decode cX7_told 21 = .ok (.iconst 4, 1) := by decide +kernel
theorem dX7_told_22 : decode cX7_told 22 = .ok (.invokestatic 45, 3) := by decide +kernel
theorem dX7_told_25 : decode cX7_told 25 = .ok (.ifCond .eq 16, 3) := by decide +kernel
theorem dX7_told_28 : decode cX7_told 28 = .ok (.aload_n 0, 1) := by decide +kernel
theorem dX7_told_29 : decode cX7_told 29 = .ok (.getfield 28, 3) := by decide +kernel
theorem dX7_told_32 : decode cX7_told 32 = .ok (.iconst 5, 1) := by decide +kernel
theorem dX7_told_33 : decode cX7_told 33 = .ok (.iload_n 1, 1) := by decide +kernel
theorem dX7_told_34 : decode cX7_told 34 = .ok (.imul, 1) := by decide +kernel
theorem dX7_told_35 : decode cX7_told 35 = .ok (.iload_n 2, 1) := by decide +kernel
theorem dX7_told_36 : decode cX7_told 36 = .ok (.iadd, 1) := by decide +kernel
theorem dX7_told_37 : decode cX7_told 37 = .ok (.iaload, 1) := by decide +kernel
theorem dX7_told_38 : decode cX7_told 38 = .ok (.goto 8, 3) := by decide +kernel
theorem dX7_told_41 : decode cX7_told 41 = .ok (.aload_n 0, 1) := by decide +kernel
theorem dX7_told_42 : decode cX7_told 42 = .ok (.iconst 1, 1) := by decide +kernel
theorem dX7_told_43 : decode cX7_told 43 = .ok (.invokevirtual 88, 3) := by decide +kernel
theorem dX7_told_46 : decode cX7_told 46 = .ok (.ireturn, 1) := by decide +kernel
theorem dX7_scoreOf_0 : decode cX7_scoreOf 0 = .ok (.iconst 0, 1) := by decide +kernel
theorem dX7_scoreOf_1 : decode cX7_scoreOf 1 = .ok (.istore_n 2, 1) := by decide +kernel
theorem dX7_scoreOf_2 : decode cX7_scoreOf 2 = .ok (.iconst 0, 1) := by decide +kernel
theorem dX7_scoreOf_3 : decode cX7_scoreOf 3 = .ok (.istore_n 3, 1) := by decide +kernel
theorem dX7_scoreOf_4 : decode cX7_scoreOf 4 = .ok (.iconst 0, 1) := by decide +kernel
theorem dX7_scoreOf_5 : decode cX7_scoreOf 5 = .ok (.istore 4, 2) := by decide +kernel
theorem dX7_scoreOf_7 : decode cX7_scoreOf 7 = .ok (.iload 4, 2) := by decide +kernel
theorem dX7_scoreOf_9 : decode cX7_scoreOf 9 = .ok (.aload_n 0, 1) := by decide +kernel
theorem dX7_scoreOf_10 : decode cX7_scoreOf 10 = .ok (.getfield 102, 3) := by decide +kernel
theorem dX7_scoreOf_13 : decode cX7_scoreOf 13 = .ok (.if_icmp .ge 56, 3) := by decide +kernel
theorem dX7_scoreOf_16 : decode cX7_scoreOf 16 = .ok (.aload_n 0, 1) := by decide +kernel
theorem dX7_scoreOf_17 : decode cX7_scoreOf 17 = .ok (.getfield 28, 3) := by decide +kernel
theorem dX7_scoreOf_20 : decode cX7_scoreOf 20 = .ok (.iconst 5, 1) := by decide +kernel
theorem dX7_scoreOf_21 : decode cX7_scoreOf 21 = .ok (.iload 4, 2) := by decide +kernel
theorem dX7_scoreOf_23 : decode cX7_scoreOf 23 = .ok (.imul, 1) := by decide +kernel
theorem dX7_scoreOf_24 : decode cX7_scoreOf 24 = .ok (.iaload, 1) := by decide +kernel
theorem dX7_scoreOf_25 : decode cX7_scoreOf 25 = .ok (.iload_n 1, 1) := by decide +kernel
theorem dX7_scoreOf_26 : decode cX7_scoreOf 26 = .ok (.if_icmp .eq 6, 3) := by decide +kernel
theorem dX7_scoreOf_29 : decode cX7_scoreOf 29 = .ok (.goto 34, 3) := by decide +kernel
theorem dX7_scoreOf_32 : decode cX7_scoreOf 32 = .ok (.aload_n 0, 1) := by decide +kernel
theorem dX7_scoreOf_33 : decode cX7_scoreOf 33 = .ok (.getfield 28, 3) := by decide +kernel
theorem dX7_scoreOf_36 : decode cX7_scoreOf 36 = .ok (.iconst 5, 1) := by decide +kernel
theorem dX7_scoreOf_37 : decode cX7_scoreOf 37 = .ok (.iload 4, 2) := by decide +kernel
theorem dX7_scoreOf_39 : decode cX7_scoreOf 39 = .ok (.imul, 1) := by decide +kernel
theorem dX7_scoreOf_40 : decode cX7_scoreOf 40 = .ok (.iconst 2, 1) := by decide +kernel
theorem dX7_scoreOf_41 : decode cX7_scoreOf 41 = .ok (.iadd, 1) := by decide +kernel
theorem dX7_scoreOf_42 : decode cX7_scoreOf 42 = .ok (.iaload, 1) := by decide +kernel
theorem dX7_scoreOf_43 : decode cX7_scoreOf 43 = .ok (.istore 5, 2) := by decide +kernel
theorem dX7_scoreOf_45 : decode cX7_scoreOf 45 = .ok (.iload_n 3, 1) := by decide +kernel
theorem dX7_scoreOf_46 : decode cX7_scoreOf 46 = .ok (.iload_n 2, 1) := by decide +kernel
theorem dX7_scoreOf_47 : decode cX7_scoreOf 47 = .ok (.iload 5, 2) := by decide +kernel
theorem dX7_scoreOf_49 : decode cX7_scoreOf 49 = .ok (.invokestatic 61, 3) := by decide +kernel
theorem dX7_scoreOf_52 : decode cX7_scoreOf 52 = .ok (.invokestatic 85, 3) := by decide +kernel
theorem dX7_scoreOf_55 : decode cX7_scoreOf 55 = .ok (.istore_n 3, 1) := by decide +kernel
theorem dX7_scoreOf_56 : decode cX7_scoreOf 56 = .ok (.iload_n 2, 1) := by decide +kernel
theorem dX7_scoreOf_57 : decode cX7_scoreOf 57 = .ok (.iload 5, 2) := by decide +kernel
theorem dX7_scoreOf_59 : decode cX7_scoreOf 59 = .ok (.invokestatic 85, 3) := by decide +kernel
theorem dX7_scoreOf_62 : decode cX7_scoreOf 62 = .ok (.istore_n 2, 1) := by decide +kernel
theorem dX7_scoreOf_63 : decode cX7_scoreOf 63 = .ok (.iinc 4 1, 3) := by decide +kernel
theorem dX7_scoreOf_66 : decode cX7_scoreOf 66 = .ok (.goto (-59), 3) := by decide +kernel
theorem dX7_scoreOf_69 : decode cX7_scoreOf 69 = .ok (.iload_n 2, 1) := by decide +kernel
theorem dX7_scoreOf_70 : decode cX7_scoreOf 70 = .ok (.iload_n 3, 1) := by decide +kernel
theorem dX7_scoreOf_71 : decode cX7_scoreOf 71 = .ok (.iadd, 1) := by decide +kernel
theorem dX7_scoreOf_72 : decode cX7_scoreOf 72 = .ok (.ireturn, 1) := by decide +kernel
set_option maxRecDepth 20000 in
theorem ggX7_score_X7_isIn : GoodIn wsX7_score wsX7_isIn := goodIn_r _ [5] (by decide +kernel) (by decide +kernel)
set_option maxRecDepth 20000 in
theorem gX7_score_X7_isIn : GoodIn wsX7_score (va_wsS RX7 45 yX7_isIn wsX7_isIn) := goodIn_app (goodIn_of _ (by decide +kernel)) ggX7_score_X7_isIn
set_option maxRecDepth 20000 in
theorem ggX7_score_X7_scoreOf : GoodIn wsX7_score wsX7_scoreOf := goodIn_r _ [9, 10, 11, 12, 13, 14, 15, 16, 17, 18, 23, 24, 25, 26, 27, 28, 29, 30, 31, 32, 33, 34] (by decide +kernel) (by decide +kernel)
set_option maxRecDepth 20000 in
theorem gX7_score_X7_scoreOf : GoodIn wsX7_score (wsV RX7 120 RX7 yX7_scoreOf wsX7_scoreOf) := goodIn_app (goodIn_of _ (by decide +kernel)) ggX7_score_X7_scoreOf
set_option maxRecDepth 20000 in
theorem ggX7_score_X7_no : GoodIn wsX7_score wsX7_no := goodIn_r _ [22, 1, 23, 24, 25, 26, 27, 28, 29, 30, 31, 32, 33, 34] (by decide +kernel) (by decide +kernel)
set_option maxRecDepth 20000 in
theorem gX7_score_X7_no : GoodIn wsX7_score (wsV RX7 88 RX7 yX7_no wsX7_no) := goodIn_app (goodIn_of _ (by decide +kernel)) ggX7_score_X7_no
theorem dX7_score_0 : decode cX7_score 0 = .ok (.aload_n 0, 1) := by decide +kernel
theorem dX7_score_1 : decode cX7_score 1 = .ok (.iconst 0, 1) := by decide +kernel
theorem dX7_score_2 : decode cX7_score 2 = .ok (.putfield 41, 3) := by decide +kernel
theorem dX7_score_5 : decode cX7_score 5 = .ok (.iload_n 1, 1) := by decide +kernel
theorem dX7_score_6 : decode cX7_score 6 = .ok (.iconst 0, 1) := by decide +kernel
theorem dX7_score_7 : decode cX7_score 7 = .ok (.bipush 9, 2) := by decide +kernel
theorem dX7_score_9 : decode cX7_score 9 = .ok (.invokestatic 45, 3) := by decide +kernel
theorem dX7_score_12 : decode cX7_score 12 = .ok (.ifCond .eq 11, 3) := by decide +kernel
theorem dX7_score_15 : decode cX7_score 15 = .ok (.aload_n 0, 1) := by decide +kernel
theorem dX7_score_16 : decode cX7_score 16 = .ok (.iload_n 1, 1) := by decide +kernel
theorem dX7_score_17 : decode cX7_score 17 = .ok (.invokevirtual 120, 3) := by decide +kernel
theorem dX7_score_20 : decode cX7_score 20 = .ok (.goto 8, 3) := by decide +kernel
theorem dX7_score_23 : decode cX7_score 23 = .ok (.aload_n 0, 1) := by decide +kernel
theorem dX7_score_24 : decode cX7_score 24 = .ok (.iconst 1, 1) := by decide +kernel
theorem dX7_score_25 : decode cX7_score 25 = .ok (.invokevirtual 88, 3) := by decide +kernel
theorem dX7_score_28 : decode cX7_score 28 = .ok (.ireturn, 1) := by decide +kernel
set_option maxRecDepth 20000 in
theorem ggX7_leader_X7_scoreOf : GoodIn wsX7_leader wsX7_scoreOf := goodIn_r _ [7, 2, 8, 9, 10, 11, 12, 13, 14, 15, 16, 17, 18, 19, 20, 21, 22, 23, 24, 25, 26, 27] (by decide +kernel) (by decide +kernel)
set_option maxRecDepth 20000 in
theorem gX7_leader_X7_scoreOf : GoodIn wsX7_leader (wsV RX7 120 RX7 yX7_scoreOf wsX7_scoreOf) := goodIn_app (goodIn_of _ (by decide +kernel)) ggX7_leader_X7_scoreOf
theorem dX7_leader_0 : decode cX7_leader 0 = .ok (.aload_n 0, 1) := by decide +kernel
theorem dX7_leader_1 : decode cX7_leader 1 = .ok (.iconst 0, 1) := by decide +kernel
theorem dX7_leader_2 : decode cX7_leader 2 = .ok (.putfield 41, 3) := by decide +kernel
theorem dX7_leader_5 : decode cX7_leader 5 = .ok (.aload_n 0, 1) := by decide +kernel
theorem dX7_leader_6 : decode cX7_leader 6 = .ok (.getfield 102, 3) := by decide +kernel
theorem dX7_leader_9 : decode cX7_leader 9 = .ok (.ifCond .ne 5, 3) := by decide +kernel
theorem dX7_leader_12 : decode cX7_leader 12 = .ok (.iconst (-1), 1) := by decide +kernel
theorem dX7_leader_13 : decode cX7_leader 13 = .ok (.ireturn, 1) := by decide +kernel
theorem dX7_leader_14 : decode cX7_leader 14 = .ok (.iconst 0, 1) := by decide +kernel
theorem dX7_leader_15 : decode cX7_leader 15 = .ok (.istore_n 1, 1) := by decide +kernel
theorem dX7_leader_16 : decode cX7_leader 16 = .ok (.iconst 1, 1) := by decide +kernel
theorem dX7_leader_17 : decode cX7_leader 17 = .ok (.istore_n 2, 1) := by decide +kernel
theorem dX7_leader_18 : decode cX7_leader 18 = .ok (.iload_n 2, 1) := by decide +kernel
theorem dX7_leader_19 : decode cX7_leader 19 = .ok (.bipush 10, 2) := by decide +kernel
theorem dX7_leader_21 : decode cX7_leader 21 = .ok (.if_icmp .ge 24, 3) := by decide +kernel
theorem dX7_leader_24 : decode cX7_leader 24 = .ok (.aload_n 0, 1) := by decide +kernel
theorem dX7_leader_25 : decode cX7_leader 25 = .ok (.iload_n 2, 1) := by decide +kernel
theorem dX7_leader_26 : decode cX7_leader 26 = .ok (.invokevirtual 120, 3) := by decide +kernel
theorem dX7_leader_29 : decode cX7_leader 29 = .ok (.aload_n 0, 1) := by decide +kernel
theorem dX7_leader_30 : decode cX7_leader 30 = .ok (.iload_n 1, 1) := by decide +kernel
theorem dX7_leader_31 : decode cX7_leader 31 = .ok (.invokevirtual 120, 3) := by decide +kernel
theorem dX7_leader_34 : decode cX7_leader 34 = .ok (.if_icmp .le 5, 3) := by decide +kernel
theorem dX7_leader_37 : decode cX7_leader 37 = .ok (.iload_n 2, 1) := by decide +kernel
theorem dX7_leader_38 : decode cX7_leader 38 = .ok (.istore_n 1, 1) := by decide +kernel
theorem dX7_leader_39 : decode cX7_leader 39 = .ok (.iinc 2 1, 3) := by decide +kernel
theorem dX7_leader_42 : decode cX7_leader 42 = .ok (.goto (-24), 3) := by decide +kernel
theorem dX7_leader_45 : decode cX7_leader 45 = .ok (.iload_n 1, 1) := by decide +kernel
theorem dX7_leader_46 : decode cX7_leader 46 = .ok (.ireturn, 1) := by decide +kernel
set_option maxRecDepth 20000 in
theorem ggX7_partTold_X6_isBad : GoodIn wsX7_partTold wsX6_isBad := goodIn_r _ [8, 9, 10, 23, 24, 25, 26, 27] (by decide +kernel) (by decide +kernel)
set_option maxRecDepth 20000 in
theorem gX7_partTold_X6_isBad : GoodIn wsX7_partTold (wsV RX7 108 RX6 yX6_isBad wsX6_isBad) := goodIn_app (goodIn_of _ (by decide +kernel)) ggX7_partTold_X6_isBad
theorem dX7_partTold_0 : decode cX7_partTold 0 = .ok (.iconst 0, 1) := by decide +kernel
theorem dX7_partTold_1 : decode cX7_partTold 1 = .ok (.istore_n 3, 1) := by decide +kernel
theorem dX7_partTold_2 : decode cX7_partTold 2 = .ok (.iconst 0, 1) := by decide +kernel
theorem dX7_partTold_3 : decode cX7_partTold 3 = .ok (.istore 4, 2) := by decide +kernel
theorem dX7_partTold_5 : decode cX7_partTold 5 = .ok (.iload 4, 2) := by decide +kernel
theorem dX7_partTold_7 : decode cX7_partTold 7 = .ok (.aload_n 0, 1) := by decide +kernel
theorem dX7_partTold_8 : decode cX7_partTold 8 = .ok (.getfield 49, 3) := by decide +kernel
theorem dX7_partTold_11 : decode cX7_partTold 11 = .ok (.if_icmp .ge 28, 3) := by decide +kernel
theorem dX7_partTold_14 : decode cX7_partTold 14 = .ok (.iload_n 3, 1) := by decide +kernel
theorem dX7_partTold_15 : decode cX7_partTold 15 = .ok (.aload_n 0, 1) := by decide +kernel
theorem dX7_partTold_16 : decode cX7_partTold 16 = .ok (.getfield 19, 3) := by decide +kernel
theorem dX7_partTold_19 : decode cX7_partTold 19 = .ok (.iload 4, 2) := by decide +kernel
theorem dX7_partTold_21 : decode cX7_partTold 21 = .ok (.iaload, 1) := by decide +kernel
theorem dX7_partTold_22 : decode cX7_partTold 22 = .ok (.iload_n 1, 1) := by decide +kernel
theorem dX7_partTold_23 : decode cX7_partTold 23 = .ok (.if_icmp .ne 7, 3) := by decide +kernel
theorem dX7_partTold_26 : decode cX7_partTold 26 = .ok (.iconst 1, 1) := by decide +kernel
theorem dX7_partTold_27 : decode cX7_partTold 27 = .ok (.goto 4, 3) := by decide +kernel
theorem dX7_partTold_30 : decode cX7_partTold 30 = .ok (.iconst 0, 1) := by decide +kernel
theorem dX7_partTold_31 : decode cX7_partTold 31 = .ok (.iadd, 1) := by decide +kernel
theorem dX7_partTold_32 : decode cX7_partTold 32 = .ok (.istore_n 3, 1) := by decide +kernel
theorem dX7_partTold_33 : decode cX7_partTold 33 = .ok (.iinc 4 1, 3) := by decide +kernel
theorem dX7_partTold_36 : decode cX7_partTold 36 = .ok (.goto (-31), 3) := by decide +kernel
theorem dX7_partTold_39 : decode cX7_partTold 39 = .ok (.iload_n 2, 1) := by decide +kernel
theorem dX7_partTold_40 : decode cX7_partTold 40 = .ok (.ifCond .ne 15, 3) := by decide +kernel
theorem dX7_partTold_43 : decode cX7_partTold 43 = .ok (.aload_n 0, 1) := by decide +kernel
theorem dX7_partTold_44 : decode cX7_partTold 44 = .ok (.getfield 34, 3) := by decide +kernel
theorem dX7_partTold_47 : decode cX7_partTold 47 = .ok (.getfield 82, 3) := by decide +kernel
theorem dX7_partTold_50 : decode cX7_partTold 50 = .ok (.iload_n 1, 1) := by decide +kernel
theorem dX7_partTold_51 : decode cX7_partTold 51 = .ok (.iaload, 1) := by decide +kernel
theorem dX7_partTold_52 : decode cX7_partTold 52 = .ok (.goto 45, 3) := by decide +kernel
theorem dX7_partTold_55 : decode cX7_partTold 55 = .ok (.iload_n 2, 1) := by decide +kernel
theorem dX7_partTold_56 : decode cX7_partTold 56 = .ok (.iconst 1, 1) := by decide +kernel
theorem dX7_partTold_57 : decode cX7_partTold 57 = .ok (.if_icmp .ne 15, 3) := by decide +kernel
theorem dX7_partTold_60 : decode cX7_partTold 60 = .ok (.aload_n 0, 1) := by decide +kernel
theorem dX7_partTold_61 : decode cX7_partTold 61 = .ok (.getfield 34, 3) := by decide +kernel
theorem dX7_partTold_64 : decode cX7_partTold 64 = .ok (.getfield 58, 3) := by decide +kernel
theorem dX7_partTold_67 : decode cX7_partTold 67 = .ok (.iload_n 1, 1) := by decide +kernel
theorem dX7_partTold_68 : decode cX7_partTold 68 = .ok (.iaload, 1) := by decide +kernel
theorem dX7_partTold_69 : decode cX7_partTold 69 = .ok (.goto 28, 3) := by decide +kernel
theorem dX7_partTold_72 : decode cX7_partTold 72 = .ok (.iload_n 2, 1) := by decide +kernel
theorem dX7_partTold_73 : decode cX7_partTold 73 = .ok (.iconst 2, 1) := by decide +kernel
theorem dX7_partTold_74 : decode cX7_partTold 74 = .ok (.if_icmp .ne 7, 3) := by decide +kernel
theorem dX7_partTold_77 : decode cX7_partTold 77 = .ok (.iload_n 3, 1) := by decide +kernel
theorem dX7_partTold_78 : decode cX7_partTold 78 = .ok (.goto 19, 3) := by decide +kernel
theorem dX7_partTold_81 : decode cX7_partTold 81 = .ok (.aload_n 0, 1) := by decide +kernel
theorem dX7_partTold_82 : decode cX7_partTold 82 = .ok (.getfield 34, 3) := by decide +kernel
theorem dX7_partTold_85 : decode cX7_partTold 85 = .ok (.iload_n 1, 1) := by decide +kernel
theorem dX7_partTold_86 : decode cX7_partTold 86 = .ok (.invokevirtual 108, 3) := by decide +kernel
theorem dX7_partTold_89 : decode cX7_partTold 89 = .ok (.ifCond .eq 7, 3) := by decide +kernel
theorem dX7_partTold_92 : decode cX7_partTold 92 = .ok (.iconst 1, 1) := by decide +kernel
theorem dX7_partTold_93 : decode cX7_partTold 93 = .ok (.goto 4, 3) := by decide +kernel
theorem dX7_partTold_96 : decode cX7_partTold 96 = .ok (.iconst 0, 1) := by decide +kernel
theorem dX7_partTold_97 : decode cX7_partTold 97 = .ok (.ireturn, 1) := by decide +kernel
set_option maxRecDepth 20000 in
theorem ggX7_part_X7_isPart : GoodIn wsX7_part wsX7_isPart := goodIn_r _ [5, 6, 7, 4, 8] (by decide +kernel) (by decide +kernel)
set_option maxRecDepth 20000 in
theorem gX7_part_X7_isPart : GoodIn wsX7_part (va_wsS RX7 91 yX7_isPart wsX7_isPart) := goodIn_app (goodIn_of _ (by decide +kernel)) ggX7_part_X7_isPart
set_option maxRecDepth 20000 in
theorem ggX7_part_X7_isIn : GoodIn wsX7_part wsX7_isIn := goodIn_r _ [8] (by decide +kernel) (by decide +kernel)
set_option maxRecDepth 20000 in
theorem gX7_part_X7_isIn : GoodIn wsX7_part (va_wsS RX7 45 yX7_isIn wsX7_isIn) := goodIn_app (goodIn_of _ (by decide +kernel)) ggX7_part_X7_isIn
set_option maxRecDepth 20000 in
theorem ggX7_part_X7_partTold : GoodIn wsX7_part wsX7_partTold := goodIn_r _ [12, 13, 14, 15, 16, 17, 18, 19, 20, 21, 22, 27, 28, 29, 30, 31, 32, 33, 34, 35, 36, 37, 38, 39, 40, 41, 42, 43] (by decide +kernel) (by decide +kernel)
set_option maxRecDepth 20000 in
theorem gX7_part_X7_partTold : GoodIn wsX7_part (wsV RX7 123 RX7 yX7_partTold wsX7_partTold) := goodIn_app (goodIn_of _ (by decide +kernel)) ggX7_part_X7_partTold
set_option maxRecDepth 20000 in
theorem ggX7_part_X7_no : GoodIn wsX7_part wsX7_no := goodIn_r _ [26, 1, 27, 28, 29, 30, 31, 32, 33, 34, 35, 36, 37, 38] (by decide +kernel) (by decide +kernel)
set_option maxRecDepth 20000 in
theorem gX7_part_X7_no : GoodIn wsX7_part (wsV RX7 88 RX7 yX7_no wsX7_no) := goodIn_app (goodIn_of _ (by decide +kernel)) ggX7_part_X7_no
theorem dX7_part_0 : decode cX7_part 0 = .ok (.aload_n 0, 1) := by decide +kernel
theorem dX7_part_1 : decode cX7_part 1 = .ok (.iconst 0, 1) := by decide +kernel
theorem dX7_part_2 : decode cX7_part 2 = .ok (.putfield 41, 3) := by decide +kernel
theorem dX7_part_5 : decode cX7_part 5 = .ok (.iload_n 1, 1) := by decide +kernel
theorem dX7_part_6 : decode cX7_part 6 = .ok (.invokestatic 91, 3) := by decide +kernel
theorem dX7_part_9 : decode cX7_part 9 = .ok (.ifCond .eq 21, 3) := by decide +kernel
theorem dX7_part_12 : decode cX7_part 12 = .ok (.iload_n 2, 1) := by decide +kernel
theorem dX7_part_13 : decode cX7_part 13 = .ok (.iconst 0, 1) := by decide +kernel
theorem dX7_part_14 : decode cX7_part 14 = .ok (.iconst 3, 1) := by decide +kernel
theorem dX7_part_15 : decode cX7_part 15 = .ok (.invokestatic 45, 3) := by decide +kernel
theorem dX7_part_18 : decode cX7_part 18 = .ok (.ifCond .eq 12, 3) := by decide +kernel
theorem dX7_part_21 : decode cX7_part 21 = .ok (.aload_n 0, 1) := by decide +kernel
theorem dX7_part_22 : decode cX7_part 22 = .ok (.iload_n 1, 1) := by decide +kernel
theorem dX7_part_23 : decode cX7_part 23 = .ok (.iload_n 2, 1) := by decide +kernel
theorem dX7_part_24 : decode cX7_part 24 = .ok (.invokevirtual 123, 3) := by decide +kernel
theorem dX7_part_27 : decode cX7_part 27 = .ok (.goto 8, 3) := by decide +kernel
theorem dX7_part_30 : decode cX7_part 30 = .ok (.aload_n 0, 1) := by decide +kernel
theorem dX7_part_31 : decode cX7_part 31 = .ok (.iconst 1, 1) := by decide +kernel
theorem dX7_part_32 : decode cX7_part 32 = .ok (.invokevirtual 88, 3) := by decide +kernel
theorem dX7_part_35 : decode cX7_part 35 = .ok (.ireturn, 1) := by decide +kernel
set_option maxRecDepth 20000 in
theorem ggX7_counted_X7_wet : GoodIn wsX7_counted wsX7_wet := goodIn_r _ [10, 11, 12, 16, 17, 18, 19, 20, 21, 22, 23, 24, 25, 26, 27] (by decide +kernel) (by decide +kernel)
set_option maxRecDepth 20000 in
theorem gX7_counted_X7_wet : GoodIn wsX7_counted (wsV RX7 74 RX7 yX7_wet wsX7_wet) := goodIn_app (goodIn_of _ (by decide +kernel)) ggX7_counted_X7_wet
set_option maxRecDepth 20000 in
theorem ggX7_counted_X7_sum : GoodIn wsX7_counted wsX7_sum := goodIn_r _ [15] (by decide +kernel) (by decide +kernel)
set_option maxRecDepth 20000 in
theorem gX7_counted_X7_sum : GoodIn wsX7_counted (va_wsS RX7 126 yX7_sum wsX7_sum) := goodIn_app (goodIn_of _ (by decide +kernel)) ggX7_counted_X7_sum
theorem dX7_counted_0 : decode cX7_counted 0 = .ok (.iconst 0, 1) := by decide +kernel
theorem dX7_counted_1 : decode cX7_counted 1 = .ok (.istore_n 3, 1) := by decide +kernel
theorem dX7_counted_2 : decode cX7_counted 2 = .ok (.iconst 0, 1) := by decide +kernel
theorem dX7_counted_3 : decode cX7_counted 3 = .ok (.istore 4, 2) := by decide +kernel
theorem dX7_counted_5 : decode cX7_counted 5 = .ok (.iload 4, 2) := by decide +kernel
theorem dX7_counted_7 : decode cX7_counted 7 = .ok (.aload_n 0, 1) := by decide +kernel
theorem dX7_counted_8 : decode cX7_counted 8 = .ok (.getfield 102, 3) := by decide +kernel
theorem dX7_counted_11 : decode cX7_counted 11 = .ok (.if_icmp .ge 23, 3) := by decide +kernel
theorem dX7_counted_14 : decode cX7_counted 14 = .ok (.iload_n 3, 1) := by decide +kernel
theorem dX7_counted_15 : decode cX7_counted 15 = .ok (.aload_n 0, 1) := by decide +kernel
theorem dX7_counted_16 : decode cX7_counted 16 = .ok (.getfield 28, 3) := by decide +kernel
theorem dX7_counted_19 : decode cX7_counted 19 = .ok (.iconst 5, 1) := by decide +kernel
theorem dX7_counted_20 : decode cX7_counted 20 = .ok (.iload 4, 2) := by decide +kernel
theorem dX7_counted_22 : decode cX7_counted 22 = .ok (.imul, 1) := by decide +kernel
theorem dX7_counted_23 : decode cX7_counted 23 = .ok (.iconst 3, 1) := by decide +kernel
theorem dX7_counted_24 : decode cX7_counted 24 = .ok (.iadd, 1) := by decide +kernel
theorem dX7_counted_25 : decode cX7_counted 25 = .ok (.iaload, 1) := by decide +kernel
theorem dX7_counted_26 : decode cX7_counted 26 = .ok (.iadd, 1) := by decide +kernel
theorem dX7_counted_27 : decode cX7_counted 27 = .ok (.istore_n 3, 1) := by decide +kernel
theorem dX7_counted_28 : decode cX7_counted 28 = .ok (.iinc 4 1, 3) := by decide +kernel
theorem dX7_counted_31 : decode cX7_counted 31 = .ok (.goto (-26), 3) := by decide +kernel
theorem dX7_counted_34 : decode cX7_counted 34 = .ok (.aload_n 1, 1) := by decide +kernel
theorem dX7_counted_35 : decode cX7_counted 35 = .ok (.getfield 71, 3) := by decide +kernel
theorem dX7_counted_38 : decode cX7_counted 38 = .ok (.bipush 24, 2) := by decide +kernel
theorem dX7_counted_40 : decode cX7_counted 40 = .ok (.irem, 1) := by decide +kernel
theorem dX7_counted_41 : decode cX7_counted 41 = .ok (.istore 4, 2) := by decide +kernel
theorem dX7_counted_43 : decode cX7_counted 43 = .ok (.bipush 11, 2) := by decide +kernel
theorem dX7_counted_45 : decode cX7_counted 45 = .ok (.newarray .int, 2) := by decide +kernel
theorem dX7_counted_47 : decode cX7_counted 47 = .ok (.dup, 1) := by decide +kernel
theorem dX7_counted_48 : decode cX7_counted 48 = .ok (.iconst 0, 1) := by decide +kernel
theorem dX7_counted_49 : decode cX7_counted 49 = .ok (.aload_n 1, 1) := by decide +kernel
theorem dX7_counted_50 : decode cX7_counted 50 = .ok (.getfield 71, 3) := by decide +kernel
theorem dX7_counted_53 : decode cX7_counted 53 = .ok (.iastore, 1) := by decide +kernel
theorem dX7_counted_54 : decode cX7_counted 54 = .ok (.dup, 1) := by decide +kernel
theorem dX7_counted_55 : decode cX7_counted 55 = .ok (.iconst 1, 1) := by decide +kernel
theorem dX7_counted_56 : decode cX7_counted 56 = .ok (.iload 4, 2) := by decide +kernel
theorem dX7_counted_58 : decode cX7_counted 58 = .ok (.iastore, 1) := by decide +kernel
theorem dX7_counted_59 : decode cX7_counted 59 = .ok (.dup, 1) := by decide +kernel
theorem dX7_counted_60 : decode cX7_counted 60 = .ok (.iconst 2, 1) := by decide +kernel
theorem dX7_counted_61 : decode cX7_counted 61 = .ok (.aload_n 0, 1) := by decide +kernel
theorem dX7_counted_62 : decode cX7_counted 62 = .ok (.iload 4, 2) := by decide +kernel
theorem dX7_counted_64 : decode cX7_counted 64 = .ok (.invokevirtual 74, 3) := by decide +kernel
theorem dX7_counted_67 : decode cX7_counted 67 = .ok (.iastore, 1) := by decide +kernel
theorem dX7_counted_68 : decode cX7_counted 68 = .ok (.dup, 1) := by decide +kernel
theorem dX7_counted_69 : decode cX7_counted 69 = .ok (.iconst 3, 1) := by decide +kernel
theorem dX7_counted_70 : decode cX7_counted 70 = .ok (.aload_n 0, 1) := by decide +kernel
theorem dX7_counted_71 : decode cX7_counted 71 = .ok (.getfield 16, 3) := by decide +kernel
theorem dX7_counted_74 : decode cX7_counted 74 = .ok (.iload 4, 2) := by decide +kernel
theorem dX7_counted_76 : decode cX7_counted 76 = .ok (.iaload, 1) := by decide +kernel
theorem dX7_counted_77 : decode cX7_counted 77 = .ok (.iastore, 1) := by decide +kernel
theorem dX7_counted_78 : decode cX7_counted 78 = .ok (.dup, 1) := by decide +kernel
theorem dX7_counted_79 : decode cX7_counted 79 = .ok (.iconst 4, 1) := by decide +kernel
theorem dX7_counted_80 : decode cX7_counted 80 = .ok (.aload_n 1, 1) := by decide +kernel
theorem dX7_counted_81 : decode cX7_counted 81 = .ok (.getfield 55, 3) := by decide +kernel
theorem dX7_counted_84 : decode cX7_counted 84 = .ok (.iastore, 1) := by decide +kernel
theorem dX7_counted_85 : decode cX7_counted 85 = .ok (.dup, 1) := by decide +kernel
theorem dX7_counted_86 : decode cX7_counted 86 = .ok (.iconst 5, 1) := by decide +kernel
theorem dX7_counted_87 : decode cX7_counted 87 = .ok (.aload_n 0, 1) := by decide +kernel
theorem dX7_counted_88 : decode cX7_counted 88 = .ok (.getfield 49, 3) := by decide +kernel
theorem dX7_counted_91 : decode cX7_counted 91 = .ok (.iastore, 1) := by decide +kernel
theorem dX7_counted_92 : decode cX7_counted 92 = .ok (.dup, 1) := by decide +kernel
theorem dX7_counted_93 : decode cX7_counted 93 = .ok (.bipush 6, 2) := by decide +kernel
theorem dX7_counted_95 : decode cX7_counted 95 = .ok (.aload_n 1, 1) := by decide +kernel
theorem dX7_counted_96 : decode cX7_counted 96 = .ok (.getfield 52, 3) := by decide +kernel
theorem dX7_counted_99 : decode cX7_counted 99 = .ok (.invokestatic 126, 3) := by decide +kernel
theorem dX7_counted_102 : decode cX7_counted 102 = .ok (.iastore, 1) := by decide +kernel
theorem dX7_counted_103 : decode cX7_counted 103 = .ok (.dup, 1) := by decide +kernel
theorem dX7_counted_104 : decode cX7_counted 104 = .ok (.bipush 7, 2) := by decide +kernel
theorem dX7_counted_106 : decode cX7_counted 106 = .ok (.aload_n 1, 1) := by decide +kernel
theorem dX7_counted_107 : decode cX7_counted 107 = .ok (.getfield 82, 3) := by decide +kernel
theorem dX7_counted_110 : decode cX7_counted 110 = .ok (.invokestatic 126, 3) := by decide +kernel
theorem dX7_counted_113 : decode cX7_counted 113 = .ok (.iastore, 1) := by decide +kernel
theorem dX7_counted_114 : decode cX7_counted 114 = .ok (.dup, 1) := by decide +kernel
theorem dX7_counted_115 : decode cX7_counted 115 = .ok (.bipush 8, 2) := by decide +kernel
theorem dX7_counted_117 : decode cX7_counted 117 = .ok (.aload_n 1, 1) := by decide +kernel
theorem dX7_counted_118 : decode cX7_counted 118 = .ok (.getfield 58, 3) := by decide +kernel
theorem dX7_counted_121 : decode cX7_counted 121 = .ok (.invokestatic 126, 3) := by decide +kernel
theorem dX7_counted_124 : decode cX7_counted 124 = .ok (.iastore, 1) := by decide +kernel
theorem dX7_counted_125 : decode cX7_counted 125 = .ok (.dup, 1) := by decide +kernel
theorem dX7_counted_126 : decode cX7_counted 126 = .ok (.bipush 9, 2) := by decide +kernel
theorem dX7_counted_128 : decode cX7_counted 128 = .ok (.aload_n 0, 1) := by decide +kernel
theorem dX7_counted_129 : decode cX7_counted 129 = .ok (.getfield 102, 3) := by decide +kernel
theorem dX7_counted_132 : decode cX7_counted 132 = .ok (.iastore, 1) := by decide +kernel
theorem dX7_counted_133 : decode cX7_counted 133 = .ok (.dup, 1) := by decide +kernel
theorem dX7_counted_134 : decode cX7_counted 134 = .ok (.bipush 10, 2) := by decide +kernel
theorem dX7_counted_136 : decode cX7_counted 136 = .ok (.iload_n 3, 1) := by decide +kernel
theorem dX7_counted_137 : decode cX7_counted 137 = .ok (.iastore, 1) := by decide +kernel
theorem dX7_counted_138 : decode cX7_counted 138 = .ok (.astore 5, 2) := by decide +kernel
theorem dX7_counted_140 : decode cX7_counted 140 = .ok (.aload 5, 2) := by decide +kernel
theorem dX7_counted_142 : decode cX7_counted 142 = .ok (.iload_n 2, 1) := by decide +kernel
theorem dX7_counted_143 : decode cX7_counted 143 = .ok (.iaload, 1) := by decide +kernel
theorem dX7_counted_144 : decode cX7_counted 144 = .ok (.ireturn, 1) := by decide +kernel
set_option maxRecDepth 20000 in
theorem ggX7_count_X7_isIn : GoodIn wsX7_count wsX7_isIn := goodIn_r _ [6] (by decide +kernel) (by decide +kernel)
set_option maxRecDepth 20000 in
theorem gX7_count_X7_isIn : GoodIn wsX7_count (va_wsS RX7 45 yX7_isIn wsX7_isIn) := goodIn_app (goodIn_of _ (by decide +kernel)) ggX7_count_X7_isIn
set_option maxRecDepth 20000 in
theorem ggX7_count_X7_counted : GoodIn wsX7_count wsX7_counted := goodIn_r _ [10, 11, 12, 13, 14, 15, 16, 17, 18, 5, 19, 20, 21, 22, 23, 24, 29, 30, 31, 32, 33, 34, 35, 36, 37, 38, 39, 40, 41, 42, 43, 44, 45] (by decide +kernel) (by decide +kernel)
set_option maxRecDepth 20000 in
theorem gX7_count_X7_counted : GoodIn wsX7_count (wsV RX7 130 RX7 yX7_counted wsX7_counted) := goodIn_app (goodIn_of _ (by decide +kernel)) ggX7_count_X7_counted
set_option maxRecDepth 20000 in
theorem ggX7_count_X7_no : GoodIn wsX7_count wsX7_no := goodIn_r _ [28, 1, 29, 30, 31, 32, 33, 34, 35, 36, 37, 38, 39, 40] (by decide +kernel) (by decide +kernel)
set_option maxRecDepth 20000 in
theorem gX7_count_X7_no : GoodIn wsX7_count (wsV RX7 88 RX7 yX7_no wsX7_no) := goodIn_app (goodIn_of _ (by decide +kernel)) ggX7_count_X7_no
theorem dX7_count_0 : decode cX7_count 0 = .ok (.aload_n 0, 1) := by decide +kernel
theorem dX7_count_1 : decode cX7_count 1 = .ok (.iconst 0, 1) := by decide +kernel
theorem dX7_count_2 : decode cX7_count 2 = .ok (.putfield 41, 3) := by decide +kernel
theorem dX7_count_5 : decode cX7_count 5 = .ok (.iload_n 1, 1) := by decide +kernel
theorem dX7_count_6 : decode cX7_count 6 = .ok (.iconst 0, 1) := by decide +kernel
theorem dX7_count_7 : decode cX7_count 7 = .ok (.bipush 10, 2) := by decide +kernel
theorem dX7_count_9 : decode cX7_count 9 = .ok (.invokestatic 45, 3) := by decide +kernel
theorem dX7_count_12 : decode cX7_count 12 = .ok (.ifCond .eq 15, 3) := by decide +kernel
theorem dX7_count_15 : decode cX7_count 15 = .ok (.aload_n 0, 1) := by decide +kernel
theorem dX7_count_16 : decode cX7_count 16 = .ok (.aload_n 0, 1) := by decide +kernel
theorem dX7_count_17 : decode cX7_count 17 = .ok (.getfield 34, 3) := by decide +kernel
theorem dX7_count_20 : decode cX7_count 20 = .ok (.iload_n 1, 1) := by decide +kernel
theorem dX7_count_21 : decode cX7_count 21 = .ok (.invokevirtual 130, 3) := by decide +kernel
theorem dX7_count_24 : decode cX7_count 24 = .ok (.goto 8, 3) := by decide +kernel
theorem dX7_count_27 : decode cX7_count 27 = .ok (.aload_n 0, 1) := by decide +kernel
theorem dX7_count_28 : decode cX7_count 28 = .ok (.iconst 1, 1) := by decide +kernel
theorem dX7_count_29 : decode cX7_count 29 = .ok (.invokevirtual 88, 3) := by decide +kernel
theorem dX7_count_32 : decode cX7_count 32 = .ok (.ireturn, 1) := by decide +kernel
set_option maxRecDepth 20000 in
theorem ggX7_pass__X7_isIn : GoodIn wsX7_pass_ wsX7_isIn := goodIn_r _ [6] (by decide +kernel) (by decide +kernel)
set_option maxRecDepth 20000 in
theorem gX7_pass__X7_isIn : GoodIn wsX7_pass_ (va_wsS RX7 45 yX7_isIn wsX7_isIn) := goodIn_app (goodIn_of _ (by decide +kernel)) ggX7_pass__X7_isIn
set_option maxRecDepth 20000 in
theorem ggX7_pass__X7_no : GoodIn wsX7_pass_ wsX7_no := goodIn_r _ [10, 1, 45, 46, 47, 48, 49, 50, 51, 52, 53, 54, 55, 56] (by decide +kernel) (by decide +kernel)
set_option maxRecDepth 20000 in
theorem gX7_pass__X7_no : GoodIn wsX7_pass_ (wsV RX7 88 RX7 yX7_no wsX7_no) := goodIn_app (goodIn_of _ (by decide +kernel)) ggX7_pass__X7_no
set_option maxRecDepth 20000 in
theorem ggX7_pass__X7_sum : GoodIn wsX7_pass_ wsX7_sum := goodIn_r _ [13] (by decide +kernel) (by decide +kernel)
set_option maxRecDepth 20000 in
theorem gX7_pass__X7_sum : GoodIn wsX7_pass_ (va_wsS RX7 126 yX7_sum wsX7_sum) := goodIn_app (goodIn_of _ (by decide +kernel)) ggX7_pass__X7_sum
set_option maxRecDepth 20000 in
theorem ggX7_pass__X7_pass : GoodIn wsX7_pass_ wsX7_pass := goodIn_r _ [17, 18, 19, 20, 21, 22, 23, 24, 25, 26, 5, 27, 28, 29, 30, 31, 32, 33, 34, 35, 36, 37, 38, 39, 40, 41, 42, 43, 44, 4, 6, 57, 58, 59, 60, 61, 45, 46, 47, 48, 49, 50, 51, 52, 53, 54, 55, 56] (by decide +kernel) (by decide +kernel)
set_option maxRecDepth 20000 in
theorem gX7_pass__X7_pass : GoodIn wsX7_pass_ (wsV RX7 134 RX7 yX7_pass wsX7_pass) := goodIn_app (goodIn_of _ (by decide +kernel)) ggX7_pass__X7_pass
theorem dX7_pass__0 : decode cX7_pass_ 0 = .ok (.aload_n 0, 1) := by decide +kernel
theorem dX7_pass__1 : decode cX7_pass_ 1 = .ok (.iconst 0, 1) := by decide +kernel
theorem dX7_pass__2 : decode cX7_pass_ 2 = .ok (.putfield 41, 3) := by decide +kernel
theorem dX7_pass__5 : decode cX7_pass_ 5 = .ok (.iload_n 1, 1) := by decide +kernel
theorem dX7_pass__6 : decode cX7_pass_ 6 = .ok (.iconst 1, 1) := by decide +kernel
theorem dX7_pass__7 : decode cX7_pass_ 7 = .ok (.bipush 96, 2) := by decide +kernel
theorem dX7_pass__9 : decode cX7_pass_ 9 = .ok (.invokestatic 45, 3) := by decide +kernel
theorem dX7_pass__12 : decode cX7_pass_ 12 = .ok (.ifCond .ne 9, 3) := by decide +kernel
theorem dX7_pass__15 : decode cX7_pass_ 15 = .ok (.aload_n 0, 1) := by decide +kernel
theorem dX7_pass__16 : decode cX7_pass_ 16 = .ok (.iconst 1, 1) := by decide +kernel
theorem dX7_pass__17 : decode cX7_pass_ 17 = .ok (.invokevirtual 88, 3) := by decide +kernel
theorem dX7_pass__20 : decode cX7_pass_ 20 = .ok (.ireturn, 1) := by decide +kernel
theorem dX7_pass__21 : decode cX7_pass_ 21 = .ok (.aload_n 0, 1) := by decide +kernel
theorem dX7_pass__22 : decode cX7_pass_ 22 = .ok (.getfield 34, 3) := by decide +kernel
theorem dX7_pass__25 : decode cX7_pass_ 25 = .ok (.getfield 82, 3) := by decide +kernel
theorem dX7_pass__28 : decode cX7_pass_ 28 = .ok (.invokestatic 126, 3) := by decide +kernel
theorem dX7_pass__31 : decode cX7_pass_ 31 = .ok (.istore_n 2, 1) := by decide +kernel
theorem dX7_pass__32 : decode cX7_pass_ 32 = .ok (.iconst 0, 1) := by decide +kernel
theorem dX7_pass__33 : decode cX7_pass_ 33 = .ok (.istore_n 3, 1) := by decide +kernel
theorem dX7_pass__34 : decode cX7_pass_ 34 = .ok (.iload_n 3, 1) := by decide +kernel
theorem dX7_pass__35 : decode cX7_pass_ 35 = .ok (.iload_n 1, 1) := by decide +kernel
theorem dX7_pass__36 : decode cX7_pass_ 36 = .ok (.if_icmp .ge 17, 3) := by decide +kernel
theorem dX7_pass__39 : decode cX7_pass_ 39 = .ok (.aload_n 0, 1) := by decide +kernel
theorem dX7_pass__40 : decode cX7_pass_ 40 = .ok (.aload_n 0, 1) := by decide +kernel
theorem dX7_pass__41 : decode cX7_pass_ 41 = .ok (.getfield 34, 3) := by decide +kernel
theorem dX7_pass__44 : decode cX7_pass_ 44 = .ok (.invokevirtual 134, 3) := by decide +kernel
theorem dX7_pass__47 : decode cX7_pass_ 47 = .ok (.iinc 3 1, 3) := by decide +kernel
theorem dX7_pass__50 : decode cX7_pass_ 50 = .ok (.goto (-16), 3) := by decide +kernel
theorem dX7_pass__53 : decode cX7_pass_ 53 = .ok (.aload_n 0, 1) := by decide +kernel
theorem dX7_pass__54 : decode cX7_pass_ 54 = .ok (.getfield 34, 3) := by decide +kernel
theorem dX7_pass__57 : decode cX7_pass_ 57 = .ok (.getfield 82, 3) := by decide +kernel
theorem dX7_pass__60 : decode cX7_pass_ 60 = .ok (.invokestatic 126, 3) := by decide +kernel
theorem dX7_pass__63 : decode cX7_pass_ 63 = .ok (.iload_n 2, 1) := by decide +kernel
theorem dX7_pass__64 : decode cX7_pass_ 64 = .ok (.isub, 1) := by decide +kernel
theorem dX7_pass__65 : decode cX7_pass_ 65 = .ok (.ireturn, 1) := by decide +kernel
set_option maxRecDepth 20000 in
theorem ggX7_enough_X7_isPart : GoodIn wsX7_enough wsX7_isPart := goodIn_r _ [7, 8, 9, 6, 10] (by decide +kernel) (by decide +kernel)
set_option maxRecDepth 20000 in
theorem gX7_enough_X7_isPart : GoodIn wsX7_enough (va_wsS RX7 91 yX7_isPart wsX7_isPart) := goodIn_app (goodIn_of _ (by decide +kernel)) ggX7_enough_X7_isPart
set_option maxRecDepth 20000 in
theorem ggX7_enough_X7_no : GoodIn wsX7_enough wsX7_no := goodIn_r _ [14, 1, 58, 59, 60, 61, 62, 63, 64, 65, 66, 67, 68, 69] (by decide +kernel) (by decide +kernel)
set_option maxRecDepth 20000 in
theorem gX7_enough_X7_no : GoodIn wsX7_enough (wsV RX7 88 RX7 yX7_no wsX7_no) := goodIn_app (goodIn_of _ (by decide +kernel)) ggX7_enough_X7_no
set_option maxRecDepth 20000 in
theorem ggX7_enough_X7_isIn : GoodIn wsX7_enough wsX7_isIn := goodIn_r _ [10] (by decide +kernel) (by decide +kernel)
set_option maxRecDepth 20000 in
theorem gX7_enough_X7_isIn : GoodIn wsX7_enough (va_wsS RX7 45 yX7_isIn wsX7_isIn) := goodIn_app (goodIn_of _ (by decide +kernel)) ggX7_enough_X7_isIn
set_option maxRecDepth 20000 in
theorem ggX7_enough_X6_become : GoodIn wsX7_enough wsX6_become := goodIn_r _ [19, 20, 21, 22, 23, 24, 25, 26, 27, 28, 70, 71, 72, 73, 74] (by decide +kernel) (by decide +kernel)
set_option maxRecDepth 20000 in
theorem gX7_enough_X6_become : GoodIn wsX7_enough (wsV RX7 138 RX6 yX6_become wsX6_become) := goodIn_app (goodIn_of _ (by decide +kernel)) ggX7_enough_X6_become
set_option maxRecDepth 20000 in
theorem ggX7_enough_X7_pass : GoodIn wsX7_enough wsX7_pass := goodIn_r _ [32, 33, 34, 35, 36, 37, 38, 39, 40, 41, 6, 42, 43, 44, 45, 46, 47, 48, 49, 50, 51, 52, 53, 54, 55, 18, 56, 22, 57, 9, 10, 70, 71, 72, 73, 74, 58, 59, 60, 61, 62, 63, 64, 65, 66, 67, 68, 69] (by decide +kernel) (by decide +kernel)
set_option maxRecDepth 20000 in
theorem gX7_enough_X7_pass : GoodIn wsX7_enough (wsV RX7 134 RX7 yX7_pass wsX7_pass) := goodIn_app (goodIn_of _ (by decide +kernel)) ggX7_enough_X7_pass
theorem dX7_enough_0 : decode cX7_enough 0 = .ok (.aload_n 0, 1) := by decide +kernel
theorem dX7_enough_1 : decode cX7_enough 1 = .ok (.iconst 0, 1) := by decide +kernel
theorem dX7_enough_2 : decode cX7_enough 2 = .ok (.putfield 41, 3) := by decide +kernel
theorem dX7_enough_5 : decode cX7_enough 5 = .ok (.iload_n 1, 1) := by decide +kernel
theorem dX7_enough_6 : decode cX7_enough 6 = .ok (.invokestatic 91, 3) := by decide +kernel
theorem dX7_enough_9 : decode cX7_enough 9 = .ok (.ifCond .ne 9, 3) := by decide +kernel
theorem dX7_enough_12 : decode cX7_enough 12 = .ok (.aload_n 0, 1) := by decide +kernel
theorem dX7_enough_13 : decode cX7_enough 13 = .ok (.iconst 1, 1) := by decide +kernel
theorem dX7_enough_14 : decode cX7_enough 14 = .ok (.invokevirtual 88, 3) := by decide +kernel
theorem dX7_enough_17 : decode cX7_enough 17 = .ok (.ireturn, 1) := by decide +kernel
theorem dX7_enough_18 : decode cX7_enough 18 = .ok (.iload_n 2, 1) := by decide +kernel
end
section
theorem dX7_enough_19 : decode cX7_enough 19 = .ok (.iconst 1, 1) := by decide +kernel
theorem dX7_enough_20 : decode cX7_enough 20 = .ok (.sipush 300, 3) := by decide +kernel
theorem dX7_enough_23 : decode cX7_enough 23 = .ok (.invokestatic 45, 3) := by decide +kernel
theorem dX7_enough_26 : decode cX7_enough 26 = .ok (.ifCond .ne 9, 3) := by decide +kernel
theorem dX7_enough_29 : decode cX7_enough 29 = .ok (.aload_n 0, 1) := by decide +kernel
theorem dX7_enough_30 : decode cX7_enough 30 = .ok (.iconst 2, 1) := by decide +kernel
theorem dX7_enough_31 : decode cX7_enough 31 = .ok (.invokevirtual 88, 3) := by decide +kernel
theorem dX7_enough_34 : decode cX7_enough 34 = .ok (.ireturn, 1) := by decide +kernel
theorem dX7_enough_35 : decode cX7_enough 35 = .ok (.aload_n 0, 1) := by decide +kernel
theorem dX7_enough_36 : decode cX7_enough 36 = .ok (.getfield 38, 3) := by decide +kernel
theorem dX7_enough_39 : decode cX7_enough 39 = .ok (.aload_n 0, 1) := by decide +kernel
theorem dX7_enough_40 : decode cX7_enough 40 = .ok (.getfield 34, 3) := by decide +kernel
theorem dX7_enough_43 : decode cX7_enough 43 = .ok (.invokevirtual 138, 3) := by decide +kernel
theorem dX7_enough_46 : decode cX7_enough 46 = .ok (.iconst 0, 1) := by decide +kernel
theorem dX7_enough_47 : decode cX7_enough 47 = .ok (.istore_n 3, 1) := by decide +kernel
theorem dX7_enough_48 : decode cX7_enough 48 = .ok (.iload_n 3, 1) := by decide +kernel
theorem dX7_enough_49 : decode cX7_enough 49 = .ok (.sipush 240, 3) := by decide +kernel
theorem dX7_enough_52 : decode cX7_enough 52 = .ok (.if_icmp .gt 32, 3) := by decide +kernel
theorem dX7_enough_55 : decode cX7_enough 55 = .ok (.aload_n 0, 1) := by decide +kernel
theorem dX7_enough_56 : decode cX7_enough 56 = .ok (.getfield 38, 3) := by decide +kernel
theorem dX7_enough_59 : decode cX7_enough 59 = .ok (.getfield 82, 3) := by decide +kernel
theorem dX7_enough_62 : decode cX7_enough 62 = .ok (.iload_n 1, 1) := by decide +kernel
theorem dX7_enough_63 : decode cX7_enough 63 = .ok (.iaload, 1) := by decide +kernel
theorem dX7_enough_64 : decode cX7_enough 64 = .ok (.iload_n 2, 1) := by decide +kernel
theorem dX7_enough_65 : decode cX7_enough 65 = .ok (.if_icmp .lt 5, 3) := by decide +kernel
theorem dX7_enough_68 : decode cX7_enough 68 = .ok (.iload_n 3, 1) := by decide +kernel
theorem dX7_enough_69 : decode cX7_enough 69 = .ok (.ireturn, 1) := by decide +kernel
theorem dX7_enough_70 : decode cX7_enough 70 = .ok (.aload_n 0, 1) := by decide +kernel
theorem dX7_enough_71 : decode cX7_enough 71 = .ok (.aload_n 0, 1) := by decide +kernel
theorem dX7_enough_72 : decode cX7_enough 72 = .ok (.getfield 38, 3) := by decide +kernel
theorem dX7_enough_75 : decode cX7_enough 75 = .ok (.invokevirtual 134, 3) := by decide +kernel
theorem dX7_enough_78 : decode cX7_enough 78 = .ok (.iinc 3 1, 3) := by decide +kernel
theorem dX7_enough_81 : decode cX7_enough 81 = .ok (.goto (-33), 3) := by decide +kernel
theorem dX7_enough_84 : decode cX7_enough 84 = .ok (.iconst (-1), 1) := by decide +kernel
theorem dX7_enough_85 : decode cX7_enough 85 = .ok (.ireturn, 1) := by decide +kernel
set_option maxRecDepth 20000 in
theorem ggX7_foresee_X7_isIn : GoodIn wsX7_foresee wsX7_isIn := goodIn_r _ [7] (by decide +kernel) (by decide +kernel)
set_option maxRecDepth 20000 in
theorem gX7_foresee_X7_isIn : GoodIn wsX7_foresee (va_wsS RX7 45 yX7_isIn wsX7_isIn) := goodIn_app (goodIn_of _ (by decide +kernel)) ggX7_foresee_X7_isIn
set_option maxRecDepth 20000 in
theorem ggX7_foresee_X7_no : GoodIn wsX7_foresee wsX7_no := goodIn_r _ [11, 1, 66, 67, 68, 69, 70, 71, 72, 73, 74, 75, 76, 77] (by decide +kernel) (by decide +kernel)
set_option maxRecDepth 20000 in
theorem gX7_foresee_X7_no : GoodIn wsX7_foresee (wsV RX7 88 RX7 yX7_no wsX7_no) := goodIn_app (goodIn_of _ (by decide +kernel)) ggX7_foresee_X7_no
set_option maxRecDepth 20000 in
theorem ggX7_foresee_X6_become : GoodIn wsX7_foresee wsX6_become := goodIn_r _ [16, 17, 18, 19, 20, 21, 22, 23, 24, 25, 78, 79, 80, 81, 82] (by decide +kernel) (by decide +kernel)
set_option maxRecDepth 20000 in
theorem gX7_foresee_X6_become : GoodIn wsX7_foresee (wsV RX7 138 RX6 yX6_become wsX6_become) := goodIn_app (goodIn_of _ (by decide +kernel)) ggX7_foresee_X6_become
set_option maxRecDepth 20000 in
theorem ggX7_foresee_X7_pass : GoodIn wsX7_foresee wsX7_pass := goodIn_r _ [29, 30, 31, 32, 33, 34, 35, 36, 37, 38, 6, 39, 40, 41, 42, 43, 44, 45, 46, 47, 48, 49, 50, 51, 52, 15, 53, 19, 54, 5, 7, 78, 79, 80, 81, 82, 66, 67, 68, 69, 70, 71, 72, 73, 74, 75, 76, 77] (by decide +kernel) (by decide +kernel)
set_option maxRecDepth 20000 in
theorem gX7_foresee_X7_pass : GoodIn wsX7_foresee (wsV RX7 134 RX7 yX7_pass wsX7_pass) := goodIn_app (goodIn_of _ (by decide +kernel)) ggX7_foresee_X7_pass
set_option maxRecDepth 20000 in
theorem ggX7_foresee_X7_counted : GoodIn wsX7_foresee wsX7_counted := goodIn_r _ [58, 59, 60, 61, 62, 30, 36, 37, 38, 6, 39, 31, 40, 63, 64, 65, 66, 67, 68, 69, 70, 71, 72, 73, 74, 75, 76, 77, 78, 79, 80, 81, 82] (by decide +kernel) (by decide +kernel)
set_option maxRecDepth 20000 in
theorem gX7_foresee_X7_counted : GoodIn wsX7_foresee (wsV RX7 130 RX7 yX7_counted wsX7_counted) := goodIn_app (goodIn_of _ (by decide +kernel)) ggX7_foresee_X7_counted
theorem dX7_foresee_0 : decode cX7_foresee 0 = .ok (.aload_n 0, 1) := by decide +kernel
theorem dX7_foresee_1 : decode cX7_foresee 1 = .ok (.iconst 0, 1) := by decide +kernel
theorem dX7_foresee_2 : decode cX7_foresee 2 = .ok (.putfield 41, 3) := by decide +kernel
theorem dX7_foresee_5 : decode cX7_foresee 5 = .ok (.iload_n 1, 1) := by decide +kernel
theorem dX7_foresee_6 : decode cX7_foresee 6 = .ok (.iconst 1, 1) := by decide +kernel
theorem dX7_foresee_7 : decode cX7_foresee 7 = .ok (.bipush 96, 2) := by decide +kernel
theorem dX7_foresee_9 : decode cX7_foresee 9 = .ok (.invokestatic 45, 3) := by decide +kernel
theorem dX7_foresee_12 : decode cX7_foresee 12 = .ok (.ifCond .ne 9, 3) := by decide +kernel
theorem dX7_foresee_15 : decode cX7_foresee 15 = .ok (.aload_n 0, 1) := by decide +kernel
theorem dX7_foresee_16 : decode cX7_foresee 16 = .ok (.iconst 1, 1) := by decide +kernel
theorem dX7_foresee_17 : decode cX7_foresee 17 = .ok (.invokevirtual 88, 3) := by decide +kernel
theorem dX7_foresee_20 : decode cX7_foresee 20 = .ok (.ireturn, 1) := by decide +kernel
theorem dX7_foresee_21 : decode cX7_foresee 21 = .ok (.iload_n 2, 1) := by decide +kernel
theorem dX7_foresee_22 : decode cX7_foresee 22 = .ok (.iconst 4, 1) := by decide +kernel
theorem dX7_foresee_23 : decode cX7_foresee 23 = .ok (.if_icmp .eq 21, 3) := by decide +kernel
theorem dX7_foresee_26 : decode cX7_foresee 26 = .ok (.iload_n 2, 1) := by decide +kernel
theorem dX7_foresee_27 : decode cX7_foresee 27 = .ok (.bipush 7, 2) := by decide +kernel
theorem dX7_foresee_29 : decode cX7_foresee 29 = .ok (.if_icmp .eq 15, 3) := by decide +kernel
theorem dX7_foresee_32 : decode cX7_foresee 32 = .ok (.iload_n 2, 1) := by decide +kernel
theorem dX7_foresee_33 : decode cX7_foresee 33 = .ok (.bipush 8, 2) := by decide +kernel
theorem dX7_foresee_35 : decode cX7_foresee 35 = .ok (.if_icmp .eq 9, 3) := by decide +kernel
theorem dX7_foresee_38 : decode cX7_foresee 38 = .ok (.aload_n 0, 1) := by decide +kernel
theorem dX7_foresee_39 : decode cX7_foresee 39 = .ok (.iconst 2, 1) := by decide +kernel
theorem dX7_foresee_40 : decode cX7_foresee 40 = .ok (.invokevirtual 88, 3) := by decide +kernel
theorem dX7_foresee_43 : decode cX7_foresee 43 = .ok (.ireturn, 1) := by decide +kernel
theorem dX7_foresee_44 : decode cX7_foresee 44 = .ok (.aload_n 0, 1) := by decide +kernel
theorem dX7_foresee_45 : decode cX7_foresee 45 = .ok (.getfield 38, 3) := by decide +kernel
theorem dX7_foresee_48 : decode cX7_foresee 48 = .ok (.aload_n 0, 1) := by decide +kernel
theorem dX7_foresee_49 : decode cX7_foresee 49 = .ok (.getfield 34, 3) := by decide +kernel
theorem dX7_foresee_52 : decode cX7_foresee 52 = .ok (.invokevirtual 138, 3) := by decide +kernel
theorem dX7_foresee_55 : decode cX7_foresee 55 = .ok (.iconst 0, 1) := by decide +kernel
theorem dX7_foresee_56 : decode cX7_foresee 56 = .ok (.istore_n 3, 1) := by decide +kernel
theorem dX7_foresee_57 : decode cX7_foresee 57 = .ok (.iload_n 3, 1) := by decide +kernel
theorem dX7_foresee_58 : decode cX7_foresee 58 = .ok (.iload_n 1, 1) := by decide +kernel
theorem dX7_foresee_59 : decode cX7_foresee 59 = .ok (.if_icmp .ge 17, 3) := by decide +kernel
theorem dX7_foresee_62 : decode cX7_foresee 62 = .ok (.aload_n 0, 1) := by decide +kernel
theorem dX7_foresee_63 : decode cX7_foresee 63 = .ok (.aload_n 0, 1) := by decide +kernel
theorem dX7_foresee_64 : decode cX7_foresee 64 = .ok (.getfield 38, 3) := by decide +kernel
theorem dX7_foresee_67 : decode cX7_foresee 67 = .ok (.invokevirtual 134, 3) := by decide +kernel
theorem dX7_foresee_70 : decode cX7_foresee 70 = .ok (.iinc 3 1, 3) := by decide +kernel
theorem dX7_foresee_73 : decode cX7_foresee 73 = .ok (.goto (-16), 3) := by decide +kernel
theorem dX7_foresee_76 : decode cX7_foresee 76 = .ok (.aload_n 0, 1) := by decide +kernel
theorem dX7_foresee_77 : decode cX7_foresee 77 = .ok (.aload_n 0, 1) := by decide +kernel
theorem dX7_foresee_78 : decode cX7_foresee 78 = .ok (.getfield 38, 3) := by decide +kernel
theorem dX7_foresee_81 : decode cX7_foresee 81 = .ok (.iload_n 2, 1) := by decide +kernel
theorem dX7_foresee_82 : decode cX7_foresee 82 = .ok (.invokevirtual 130, 3) := by decide +kernel
theorem dX7_foresee_85 : decode cX7_foresee 85 = .ok (.ireturn, 1) := by decide +kernel
set_option maxRecDepth 20000 in
theorem ggX7_gate_X7_isIn : GoodIn wsX7_gate wsX7_isIn := goodIn_r _ [6] (by decide +kernel) (by decide +kernel)
set_option maxRecDepth 20000 in
theorem gX7_gate_X7_isIn : GoodIn wsX7_gate (va_wsS RX7 45 yX7_isIn wsX7_isIn) := goodIn_app (goodIn_of _ (by decide +kernel)) ggX7_gate_X7_isIn
set_option maxRecDepth 20000 in
theorem ggX7_gate_X7_no : GoodIn wsX7_gate wsX7_no := goodIn_r _ [10, 1, 34, 35, 36, 37, 38, 39, 40, 41, 42, 43, 44, 45] (by decide +kernel) (by decide +kernel)
set_option maxRecDepth 20000 in
theorem gX7_gate_X7_no : GoodIn wsX7_gate (wsV RX7 88 RX7 yX7_no wsX7_no) := goodIn_app (goodIn_of _ (by decide +kernel)) ggX7_gate_X7_no
set_option maxRecDepth 20000 in
theorem ggX7_gate_X7_length : GoodIn wsX7_gate wsX7_length := goodIn_r _ [14, 15, 16, 17, 18, 19, 20, 21, 22, 23, 24, 5, 25, 26, 2, 34, 35, 36, 37, 38, 39, 40, 41, 42, 43, 44, 45, 46, 47, 48, 49, 50] (by decide +kernel) (by decide +kernel)
set_option maxRecDepth 20000 in
theorem gX7_gate_X7_length : GoodIn wsX7_gate (wsV RX7 105 RX7 yX7_length wsX7_length) := goodIn_app (goodIn_of _ (by decide +kernel)) ggX7_gate_X7_length
set_option maxRecDepth 20000 in
theorem ggX7_gate_X6_isBad : GoodIn wsX7_gate wsX6_isBad := goodIn_r _ [31, 32, 33, 46, 47, 48, 49, 50] (by decide +kernel) (by decide +kernel)
set_option maxRecDepth 20000 in
theorem gX7_gate_X6_isBad : GoodIn wsX7_gate (wsV RX7 108 RX6 yX6_isBad wsX6_isBad) := goodIn_app (goodIn_of _ (by decide +kernel)) ggX7_gate_X6_isBad
theorem dX7_gate_0 : decode cX7_gate 0 = .ok (.aload_n 0, 1) := by decide +kernel
theorem dX7_gate_1 : decode cX7_gate 1 = .ok (.iconst 0, 1) := by decide +kernel
theorem dX7_gate_2 : decode cX7_gate 2 = .ok (.putfield 41, 3) := by decide +kernel
theorem dX7_gate_5 : decode cX7_gate 5 = .ok (.iload_n 1, 1) := by decide +kernel
theorem dX7_gate_6 : decode cX7_gate 6 = .ok (.iconst 0, 1) := by decide +kernel
theorem dX7_gate_7 : decode cX7_gate 7 = .ok (.bipush 20, 2) := by decide +kernel
theorem dX7_gate_9 : decode cX7_gate 9 = .ok (.invokestatic 45, 3) := by decide +kernel
theorem dX7_gate_12 : decode cX7_gate 12 = .ok (.ifCond .ne 9, 3) := by decide +kernel
theorem dX7_gate_15 : decode cX7_gate 15 = .ok (.aload_n 0, 1) := by decide +kernel
theorem dX7_gate_16 : decode cX7_gate 16 = .ok (.iconst 1, 1) := by decide +kernel
theorem dX7_gate_17 : decode cX7_gate 17 = .ok (.invokevirtual 88, 3) := by decide +kernel
theorem dX7_gate_20 : decode cX7_gate 20 = .ok (.ireturn, 1) := by decide +kernel
theorem dX7_gate_21 : decode cX7_gate 21 = .ok (.bipush 20, 2) := by decide +kernel
theorem dX7_gate_23 : decode cX7_gate 23 = .ok (.istore_n 2, 1) := by decide +kernel
theorem dX7_gate_24 : decode cX7_gate 24 = .ok (.iload_n 2, 1) := by decide +kernel
theorem dX7_gate_25 : decode cX7_gate 25 = .ok (.ifCond .le 27, 3) := by decide +kernel
theorem dX7_gate_28 : decode cX7_gate 28 = .ok (.aload_n 0, 1) := by decide +kernel
theorem dX7_gate_29 : decode cX7_gate 29 = .ok (.getfield 34, 3) := by decide +kernel
theorem dX7_gate_32 : decode cX7_gate 32 = .ok (.aload_n 0, 1) := by decide +kernel
theorem dX7_gate_33 : decode cX7_gate 33 = .ok (.iload_n 2, 1) := by decide +kernel
theorem dX7_gate_34 : decode cX7_gate 34 = .ok (.iload_n 1, 1) := by decide +kernel
theorem dX7_gate_35 : decode cX7_gate 35 = .ok (.invokevirtual 105, 3) := by decide +kernel
theorem dX7_gate_38 : decode cX7_gate 38 = .ok (.iconst 5, 1) := by decide +kernel
theorem dX7_gate_39 : decode cX7_gate 39 = .ok (.idiv, 1) := by decide +kernel
theorem dX7_gate_40 : decode cX7_gate 40 = .ok (.invokevirtual 108, 3) := by decide +kernel
theorem dX7_gate_43 : decode cX7_gate 43 = .ok (.ifCond .eq 9, 3) := by decide +kernel
theorem dX7_gate_46 : decode cX7_gate 46 = .ok (.iinc 2 (-1), 3) := by decide +kernel
theorem dX7_gate_49 : decode cX7_gate 49 = .ok (.goto (-25), 3) := by decide +kernel
theorem dX7_gate_52 : decode cX7_gate 52 = .ok (.iload_n 2, 1) := by decide +kernel
theorem dX7_gate_53 : decode cX7_gate 53 = .ok (.ireturn, 1) := by decide +kernel
set_option maxRecDepth 20000 in
theorem ggX7_snowWith_X6_become : GoodIn wsX7_snowWith wsX6_become := goodIn_r _ [7, 8, 9, 10, 11, 12, 13, 14, 15, 16, 64, 65, 66, 67, 68] (by decide +kernel) (by decide +kernel)
set_option maxRecDepth 20000 in
theorem gX7_snowWith_X6_become : GoodIn wsX7_snowWith (wsV RX7 138 RX6 yX6_become wsX6_become) := goodIn_app (goodIn_of _ (by decide +kernel)) ggX7_snowWith_X6_become
set_option maxRecDepth 20000 in
theorem ggX7_snowWith_X7_pass : GoodIn wsX7_snowWith wsX7_pass := goodIn_r _ [21, 22, 23, 24, 25, 26, 27, 28, 29, 30, 20, 31, 32, 33, 34, 35, 36, 37, 38, 39, 40, 41, 42, 43, 44, 6, 45, 10, 46, 47, 48, 64, 65, 66, 67, 68, 52, 53, 54, 55, 56, 57, 58, 59, 60, 61, 62, 63] (by decide +kernel) (by decide +kernel)
set_option maxRecDepth 20000 in
theorem gX7_snowWith_X7_pass : GoodIn wsX7_snowWith (wsV RX7 134 RX7 yX7_pass wsX7_pass) := goodIn_app (goodIn_of _ (by decide +kernel)) ggX7_snowWith_X7_pass
set_option maxRecDepth 20000 in
theorem ggX7_snowWith_X7_sum : GoodIn wsX7_snowWith wsX7_sum := goodIn_r _ [51] (by decide +kernel) (by decide +kernel)
set_option maxRecDepth 20000 in
theorem gX7_snowWith_X7_sum : GoodIn wsX7_snowWith (va_wsS RX7 126 yX7_sum wsX7_sum) := goodIn_app (goodIn_of _ (by decide +kernel)) ggX7_snowWith_X7_sum
theorem dX7_snowWith_0 : decode cX7_snowWith 0 = .ok (.aload_n 0, 1) := by decide +kernel
theorem dX7_snowWith_1 : decode cX7_snowWith 1 = .ok (.getfield 38, 3) := by decide +kernel
theorem dX7_snowWith_4 : decode cX7_snowWith 4 = .ok (.aload_n 0, 1) := by decide +kernel
theorem dX7_snowWith_5 : decode cX7_snowWith 5 = .ok (.getfield 34, 3) := by decide +kernel
theorem dX7_snowWith_8 : decode cX7_snowWith 8 = .ok (.invokevirtual 138, 3) := by decide +kernel
theorem dX7_snowWith_11 : decode cX7_snowWith 11 = .ok (.iload_n 1, 1) := by decide +kernel
theorem dX7_snowWith_12 : decode cX7_snowWith 12 = .ok (.iconst (-1), 1) := by decide +kernel
theorem dX7_snowWith_13 : decode cX7_snowWith 13 = .ok (.if_icmp .eq 13, 3) := by decide +kernel
theorem dX7_snowWith_16 : decode cX7_snowWith 16 = .ok (.aload_n 0, 1) := by decide +kernel
theorem dX7_snowWith_17 : decode cX7_snowWith 17 = .ok (.getfield 38, 3) := by decide +kernel
theorem dX7_snowWith_20 : decode cX7_snowWith 20 = .ok (.getfield 52, 3) := by decide +kernel
theorem dX7_snowWith_23 : decode cX7_snowWith 23 = .ok (.iload_n 1, 1) := by decide +kernel
theorem dX7_snowWith_24 : decode cX7_snowWith 24 = .ok (.iconst 1, 1) := by decide +kernel
theorem dX7_snowWith_25 : decode cX7_snowWith 25 = .ok (.iastore, 1) := by decide +kernel
theorem dX7_snowWith_26 : decode cX7_snowWith 26 = .ok (.iconst 0, 1) := by decide +kernel
theorem dX7_snowWith_27 : decode cX7_snowWith 27 = .ok (.istore_n 3, 1) := by decide +kernel
theorem dX7_snowWith_28 : decode cX7_snowWith 28 = .ok (.iload_n 3, 1) := by decide +kernel
theorem dX7_snowWith_29 : decode cX7_snowWith 29 = .ok (.iload_n 2, 1) := by decide +kernel
theorem dX7_snowWith_30 : decode cX7_snowWith 30 = .ok (.if_icmp .ge 17, 3) := by decide +kernel
theorem dX7_snowWith_33 : decode cX7_snowWith 33 = .ok (.aload_n 0, 1) := by decide +kernel
theorem dX7_snowWith_34 : decode cX7_snowWith 34 = .ok (.aload_n 0, 1) := by decide +kernel
theorem dX7_snowWith_35 : decode cX7_snowWith 35 = .ok (.getfield 38, 3) := by decide +kernel
theorem dX7_snowWith_38 : decode cX7_snowWith 38 = .ok (.invokevirtual 134, 3) := by decide +kernel
theorem dX7_snowWith_41 : decode cX7_snowWith 41 = .ok (.iinc 3 1, 3) := by decide +kernel
theorem dX7_snowWith_44 : decode cX7_snowWith 44 = .ok (.goto (-16), 3) := by decide +kernel
theorem dX7_snowWith_47 : decode cX7_snowWith 47 = .ok (.aload_n 0, 1) := by decide +kernel
theorem dX7_snowWith_48 : decode cX7_snowWith 48 = .ok (.getfield 38, 3) := by decide +kernel
theorem dX7_snowWith_51 : decode cX7_snowWith 51 = .ok (.getfield 82, 3) := by decide +kernel
theorem dX7_snowWith_54 : decode cX7_snowWith 54 = .ok (.invokestatic 126, 3) := by decide +kernel
theorem dX7_snowWith_57 : decode cX7_snowWith 57 = .ok (.ireturn, 1) := by decide +kernel
set_option maxRecDepth 20000 in
theorem ggX7_advise_X7_isIn : GoodIn wsX7_advise wsX7_isIn := goodIn_r _ [7] (by decide +kernel) (by decide +kernel)
set_option maxRecDepth 20000 in
theorem gX7_advise_X7_isIn : GoodIn wsX7_advise (va_wsS RX7 45 yX7_isIn wsX7_isIn) := goodIn_app (goodIn_of _ (by decide +kernel)) ggX7_advise_X7_isIn
set_option maxRecDepth 20000 in
theorem ggX7_advise_X7_no : GoodIn wsX7_advise wsX7_no := goodIn_r _ [11, 1, 62, 63, 64, 65, 66, 67, 68, 69, 70, 71, 72, 73] (by decide +kernel) (by decide +kernel)
set_option maxRecDepth 20000 in
theorem gX7_advise_X7_no : GoodIn wsX7_advise (wsV RX7 88 RX7 yX7_no wsX7_no) := goodIn_app (goodIn_of _ (by decide +kernel)) ggX7_advise_X7_no
set_option maxRecDepth 20000 in
theorem ggX7_advise_X7_snowWith : GoodIn wsX7_advise wsX7_snowWith := goodIn_r _ [15, 16, 3, 17, 18, 19, 20, 21, 22, 23, 24, 25, 26, 27, 28, 29, 30, 31, 32, 33, 6, 34, 2, 35, 36, 37, 38, 39, 40, 41, 42, 43, 44, 45, 46, 47, 48, 49, 50, 51, 52, 53, 54, 55, 56, 57, 58, 5, 7, 59, 60, 61, 62, 63, 64, 65, 66, 67, 68, 69, 70, 71, 72, 73, 74, 75, 76, 77, 78] (by decide +kernel) (by decide +kernel)
set_option maxRecDepth 20000 in
theorem gX7_advise_X7_snowWith : GoodIn wsX7_advise (wsV RX7 141 RX7 yX7_snowWith wsX7_snowWith) := goodIn_app (goodIn_of _ (by decide +kernel)) ggX7_advise_X7_snowWith
theorem dX7_advise_0 : decode cX7_advise 0 = .ok (.aload_n 0, 1) := by decide +kernel
theorem dX7_advise_1 : decode cX7_advise 1 = .ok (.iconst 0, 1) := by decide +kernel
theorem dX7_advise_2 : decode cX7_advise 2 = .ok (.putfield 41, 3) := by decide +kernel
theorem dX7_advise_5 : decode cX7_advise 5 = .ok (.iload_n 1, 1) := by decide +kernel
theorem dX7_advise_6 : decode cX7_advise 6 = .ok (.iconst 1, 1) := by decide +kernel
theorem dX7_advise_7 : decode cX7_advise 7 = .ok (.bipush 96, 2) := by decide +kernel
theorem dX7_advise_9 : decode cX7_advise 9 = .ok (.invokestatic 45, 3) := by decide +kernel
theorem dX7_advise_12 : decode cX7_advise 12 = .ok (.ifCond .ne 9, 3) := by decide +kernel
theorem dX7_advise_15 : decode cX7_advise 15 = .ok (.aload_n 0, 1) := by decide +kernel
theorem dX7_advise_16 : decode cX7_advise 16 = .ok (.iconst 1, 1) := by decide +kernel
theorem dX7_advise_17 : decode cX7_advise 17 = .ok (.invokevirtual 88, 3) := by decide +kernel
theorem dX7_advise_20 : decode cX7_advise 20 = .ok (.ireturn, 1) := by decide +kernel
theorem dX7_advise_21 : decode cX7_advise 21 = .ok (.iconst (-1), 1) := by decide +kernel
theorem dX7_advise_22 : decode cX7_advise 22 = .ok (.istore_n 2, 1) := by decide +kernel
theorem dX7_advise_23 : decode cX7_advise 23 = .ok (.aload_n 0, 1) := by decide +kernel
theorem dX7_advise_24 : decode cX7_advise 24 = .ok (.iconst (-1), 1) := by decide +kernel
theorem dX7_advise_25 : decode cX7_advise 25 = .ok (.iload_n 1, 1) := by decide +kernel
theorem dX7_advise_26 : decode cX7_advise 26 = .ok (.invokevirtual 141, 3) := by decide +kernel
theorem dX7_advise_29 : decode cX7_advise 29 = .ok (.istore_n 3, 1) := by decide +kernel
theorem dX7_advise_30 : decode cX7_advise 30 = .ok (.iconst 0, 1) := by decide +kernel
theorem dX7_advise_31 : decode cX7_advise 31 = .ok (.istore 4, 2) := by decide +kernel
theorem dX7_advise_33 : decode cX7_advise 33 = .ok (.iload 4, 2) := by decide +kernel
theorem dX7_advise_35 : decode cX7_advise 35 = .ok (.aload_n 0, 1) := by decide +kernel
theorem dX7_advise_36 : decode cX7_advise 36 = .ok (.getfield 49, 3) := by decide +kernel
theorem dX7_advise_39 : decode cX7_advise 39 = .ok (.if_icmp .ge 50, 3) := by decide +kernel
theorem dX7_advise_42 : decode cX7_advise 42 = .ok (.aload_n 0, 1) := by decide +kernel
theorem dX7_advise_43 : decode cX7_advise 43 = .ok (.getfield 34, 3) := by decide +kernel
theorem dX7_advise_46 : decode cX7_advise 46 = .ok (.getfield 52, 3) := by decide +kernel
theorem dX7_advise_49 : decode cX7_advise 49 = .ok (.iload 4, 2) := by decide +kernel
theorem dX7_advise_51 : decode cX7_advise 51 = .ok (.iaload, 1) := by decide +kernel
theorem dX7_advise_52 : decode cX7_advise 52 = .ok (.iconst 1, 1) := by decide +kernel
theorem dX7_advise_53 : decode cX7_advise 53 = .ok (.if_icmp .ne 6, 3) := by decide +kernel
theorem dX7_advise_56 : decode cX7_advise 56 = .ok (.goto 27, 3) := by decide +kernel
theorem dX7_advise_59 : decode cX7_advise 59 = .ok (.aload_n 0, 1) := by decide +kernel
theorem dX7_advise_60 : decode cX7_advise 60 = .ok (.iload 4, 2) := by decide +kernel
theorem dX7_advise_62 : decode cX7_advise 62 = .ok (.iload_n 1, 1) := by decide +kernel
theorem dX7_advise_63 : decode cX7_advise 63 = .ok (.invokevirtual 141, 3) := by decide +kernel
theorem dX7_advise_66 : decode cX7_advise 66 = .ok (.istore 5, 2) := by decide +kernel
theorem dX7_advise_68 : decode cX7_advise 68 = .ok (.iload 5, 2) := by decide +kernel
theorem dX7_advise_70 : decode cX7_advise 70 = .ok (.iload_n 3, 1) := by decide +kernel
theorem dX7_advise_71 : decode cX7_advise 71 = .ok (.if_icmp .gt 6, 3) := by decide +kernel
theorem dX7_advise_74 : decode cX7_advise 74 = .ok (.goto 9, 3) := by decide +kernel
theorem dX7_advise_77 : decode cX7_advise 77 = .ok (.iload 5, 2) := by decide +kernel
theorem dX7_advise_79 : decode cX7_advise 79 = .ok (.istore_n 3, 1) := by decide +kernel
theorem dX7_advise_80 : decode cX7_advise 80 = .ok (.iload 4, 2) := by decide +kernel
theorem dX7_advise_82 : decode cX7_advise 82 = .ok (.istore_n 2, 1) := by decide +kernel
theorem dX7_advise_83 : decode cX7_advise 83 = .ok (.iinc 4 1, 3) := by decide +kernel
theorem dX7_advise_86 : decode cX7_advise 86 = .ok (.goto (-53), 3) := by decide +kernel
theorem dX7_advise_89 : decode cX7_advise 89 = .ok (.iload_n 2, 1) := by decide +kernel
theorem dX7_advise_90 : decode cX7_advise 90 = .ok (.ireturn, 1) := by decide +kernel
theorem dX7_mean_0 : decode cX7_mean 0 = .ok (.aload_n 0, 1) := by decide +kernel
theorem dX7_mean_1 : decode cX7_mean 1 = .ok (.iconst 0, 1) := by decide +kernel
theorem dX7_mean_2 : decode cX7_mean 2 = .ok (.putfield 41, 3) := by decide +kernel
theorem dX7_mean_5 : decode cX7_mean 5 = .ok (.iconst 0, 1) := by decide +kernel
theorem dX7_mean_6 : decode cX7_mean 6 = .ok (.istore_n 1, 1) := by decide +kernel
theorem dX7_mean_7 : decode cX7_mean 7 = .ok (.iconst 0, 1) := by decide +kernel
theorem dX7_mean_8 : decode cX7_mean 8 = .ok (.istore_n 2, 1) := by decide +kernel
theorem dX7_mean_9 : decode cX7_mean 9 = .ok (.iload_n 2, 1) := by decide +kernel
theorem dX7_mean_10 : decode cX7_mean 10 = .ok (.aload_n 0, 1) := by decide +kernel
theorem dX7_mean_11 : decode cX7_mean 11 = .ok (.getfield 102, 3) := by decide +kernel
theorem dX7_mean_14 : decode cX7_mean 14 = .ok (.if_icmp .ge 22, 3) := by decide +kernel
theorem dX7_mean_17 : decode cX7_mean 17 = .ok (.iload_n 1, 1) := by decide +kernel
theorem dX7_mean_18 : decode cX7_mean 18 = .ok (.aload_n 0, 1) := by decide +kernel
theorem dX7_mean_19 : decode cX7_mean 19 = .ok (.getfield 28, 3) := by decide +kernel
theorem dX7_mean_22 : decode cX7_mean 22 = .ok (.iconst 5, 1) := by decide +kernel
theorem dX7_mean_23 : decode cX7_mean 23 = .ok (.iload_n 2, 1) := by decide +kernel
theorem dX7_mean_24 : decode cX7_mean 24 = .ok (.imul, 1) := by decide +kernel
theorem dX7_mean_25 : decode cX7_mean 25 = .ok (.iconst 2, 1) := by decide +kernel
theorem dX7_mean_26 : decode cX7_mean 26 = .ok (.iadd, 1) := by decide +kernel
theorem dX7_mean_27 : decode cX7_mean 27 = .ok (.iaload, 1) := by decide +kernel
theorem dX7_mean_28 : decode cX7_mean 28 = .ok (.iadd, 1) := by decide +kernel
theorem dX7_mean_29 : decode cX7_mean 29 = .ok (.istore_n 1, 1) := by decide +kernel
theorem dX7_mean_30 : decode cX7_mean 30 = .ok (.iinc 2 1, 3) := by decide +kernel
theorem dX7_mean_33 : decode cX7_mean 33 = .ok (.goto (-24), 3) := by decide +kernel
theorem dX7_mean_36 : decode cX7_mean 36 = .ok (.aload_n 0, 1) := by decide +kernel
theorem dX7_mean_37 : decode cX7_mean 37 = .ok (.getfield 102, 3) := by decide +kernel
theorem dX7_mean_40 : decode cX7_mean 40 = .ok (.ifCond .ne 7, 3) := by decide +kernel
theorem dX7_mean_43 : decode cX7_mean 43 = .ok (.dconst 0, 1) := by decide +kernel
theorem dX7_mean_44 : decode cX7_mean 44 = .ok (.goto 11, 3) := by decide +kernel
theorem dX7_mean_47 : decode cX7_mean 47 = .ok (.iload_n 1, 1) := by decide +kernel
theorem dX7_mean_48 : decode cX7_mean 48 = .ok (.i2d, 1) := by decide +kernel
theorem dX7_mean_49 : decode cX7_mean 49 = .ok (.aload_n 0, 1) := by decide +kernel
theorem dX7_mean_50 : decode cX7_mean 50 = .ok (.getfield 102, 3) := by decide +kernel
theorem dX7_mean_53 : decode cX7_mean 53 = .ok (.i2d, 1) := by decide +kernel
theorem dX7_mean_54 : decode cX7_mean 54 = .ok (.ddiv, 1) := by decide +kernel
theorem dX7_mean_55 : decode cX7_mean 55 = .ok (.dreturn, 1) := by decide +kernel
set_option maxRecDepth 20000 in
theorem ggX7_digest_X7_counted : GoodIn wsX7_digest wsX7_counted := goodIn_r _ [18, 12, 13, 19, 7, 9, 20, 21, 22, 17, 23, 5, 6, 24, 25, 26, 49, 50, 51, 52, 53, 54, 55, 56, 57, 58, 59, 60, 61, 62, 63, 64, 65] (by decide +kernel) (by decide +kernel)
set_option maxRecDepth 20000 in
theorem gX7_digest_X7_counted : GoodIn wsX7_digest (wsV RX7 130 RX7 yX7_counted wsX7_counted) := goodIn_app (goodIn_of _ (by decide +kernel)) ggX7_digest_X7_counted
set_option maxRecDepth 20000 in
theorem ggX7_digest_X7_partTold : GoodIn wsX7_digest wsX7_partTold := goodIn_r _ [30, 9, 10, 4, 31, 32, 33, 34, 35, 36, 37, 49, 50, 51, 52, 53, 54, 55, 56, 57, 58, 59, 60, 61, 62, 63, 64, 65] (by decide +kernel) (by decide +kernel)
set_option maxRecDepth 20000 in
theorem gX7_digest_X7_partTold : GoodIn wsX7_digest (wsV RX7 123 RX7 yX7_partTold wsX7_partTold) := goodIn_app (goodIn_of _ (by decide +kernel)) ggX7_digest_X7_partTold
set_option maxRecDepth 20000 in
theorem ggX7_digest_X7_scoreOf : GoodIn wsX7_digest wsX7_scoreOf := goodIn_r _ [41, 12, 13, 42, 43, 44, 45, 46, 47, 48, 49, 50, 51, 52, 53, 54, 55, 56, 57, 58, 59, 60] (by decide +kernel) (by decide +kernel)
set_option maxRecDepth 20000 in
theorem gX7_digest_X7_scoreOf : GoodIn wsX7_digest (wsV RX7 120 RX7 yX7_scoreOf wsX7_scoreOf) := goodIn_app (goodIn_of _ (by decide +kernel)) ggX7_digest_X7_scoreOf
theorem dX7_digest_0 : decode cX7_digest 0 = .ok (.aload_n 0, 1) := by decide +kernel
theorem dX7_digest_1 : decode cX7_digest 1 = .ok (.iconst 0, 1) := by decide +kernel
theorem dX7_digest_2 : decode cX7_digest 2 = .ok (.putfield 41, 3) := by decide +kernel
theorem dX7_digest_5 : decode cX7_digest 5 = .ok (.ldc2_w 144, 3) := by decide +kernel
theorem dX7_digest_8 : decode cX7_digest 8 = .ok (.lstore_n 1, 1) := by decide +kernel
theorem dX7_digest_9 : decode cX7_digest 9 = .ok (.iconst 0, 1) := by decide +kernel
theorem dX7_digest_10 : decode cX7_digest 10 = .ok (.istore_n 3, 1) := by decide +kernel
theorem dX7_digest_11 : decode cX7_digest 11 = .ok (.iload_n 3, 1) := by decide +kernel
theorem dX7_digest_12 : decode cX7_digest 12 = .ok (.bipush 10, 2) := by decide +kernel
theorem dX7_digest_14 : decode cX7_digest 14 = .ok (.if_icmp .gt 26, 3) := by decide +kernel
theorem dX7_digest_17 : decode cX7_digest 17 = .ok (.lload_n 1, 1) := by decide +kernel
theorem dX7_digest_18 : decode cX7_digest 18 = .ok (.ldc2_w 146, 3) := by decide +kernel
theorem dX7_digest_21 : decode cX7_digest 21 = .ok (.lmul, 1) := by decide +kernel
theorem dX7_digest_22 : decode cX7_digest 22 = .ok (.aload_n 0, 1) := by decide +kernel
theorem dX7_digest_23 : decode cX7_digest 23 = .ok (.aload_n 0, 1) := by decide +kernel
theorem dX7_digest_24 : decode cX7_digest 24 = .ok (.getfield 34, 3) := by decide +kernel
theorem dX7_digest_27 : decode cX7_digest 27 = .ok (.iload_n 3, 1) := by decide +kernel
theorem dX7_digest_28 : decode cX7_digest 28 = .ok (.invokevirtual 130, 3) := by decide +kernel
theorem dX7_digest_31 : decode cX7_digest 31 = .ok (.i2l, 1) := by decide +kernel
theorem dX7_digest_32 : decode cX7_digest 32 = .ok (.ladd, 1) := by decide +kernel
theorem dX7_digest_33 : decode cX7_digest 33 = .ok (.lstore_n 1, 1) := by decide +kernel
theorem dX7_digest_34 : decode cX7_digest 34 = .ok (.iinc 3 1, 3) := by decide +kernel
theorem dX7_digest_37 : decode cX7_digest 37 = .ok (.goto (-26), 3) := by decide +kernel
theorem dX7_digest_40 : decode cX7_digest 40 = .ok (.iconst 0, 1) := by decide +kernel
theorem dX7_digest_41 : decode cX7_digest 41 = .ok (.istore_n 3, 1) := by decide +kernel
theorem dX7_digest_42 : decode cX7_digest 42 = .ok (.iload_n 3, 1) := by decide +kernel
theorem dX7_digest_43 : decode cX7_digest 43 = .ok (.bipush 20, 2) := by decide +kernel
theorem dX7_digest_45 : decode cX7_digest 45 = .ok (.if_icmp .ge 39, 3) := by decide +kernel
theorem dX7_digest_48 : decode cX7_digest 48 = .ok (.iconst 0, 1) := by decide +kernel
theorem dX7_digest_49 : decode cX7_digest 49 = .ok (.istore 4, 2) := by decide +kernel
theorem dX7_digest_51 : decode cX7_digest 51 = .ok (.iload 4, 2) := by decide +kernel
theorem dX7_digest_53 : decode cX7_digest 53 = .ok (.iconst 3, 1) := by decide +kernel
theorem dX7_digest_54 : decode cX7_digest 54 = .ok (.if_icmp .gt 24, 3) := by decide +kernel
theorem dX7_digest_57 : decode cX7_digest 57 = .ok (.lload_n 1, 1) := by decide +kernel
theorem dX7_digest_58 : decode cX7_digest 58 = .ok (.ldc2_w 146, 3) := by decide +kernel
theorem dX7_digest_61 : decode cX7_digest 61 = .ok (.lmul, 1) := by decide +kernel
theorem dX7_digest_62 : decode cX7_digest 62 = .ok (.aload_n 0, 1) := by decide +kernel
theorem dX7_digest_63 : decode cX7_digest 63 = .ok (.iload_n 3, 1) := by decide +kernel
theorem dX7_digest_64 : decode cX7_digest 64 = .ok (.iload 4, 2) := by decide +kernel
theorem dX7_digest_66 : decode cX7_digest 66 = .ok (.invokevirtual 123, 3) := by decide +kernel
theorem dX7_digest_69 : decode cX7_digest 69 = .ok (.i2l, 1) := by decide +kernel
theorem dX7_digest_70 : decode cX7_digest 70 = .ok (.ladd, 1) := by decide +kernel
theorem dX7_digest_71 : decode cX7_digest 71 = .ok (.lstore_n 1, 1) := by decide +kernel
theorem dX7_digest_72 : decode cX7_digest 72 = .ok (.iinc 4 1, 3) := by decide +kernel
theorem dX7_digest_75 : decode cX7_digest 75 = .ok (.goto (-24), 3) := by decide +kernel
theorem dX7_digest_78 : decode cX7_digest 78 = .ok (.iinc 3 1, 3) := by decide +kernel
theorem dX7_digest_81 : decode cX7_digest 81 = .ok (.goto (-39), 3) := by decide +kernel
theorem dX7_digest_84 : decode cX7_digest 84 = .ok (.iconst 0, 1) := by decide +kernel
theorem dX7_digest_85 : decode cX7_digest 85 = .ok (.istore_n 3, 1) := by decide +kernel
theorem dX7_digest_86 : decode cX7_digest 86 = .ok (.iload_n 3, 1) := by decide +kernel
theorem dX7_digest_87 : decode cX7_digest 87 = .ok (.bipush 24, 2) := by decide +kernel
theorem dX7_digest_89 : decode cX7_digest 89 = .ok (.if_icmp .ge 47, 3) := by decide +kernel
theorem dX7_digest_92 : decode cX7_digest 92 = .ok (.lload_n 1, 1) := by decide +kernel
theorem dX7_digest_93 : decode cX7_digest 93 = .ok (.ldc2_w 146, 3) := by decide +kernel
theorem dX7_digest_96 : decode cX7_digest 96 = .ok (.lmul, 1) := by decide +kernel
theorem dX7_digest_97 : decode cX7_digest 97 = .ok (.aload_n 0, 1) := by decide +kernel
theorem dX7_digest_98 : decode cX7_digest 98 = .ok (.getfield 9, 3) := by decide +kernel
theorem dX7_digest_101 : decode cX7_digest 101 = .ok (.iload_n 3, 1) := by decide +kernel
theorem dX7_digest_102 : decode cX7_digest 102 = .ok (.iaload, 1) := by decide +kernel
theorem dX7_digest_103 : decode cX7_digest 103 = .ok (.i2l, 1) := by decide +kernel
theorem dX7_digest_104 : decode cX7_digest 104 = .ok (.ladd, 1) := by decide +kernel
theorem dX7_digest_105 : decode cX7_digest 105 = .ok (.ldc2_w 146, 3) := by decide +kernel
theorem dX7_digest_108 : decode cX7_digest 108 = .ok (.lmul, 1) := by decide +kernel
theorem dX7_digest_109 : decode cX7_digest 109 = .ok (.aload_n 0, 1) := by decide +kernel
theorem dX7_digest_110 : decode cX7_digest 110 = .ok (.getfield 13, 3) := by decide +kernel
theorem dX7_digest_113 : decode cX7_digest 113 = .ok (.iload_n 3, 1) := by decide +kernel
theorem dX7_digest_114 : decode cX7_digest 114 = .ok (.iaload, 1) := by decide +kernel
theorem dX7_digest_115 : decode cX7_digest 115 = .ok (.i2l, 1) := by decide +kernel
theorem dX7_digest_116 : decode cX7_digest 116 = .ok (.ladd, 1) := by decide +kernel
theorem dX7_digest_117 : decode cX7_digest 117 = .ok (.ldc2_w 146, 3) := by decide +kernel
theorem dX7_digest_120 : decode cX7_digest 120 = .ok (.lmul, 1) := by decide +kernel
theorem dX7_digest_121 : decode cX7_digest 121 = .ok (.aload_n 0, 1) := by decide +kernel
theorem dX7_digest_122 : decode cX7_digest 122 = .ok (.getfield 16, 3) := by decide +kernel
theorem dX7_digest_125 : decode cX7_digest 125 = .ok (.iload_n 3, 1) := by decide +kernel
theorem dX7_digest_126 : decode cX7_digest 126 = .ok (.iaload, 1) := by decide +kernel
theorem dX7_digest_127 : decode cX7_digest 127 = .ok (.i2l, 1) := by decide +kernel
theorem dX7_digest_128 : decode cX7_digest 128 = .ok (.ladd, 1) := by decide +kernel
theorem dX7_digest_129 : decode cX7_digest 129 = .ok (.lstore_n 1, 1) := by decide +kernel
theorem dX7_digest_130 : decode cX7_digest 130 = .ok (.iinc 3 1, 3) := by decide +kernel
theorem dX7_digest_133 : decode cX7_digest 133 = .ok (.goto (-47), 3) := by decide +kernel
theorem dX7_digest_136 : decode cX7_digest 136 = .ok (.aload_n 0, 1) := by decide +kernel
theorem dX7_digest_137 : decode cX7_digest 137 = .ok (.getfield 25, 3) := by decide +kernel
theorem dX7_digest_140 : decode cX7_digest 140 = .ok (.astore_n 3, 1) := by decide +kernel
theorem dX7_digest_141 : decode cX7_digest 141 = .ok (.aload_n 3, 1) := by decide +kernel
theorem dX7_digest_142 : decode cX7_digest 142 = .ok (.arraylength, 1) := by decide +kernel
theorem dX7_digest_143 : decode cX7_digest 143 = .ok (.istore 4, 2) := by decide +kernel
theorem dX7_digest_145 : decode cX7_digest 145 = .ok (.iconst 0, 1) := by decide +kernel
theorem dX7_digest_146 : decode cX7_digest 146 = .ok (.istore 5, 2) := by decide +kernel
theorem dX7_digest_148 : decode cX7_digest 148 = .ok (.iload 5, 2) := by decide +kernel
theorem dX7_digest_150 : decode cX7_digest 150 = .ok (.iload 4, 2) := by decide +kernel
theorem dX7_digest_152 : decode cX7_digest 152 = .ok (.if_icmp .ge 25, 3) := by decide +kernel
theorem dX7_digest_155 : decode cX7_digest 155 = .ok (.aload_n 3, 1) := by decide +kernel
theorem dX7_digest_156 : decode cX7_digest 156 = .ok (.iload 5, 2) := by decide +kernel
theorem dX7_digest_158 : decode cX7_digest 158 = .ok (.iaload, 1) := by decide +kernel
theorem dX7_digest_159 : decode cX7_digest 159 = .ok (.istore 6, 2) := by decide +kernel
theorem dX7_digest_161 : decode cX7_digest 161 = .ok (.lload_n 1, 1) := by decide +kernel
theorem dX7_digest_162 : decode cX7_digest 162 = .ok (.ldc2_w 146, 3) := by decide +kernel
theorem dX7_digest_165 : decode cX7_digest 165 = .ok (.lmul, 1) := by decide +kernel
theorem dX7_digest_166 : decode cX7_digest 166 = .ok (.iload 6, 2) := by decide +kernel
theorem dX7_digest_168 : decode cX7_digest 168 = .ok (.i2l, 1) := by decide +kernel
theorem dX7_digest_169 : decode cX7_digest 169 = .ok (.ladd, 1) := by decide +kernel
theorem dX7_digest_170 : decode cX7_digest 170 = .ok (.lstore_n 1, 1) := by decide +kernel
theorem dX7_digest_171 : decode cX7_digest 171 = .ok (.iinc 5 1, 3) := by decide +kernel
theorem dX7_digest_174 : decode cX7_digest 174 = .ok (.goto (-26), 3) := by decide +kernel
theorem dX7_digest_177 : decode cX7_digest 177 = .ok (.iconst 0, 1) := by decide +kernel
theorem dX7_digest_178 : decode cX7_digest 178 = .ok (.istore_n 3, 1) := by decide +kernel
theorem dX7_digest_179 : decode cX7_digest 179 = .ok (.iload_n 3, 1) := by decide +kernel
theorem dX7_digest_180 : decode cX7_digest 180 = .ok (.aload_n 0, 1) := by decide +kernel
theorem dX7_digest_181 : decode cX7_digest 181 = .ok (.getfield 49, 3) := by decide +kernel
theorem dX7_digest_184 : decode cX7_digest 184 = .ok (.if_icmp .ge 50, 3) := by decide +kernel
theorem dX7_digest_187 : decode cX7_digest 187 = .ok (.lload_n 1, 1) := by decide +kernel
theorem dX7_digest_188 : decode cX7_digest 188 = .ok (.ldc2_w 146, 3) := by decide +kernel
theorem dX7_digest_191 : decode cX7_digest 191 = .ok (.lmul, 1) := by decide +kernel
theorem dX7_digest_192 : decode cX7_digest 192 = .ok (.aload_n 0, 1) := by decide +kernel
theorem dX7_digest_193 : decode cX7_digest 193 = .ok (.getfield 19, 3) := by decide +kernel
theorem dX7_digest_196 : decode cX7_digest 196 = .ok (.iload_n 3, 1) := by decide +kernel
theorem dX7_digest_197 : decode cX7_digest 197 = .ok (.iaload, 1) := by decide +kernel
theorem dX7_digest_198 : decode cX7_digest 198 = .ok (.i2l, 1) := by decide +kernel
theorem dX7_digest_199 : decode cX7_digest 199 = .ok (.ladd, 1) := by decide +kernel
theorem dX7_digest_200 : decode cX7_digest 200 = .ok (.ldc2_w 146, 3) := by decide +kernel
theorem dX7_digest_203 : decode cX7_digest 203 = .ok (.lmul, 1) := by decide +kernel
theorem dX7_digest_204 : decode cX7_digest 204 = .ok (.aload_n 0, 1) := by decide +kernel
theorem dX7_digest_205 : decode cX7_digest 205 = .ok (.getfield 22, 3) := by decide +kernel
theorem dX7_digest_208 : decode cX7_digest 208 = .ok (.iload_n 3, 1) := by decide +kernel
theorem dX7_digest_209 : decode cX7_digest 209 = .ok (.iaload, 1) := by decide +kernel
theorem dX7_digest_210 : decode cX7_digest 210 = .ok (.i2l, 1) := by decide +kernel
theorem dX7_digest_211 : decode cX7_digest 211 = .ok (.ladd, 1) := by decide +kernel
theorem dX7_digest_212 : decode cX7_digest 212 = .ok (.ldc2_w 146, 3) := by decide +kernel
theorem dX7_digest_215 : decode cX7_digest 215 = .ok (.lmul, 1) := by decide +kernel
theorem dX7_digest_216 : decode cX7_digest 216 = .ok (.aload_n 0, 1) := by decide +kernel
theorem dX7_digest_217 : decode cX7_digest 217 = .ok (.getfield 34, 3) := by decide +kernel
theorem dX7_digest_220 : decode cX7_digest 220 = .ok (.getfield 52, 3) := by decide +kernel
theorem dX7_digest_223 : decode cX7_digest 223 = .ok (.iload_n 3, 1) := by decide +kernel
theorem dX7_digest_224 : decode cX7_digest 224 = .ok (.iaload, 1) := by decide +kernel
theorem dX7_digest_225 : decode cX7_digest 225 = .ok (.i2l, 1) := by decide +kernel
theorem dX7_digest_226 : decode cX7_digest 226 = .ok (.ladd, 1) := by decide +kernel
theorem dX7_digest_227 : decode cX7_digest 227 = .ok (.lstore_n 1, 1) := by decide +kernel
theorem dX7_digest_228 : decode cX7_digest 228 = .ok (.iinc 3 1, 3) := by decide +kernel
theorem dX7_digest_231 : decode cX7_digest 231 = .ok (.goto (-52), 3) := by decide +kernel
theorem dX7_digest_234 : decode cX7_digest 234 = .ok (.iconst 0, 1) := by decide +kernel
theorem dX7_digest_235 : decode cX7_digest 235 = .ok (.istore_n 3, 1) := by decide +kernel
theorem dX7_digest_236 : decode cX7_digest 236 = .ok (.iload_n 3, 1) := by decide +kernel
theorem dX7_digest_237 : decode cX7_digest 237 = .ok (.iconst 5, 1) := by decide +kernel
theorem dX7_digest_238 : decode cX7_digest 238 = .ok (.aload_n 0, 1) := by decide +kernel
theorem dX7_digest_239 : decode cX7_digest 239 = .ok (.getfield 102, 3) := by decide +kernel
theorem dX7_digest_242 : decode cX7_digest 242 = .ok (.imul, 1) := by decide +kernel
theorem dX7_digest_243 : decode cX7_digest 243 = .ok (.if_icmp .ge 23, 3) := by decide +kernel
theorem dX7_digest_246 : decode cX7_digest 246 = .ok (.lload_n 1, 1) := by decide +kernel
theorem dX7_digest_247 : decode cX7_digest 247 = .ok (.ldc2_w 146, 3) := by decide +kernel
theorem dX7_digest_250 : decode cX7_digest 250 = .ok (.lmul, 1) := by decide +kernel
theorem dX7_digest_251 : decode cX7_digest 251 = .ok (.aload_n 0, 1) := by decide +kernel
theorem dX7_digest_252 : decode cX7_digest 252 = .ok (.getfield 28, 3) := by decide +kernel
theorem dX7_digest_255 : decode cX7_digest 255 = .ok (.iload_n 3, 1) := by decide +kernel
theorem dX7_digest_256 : decode cX7_digest 256 = .ok (.iaload, 1) := by decide +kernel
theorem dX7_digest_257 : decode cX7_digest 257 = .ok (.i2l, 1) := by decide +kernel
theorem dX7_digest_258 : decode cX7_digest 258 = .ok (.ladd, 1) := by decide +kernel
theorem dX7_digest_259 : decode cX7_digest 259 = .ok (.lstore_n 1, 1) := by decide +kernel
theorem dX7_digest_260 : decode cX7_digest 260 = .ok (.iinc 3 1, 3) := by decide +kernel
theorem dX7_digest_263 : decode cX7_digest 263 = .ok (.goto (-27), 3) := by decide +kernel
theorem dX7_digest_266 : decode cX7_digest 266 = .ok (.iconst 0, 1) := by decide +kernel
theorem dX7_digest_267 : decode cX7_digest 267 = .ok (.istore_n 3, 1) := by decide +kernel
theorem dX7_digest_268 : decode cX7_digest 268 = .ok (.iload_n 3, 1) := by decide +kernel
theorem dX7_digest_269 : decode cX7_digest 269 = .ok (.bipush 10, 2) := by decide +kernel
theorem dX7_digest_271 : decode cX7_digest 271 = .ok (.if_icmp .ge 22, 3) := by decide +kernel
theorem dX7_digest_274 : decode cX7_digest 274 = .ok (.lload_n 1, 1) := by decide +kernel
theorem dX7_digest_275 : decode cX7_digest 275 = .ok (.ldc2_w 146, 3) := by decide +kernel
theorem dX7_digest_278 : decode cX7_digest 278 = .ok (.lmul, 1) := by decide +kernel
theorem dX7_digest_279 : decode cX7_digest 279 = .ok (.aload_n 0, 1) := by decide +kernel
theorem dX7_digest_280 : decode cX7_digest 280 = .ok (.iload_n 3, 1) := by decide +kernel
theorem dX7_digest_281 : decode cX7_digest 281 = .ok (.invokevirtual 120, 3) := by decide +kernel
theorem dX7_digest_284 : decode cX7_digest 284 = .ok (.i2l, 1) := by decide +kernel
theorem dX7_digest_285 : decode cX7_digest 285 = .ok (.ladd, 1) := by decide +kernel
theorem dX7_digest_286 : decode cX7_digest 286 = .ok (.lstore_n 1, 1) := by decide +kernel
theorem dX7_digest_287 : decode cX7_digest 287 = .ok (.iinc 3 1, 3) := by decide +kernel
theorem dX7_digest_290 : decode cX7_digest 290 = .ok (.goto (-22), 3) := by decide +kernel
theorem dX7_digest_293 : decode cX7_digest 293 = .ok (.lload_n 1, 1) := by decide +kernel
theorem dX7_digest_294 : decode cX7_digest 294 = .ok (.lreturn, 1) := by decide +kernel
theorem dJ9_floorMod_7cf53_0 : decode cJ9_floorMod_7cf53 0 = .ok (.iload_n 0, 1) := by decide +kernel
theorem dJ9_floorMod_7cf53_1 : decode cJ9_floorMod_7cf53 1 = .ok (.iload_n 1, 1) := by decide +kernel
theorem dJ9_floorMod_7cf53_2 : decode cJ9_floorMod_7cf53 2 = .ok (.irem, 1) := by decide +kernel
theorem dJ9_floorMod_7cf53_3 : decode cJ9_floorMod_7cf53 3 = .ok (.istore_n 2, 1) := by decide +kernel
theorem dJ9_floorMod_7cf53_4 : decode cJ9_floorMod_7cf53 4 = .ok (.iload_n 0, 1) := by decide +kernel
theorem dJ9_floorMod_7cf53_5 : decode cJ9_floorMod_7cf53 5 = .ok (.iload_n 1, 1) := by decide +kernel
theorem dJ9_floorMod_7cf53_6 : decode cJ9_floorMod_7cf53 6 = .ok (.ixor, 1) := by decide +kernel
theorem dJ9_floorMod_7cf53_7 : decode cJ9_floorMod_7cf53 7 = .ok (.ifCond .ge 11, 3) := by decide +kernel
theorem dJ9_floorMod_7cf53_10 : decode cJ9_floorMod_7cf53 10 = .ok (.iload_n 2, 1) := by decide +kernel
theorem dJ9_floorMod_7cf53_11 : decode cJ9_floorMod_7cf53 11 = .ok (.ifCond .eq 7, 3) := by decide +kernel
theorem dJ9_floorMod_7cf53_14 : decode cJ9_floorMod_7cf53 14 = .ok (.iload_n 2, 1) := by decide +kernel
theorem dJ9_floorMod_7cf53_15 : decode cJ9_floorMod_7cf53 15 = .ok (.iload_n 1, 1) := by decide +kernel
theorem dJ9_floorMod_7cf53_16 : decode cJ9_floorMod_7cf53 16 = .ok (.iadd, 1) := by decide +kernel
theorem dJ9_floorMod_7cf53_17 : decode cJ9_floorMod_7cf53 17 = .ok (.ireturn, 1) := by decide +kernel
theorem dJ9_floorMod_7cf53_18 : decode cJ9_floorMod_7cf53 18 = .ok (.iload_n 2, 1) := by decide +kernel
theorem dJ9_floorMod_7cf53_19 : decode cJ9_floorMod_7cf53 19 = .ok (.ireturn, 1) := by decide +kernel
theorem dJ9_abs_0f7a4_0 : decode cJ9_abs_0f7a4 0 = .ok (.iload_n 0, 1) := by decide +kernel
theorem dJ9_abs_0f7a4_1 : decode cJ9_abs_0f7a4 1 = .ok (.ifCond .ge 8, 3) := by decide +kernel
theorem dJ9_abs_0f7a4_4 : decode cJ9_abs_0f7a4 4 = .ok (.iload_n 0, 1) := by decide +kernel
theorem dJ9_abs_0f7a4_5 : decode cJ9_abs_0f7a4 5 = .ok (.ineg, 1) := by decide +kernel
theorem dJ9_abs_0f7a4_6 : decode cJ9_abs_0f7a4 6 = .ok (.goto 4, 3) := by decide +kernel
theorem dJ9_abs_0f7a4_9 : decode cJ9_abs_0f7a4 9 = .ok (.iload_n 0, 1) := by decide +kernel
theorem dJ9_abs_0f7a4_10 : decode cJ9_abs_0f7a4 10 = .ok (.ireturn, 1) := by decide +kernel
theorem dJ9_max_7cf53_0 : decode cJ9_max_7cf53 0 = .ok (.iload_n 0, 1) := by decide +kernel
theorem dJ9_max_7cf53_1 : decode cJ9_max_7cf53 1 = .ok (.iload_n 1, 1) := by decide +kernel
theorem dJ9_max_7cf53_2 : decode cJ9_max_7cf53 2 = .ok (.if_icmp .lt 7, 3) := by decide +kernel
theorem dJ9_max_7cf53_5 : decode cJ9_max_7cf53 5 = .ok (.iload_n 0, 1) := by decide +kernel
theorem dJ9_max_7cf53_6 : decode cJ9_max_7cf53 6 = .ok (.goto 4, 3) := by decide +kernel
theorem dJ9_max_7cf53_9 : decode cJ9_max_7cf53 9 = .ok (.iload_n 1, 1) := by decide +kernel
theorem dJ9_max_7cf53_10 : decode cJ9_max_7cf53 10 = .ok (.ireturn, 1) := by decide +kernel
theorem dJ9_min_7cf53_0 : decode cJ9_min_7cf53 0 = .ok (.iload_n 0, 1) := by decide +kernel
theorem dJ9_min_7cf53_1 : decode cJ9_min_7cf53 1 = .ok (.iload_n 1, 1) := by decide +kernel
theorem dJ9_min_7cf53_2 : decode cJ9_min_7cf53 2 = .ok (.if_icmp .gt 7, 3) := by decide +kernel
theorem dJ9_min_7cf53_5 : decode cJ9_min_7cf53 5 = .ok (.iload_n 0, 1) := by decide +kernel
theorem dJ9_min_7cf53_6 : decode cJ9_min_7cf53 6 = .ok (.goto 4, 3) := by decide +kernel
theorem dJ9_min_7cf53_9 : decode cJ9_min_7cf53 9 = .ok (.iload_n 1, 1) := by decide +kernel
theorem dJ9_min_7cf53_10 : decode cJ9_min_7cf53 10 = .ok (.ireturn, 1) := by decide +kernel
set_option maxRecDepth 20000 in
theorem ggL_setWeather_X5_setWeather : GoodIn wsL_setWeather wsX5_setWeather := goodIn_ca (goodIn_ca (goodIn_r _ [7, 8, 9, 10, 11, 12, 13, 14, 15, 16, 17, 6, 18, 19, 20, 21, 22, 23, 24, 25, 26, 27, 28, 29, 30, 31, 32, 33, 34] (by decide +kernel) (by decide +kernel)) (goodIn_sub (fun _ h => List.mem_cons_of_mem _ (List.mem_append_left _ (List.mem_append_right _ h))) (by decide +kernel))) (goodIn_sub (fun _ h => List.mem_cons_of_mem _ (List.mem_append_right _ h)) (by decide +kernel))
set_option maxRecDepth 20000 in
theorem gL_setWeather_X5_setWeather : GoodIn wsL_setWeather (wsV RL 7 RX5 yX5_setWeather wsX5_setWeather) := goodIn_app (goodIn_of _ (by decide +kernel)) ggL_setWeather_X5_setWeather
theorem dL_setWeather_0 : decode cL_setWeather 0 = .ok (.aload 5, 2) := by decide +kernel
theorem dL_setWeather_2 : decode cL_setWeather 2 = .ok (.iconst 0, 1) := by decide +kernel
theorem dL_setWeather_3 : decode cL_setWeather 3 = .ok (.aload_n 0, 1) := by decide +kernel
theorem dL_setWeather_4 : decode cL_setWeather 4 = .ok (.iload_n 1, 1) := by decide +kernel
theorem dL_setWeather_5 : decode cL_setWeather 5 = .ok (.iload_n 2, 1) := by decide +kernel
theorem dL_setWeather_6 : decode cL_setWeather 6 = .ok (.iload_n 3, 1) := by decide +kernel
theorem dL_setWeather_7 : decode cL_setWeather 7 = .ok (.iload 4, 2) := by decide +kernel
theorem dL_setWeather_9 : decode cL_setWeather 9 = .ok (.invokevirtual 7, 3) := by decide +kernel
theorem dL_setWeather_12 : decode cL_setWeather 12 = .ok (.i2l, 1) := by decide +kernel
theorem dL_setWeather_13 : decode cL_setWeather 13 = .ok (.lastore, 1) := by decide +kernel
theorem dL_setWeather_14 : decode cL_setWeather 14 = .ok (.goto 11, 3) := by decide +kernel
theorem dL_setWeather_17 : decode cL_setWeather 17 = .ok (.astore 6, 2) := by decide +kernel
theorem dL_setWeather_19 : decode cL_setWeather 19 = .ok (.iconst 1, 1) := by decide +kernel
theorem dL_setWeather_20 : decode cL_setWeather 20 = .ok (.ireturn, 1) := by decide +kernel
theorem dL_setWeather_21 : decode cL_setWeather 21 = .ok (.astore 6, 2) := by decide +kernel
theorem dL_setWeather_23 : decode cL_setWeather 23 = .ok (.iconst 2, 1) := by decide +kernel
theorem dL_setWeather_24 : decode cL_setWeather 24 = .ok (.ireturn, 1) := by decide +kernel
theorem dL_setWeather_25 : decode cL_setWeather 25 = .ok (.iconst 0, 1) := by decide +kernel
theorem dL_setWeather_26 : decode cL_setWeather 26 = .ok (.ireturn, 1) := by decide +kernel
set_option maxRecDepth 20000 in
theorem ggL_pump_X5_pump : GoodIn wsL_pump wsX5_pump := goodIn_ca (goodIn_ca (goodIn_ca (goodIn_r _ [8, 9, 10, 11, 12, 13, 14, 15, 16, 17, 18, 7, 19, 20, 21, 22, 23, 24, 25, 26, 27, 28, 29, 30, 31, 32, 33, 34, 35, 36] (by decide +kernel) (by decide +kernel)) (goodIn_sub (fun _ h => List.mem_cons_of_mem _ (List.mem_append_left _ (List.mem_append_left _ (List.mem_append_right _ h)))) (by decide +kernel))) (goodIn_sub (fun _ h => List.mem_cons_of_mem _ (List.mem_append_left _ (List.mem_append_right _ h))) (by decide +kernel))) (goodIn_sub (fun _ h => List.mem_cons_of_mem _ (List.mem_append_right _ h)) (by decide +kernel))
set_option maxRecDepth 20000 in
theorem gL_pump_X5_pump : GoodIn wsL_pump (wsV RL 17 RX5 yX5_pump wsX5_pump) := goodIn_app (goodIn_of _ (by decide +kernel)) ggL_pump_X5_pump
theorem dL_pump_0 : decode cL_pump 0 = .ok (.aload_n 3, 1) := by decide +kernel
theorem dL_pump_1 : decode cL_pump 1 = .ok (.iconst 0, 1) := by decide +kernel
theorem dL_pump_2 : decode cL_pump 2 = .ok (.aload_n 0, 1) := by decide +kernel
theorem dL_pump_3 : decode cL_pump 3 = .ok (.iload_n 1, 1) := by decide +kernel
theorem dL_pump_4 : decode cL_pump 4 = .ok (.iload_n 2, 1) := by decide +kernel
theorem dL_pump_5 : decode cL_pump 5 = .ok (.invokevirtual 17, 3) := by decide +kernel
theorem dL_pump_8 : decode cL_pump 8 = .ok (.i2l, 1) := by decide +kernel
theorem dL_pump_9 : decode cL_pump 9 = .ok (.lastore, 1) := by decide +kernel
theorem dL_pump_10 : decode cL_pump 10 = .ok (.goto 15, 3) := by decide +kernel
theorem dL_pump_13 : decode cL_pump 13 = .ok (.astore 4, 2) := by decide +kernel
theorem dL_pump_15 : decode cL_pump 15 = .ok (.iconst 1, 1) := by decide +kernel
theorem dL_pump_16 : decode cL_pump 16 = .ok (.ireturn, 1) := by decide +kernel
theorem dL_pump_17 : decode cL_pump 17 = .ok (.astore 4, 2) := by decide +kernel
theorem dL_pump_19 : decode cL_pump 19 = .ok (.iconst 2, 1) := by decide +kernel
theorem dL_pump_20 : decode cL_pump 20 = .ok (.ireturn, 1) := by decide +kernel
theorem dL_pump_21 : decode cL_pump 21 = .ok (.astore 4, 2) := by decide +kernel
theorem dL_pump_23 : decode cL_pump 23 = .ok (.iconst 3, 1) := by decide +kernel
theorem dL_pump_24 : decode cL_pump 24 = .ok (.ireturn, 1) := by decide +kernel
theorem dL_pump_25 : decode cL_pump 25 = .ok (.iconst 0, 1) := by decide +kernel
theorem dL_pump_26 : decode cL_pump 26 = .ok (.ireturn, 1) := by decide +kernel
set_option maxRecDepth 20000 in
theorem ggL_run_X5_run : GoodIn wsL_run wsX5_run := goodIn_ca (goodIn_r _ [6, 7, 8, 9, 10, 11, 12, 13, 14, 5, 15, 16, 17, 18, 19, 20, 21, 22, 23, 24, 25, 26, 27, 28, 29, 30, 31] (by decide +kernel) (by decide +kernel)) (goodIn_sub (fun _ h => List.mem_cons_of_mem _ (List.mem_append_right _ h)) (by decide +kernel))
set_option maxRecDepth 20000 in
theorem gL_run_X5_run : GoodIn wsL_run (wsV RL 23 RX5 yX5_run wsX5_run) := goodIn_app (goodIn_of _ (by decide +kernel)) ggL_run_X5_run
theorem dL_run_0 : decode cL_run 0 = .ok (.aload_n 2, 1) := by decide +kernel
theorem dL_run_1 : decode cL_run 1 = .ok (.iconst 0, 1) := by decide +kernel
theorem dL_run_2 : decode cL_run 2 = .ok (.aload_n 0, 1) := by decide +kernel
theorem dL_run_3 : decode cL_run 3 = .ok (.iload_n 1, 1) := by decide +kernel
theorem dL_run_4 : decode cL_run 4 = .ok (.invokevirtual 23, 3) := by decide +kernel
theorem dL_run_7 : decode cL_run 7 = .ok (.ifCond .eq 7, 3) := by decide +kernel
theorem dL_run_10 : decode cL_run 10 = .ok (.lconst 1, 1) := by decide +kernel
theorem dL_run_11 : decode cL_run 11 = .ok (.goto 4, 3) := by decide +kernel
theorem dL_run_14 : decode cL_run 14 = .ok (.lconst 0, 1) := by decide +kernel
theorem dL_run_15 : decode cL_run 15 = .ok (.lastore, 1) := by decide +kernel
theorem dL_run_16 : decode cL_run 16 = .ok (.goto 6, 3) := by decide +kernel
theorem dL_run_19 : decode cL_run 19 = .ok (.astore_n 3, 1) := by decide +kernel
theorem dL_run_20 : decode cL_run 20 = .ok (.iconst 1, 1) := by decide +kernel
theorem dL_run_21 : decode cL_run 21 = .ok (.ireturn, 1) := by decide +kernel
theorem dL_run_22 : decode cL_run 22 = .ok (.iconst 0, 1) := by decide +kernel
theorem dL_run_23 : decode cL_run 23 = .ok (.ireturn, 1) := by decide +kernel
set_option maxRecDepth 20000 in
theorem ggL_fill_X5_fill : GoodIn wsL_fill wsX5_fill := goodIn_ca (goodIn_r _ [6, 7, 8, 9, 10, 11, 12, 13, 14, 15, 16, 5, 17, 18, 19, 20, 21, 22, 23, 24, 25, 26, 27, 28, 29, 30] (by decide +kernel) (by decide +kernel)) (goodIn_sub (fun _ h => List.mem_cons_of_mem _ (List.mem_append_right _ h)) (by decide +kernel))
set_option maxRecDepth 20000 in
theorem gL_fill_X5_fill : GoodIn wsL_fill (wsV RL 27 RX5 yX5_fill wsX5_fill) := goodIn_app (goodIn_of _ (by decide +kernel)) ggL_fill_X5_fill
theorem dL_fill_0 : decode cL_fill 0 = .ok (.aload_n 2, 1) := by decide +kernel
theorem dL_fill_1 : decode cL_fill 1 = .ok (.iconst 0, 1) := by decide +kernel
theorem dL_fill_2 : decode cL_fill 2 = .ok (.aload_n 0, 1) := by decide +kernel
theorem dL_fill_3 : decode cL_fill 3 = .ok (.iload_n 1, 1) := by decide +kernel
theorem dL_fill_4 : decode cL_fill 4 = .ok (.invokevirtual 27, 3) := by decide +kernel
theorem dL_fill_7 : decode cL_fill 7 = .ok (.i2l, 1) := by decide +kernel
theorem dL_fill_8 : decode cL_fill 8 = .ok (.lastore, 1) := by decide +kernel
theorem dL_fill_9 : decode cL_fill 9 = .ok (.goto 6, 3) := by decide +kernel
theorem dL_fill_12 : decode cL_fill 12 = .ok (.astore_n 3, 1) := by decide +kernel
theorem dL_fill_13 : decode cL_fill 13 = .ok (.iconst 1, 1) := by decide +kernel
theorem dL_fill_14 : decode cL_fill 14 = .ok (.ireturn, 1) := by decide +kernel
theorem dL_fill_15 : decode cL_fill 15 = .ok (.iconst 0, 1) := by decide +kernel
theorem dL_fill_16 : decode cL_fill 16 = .ok (.ireturn, 1) := by decide +kernel
set_option maxRecDepth 20000 in
theorem ggL_groom_X5_groom : GoodIn wsL_groom wsX5_groom := goodIn_ca (goodIn_ca (goodIn_r _ [7, 8, 9, 10, 11, 12, 13, 14, 6, 15, 16, 17, 18, 19, 20, 21, 22, 23, 24, 25, 26, 27, 28, 29, 30, 31, 32, 33, 34, 35] (by decide +kernel) (by decide +kernel)) (goodIn_sub (fun _ h => List.mem_cons_of_mem _ (List.mem_append_left _ (List.mem_append_right _ h))) (by decide +kernel))) (goodIn_sub (fun _ h => List.mem_cons_of_mem _ (List.mem_append_right _ h)) (by decide +kernel))
set_option maxRecDepth 20000 in
theorem gL_groom_X5_groom : GoodIn wsL_groom (wsV RL 31 RX5 yX5_groom wsX5_groom) := goodIn_app (goodIn_of _ (by decide +kernel)) ggL_groom_X5_groom
theorem dL_groom_0 : decode cL_groom 0 = .ok (.aload_n 3, 1) := by decide +kernel
theorem dL_groom_1 : decode cL_groom 1 = .ok (.iconst 0, 1) := by decide +kernel
theorem dL_groom_2 : decode cL_groom 2 = .ok (.aload_n 0, 1) := by decide +kernel
theorem dL_groom_3 : decode cL_groom 3 = .ok (.iload_n 1, 1) := by decide +kernel
theorem dL_groom_4 : decode cL_groom 4 = .ok (.iload_n 2, 1) := by decide +kernel
theorem dL_groom_5 : decode cL_groom 5 = .ok (.invokevirtual 31, 3) := by decide +kernel
theorem dL_groom_8 : decode cL_groom 8 = .ok (.i2l, 1) := by decide +kernel
theorem dL_groom_9 : decode cL_groom 9 = .ok (.lastore, 1) := by decide +kernel
theorem dL_groom_10 : decode cL_groom 10 = .ok (.goto 11, 3) := by decide +kernel
theorem dL_groom_13 : decode cL_groom 13 = .ok (.astore 4, 2) := by decide +kernel
theorem dL_groom_15 : decode cL_groom 15 = .ok (.iconst 1, 1) := by decide +kernel
theorem dL_groom_16 : decode cL_groom 16 = .ok (.ireturn, 1) := by decide +kernel
theorem dL_groom_17 : decode cL_groom 17 = .ok (.astore 4, 2) := by decide +kernel
theorem dL_groom_19 : decode cL_groom 19 = .ok (.iconst 2, 1) := by decide +kernel
theorem dL_groom_20 : decode cL_groom 20 = .ok (.ireturn, 1) := by decide +kernel
theorem dL_groom_21 : decode cL_groom 21 = .ok (.iconst 0, 1) := by decide +kernel
theorem dL_groom_22 : decode cL_groom 22 = .ok (.ireturn, 1) := by decide +kernel
set_option maxRecDepth 20000 in
theorem ggL_judge_X5_judge : GoodIn wsL_judge wsX5_judge := goodIn_ca (goodIn_ca (goodIn_r _ [7, 8, 9, 10, 11, 12, 13, 14, 15, 6, 16, 17, 18, 19, 20, 21, 22, 23] (by decide +kernel) (by decide +kernel)) (goodIn_sub (fun _ h => List.mem_cons_of_mem _ (List.mem_append_left _ (List.mem_append_right _ h))) (by decide +kernel))) (goodIn_sub (fun _ h => List.mem_cons_of_mem _ (List.mem_append_right _ h)) (by decide +kernel))
set_option maxRecDepth 20000 in
theorem gL_judge_X5_judge : GoodIn wsL_judge (wsV RL 34 RX5 yX5_judge wsX5_judge) := goodIn_app (goodIn_of _ (by decide +kernel)) ggL_judge_X5_judge
theorem dL_judge_0 : decode cL_judge 0 = .ok (.aload_n 3, 1) := by decide +kernel
theorem dL_judge_1 : decode cL_judge 1 = .ok (.iconst 0, 1) := by decide +kernel
theorem dL_judge_2 : decode cL_judge 2 = .ok (.aload_n 0, 1) := by decide +kernel
theorem dL_judge_3 : decode cL_judge 3 = .ok (.iload_n 1, 1) := by decide +kernel
theorem dL_judge_4 : decode cL_judge 4 = .ok (.iload_n 2, 1) := by decide +kernel
theorem dL_judge_5 : decode cL_judge 5 = .ok (.invokevirtual 34, 3) := by decide +kernel
theorem dL_judge_8 : decode cL_judge 8 = .ok (.i2l, 1) := by decide +kernel
theorem dL_judge_9 : decode cL_judge 9 = .ok (.lastore, 1) := by decide +kernel
theorem dL_judge_10 : decode cL_judge 10 = .ok (.goto 11, 3) := by decide +kernel
theorem dL_judge_13 : decode cL_judge 13 = .ok (.astore 4, 2) := by decide +kernel
theorem dL_judge_15 : decode cL_judge 15 = .ok (.iconst 1, 1) := by decide +kernel
theorem dL_judge_16 : decode cL_judge 16 = .ok (.ireturn, 1) := by decide +kernel
theorem dL_judge_17 : decode cL_judge 17 = .ok (.astore 4, 2) := by decide +kernel
theorem dL_judge_19 : decode cL_judge 19 = .ok (.iconst 2, 1) := by decide +kernel
theorem dL_judge_20 : decode cL_judge 20 = .ok (.ireturn, 1) := by decide +kernel
theorem dL_judge_21 : decode cL_judge 21 = .ok (.iconst 0, 1) := by decide +kernel
theorem dL_judge_22 : decode cL_judge 22 = .ok (.ireturn, 1) := by decide +kernel
set_option maxRecDepth 20000 in
theorem ggL_jump_X5_jump : GoodIn wsL_jump wsX5_jump := goodIn_ca (goodIn_ca (goodIn_r _ [7, 8, 9, 10, 11, 12, 13, 14, 15, 16, 17, 18, 19, 20, 6, 21, 22, 23, 24, 25, 26, 27, 28, 29, 30, 31, 32, 33, 34, 35, 36, 37, 38, 39, 40, 41, 42, 43, 44, 45, 46, 47, 48, 49, 50, 51, 52, 53, 54, 55, 56, 57, 58, 59, 60, 61, 62, 63, 64, 65, 66, 67, 68, 69, 70, 71, 72, 73, 74, 75, 76, 77, 78, 79, 80, 81, 82, 83, 84, 85, 86, 87, 88, 89, 90, 91, 92, 93, 94, 95, 96, 97, 98, 99, 100] (by decide +kernel) (by decide +kernel)) (goodIn_sub (fun _ h => List.mem_cons_of_mem _ (List.mem_append_left _ (List.mem_append_right _ h))) (by decide +kernel))) (goodIn_sub (fun _ h => List.mem_cons_of_mem _ (List.mem_append_right _ h)) (by decide +kernel))
set_option maxRecDepth 20000 in
theorem gL_jump_X5_jump : GoodIn wsL_jump (wsV RL 37 RX5 yX5_jump wsX5_jump) := goodIn_app (goodIn_of _ (by decide +kernel)) ggL_jump_X5_jump
theorem dL_jump_0 : decode cL_jump 0 = .ok (.aload 4, 2) := by decide +kernel
theorem dL_jump_2 : decode cL_jump 2 = .ok (.iconst 0, 1) := by decide +kernel
theorem dL_jump_3 : decode cL_jump 3 = .ok (.aload_n 0, 1) := by decide +kernel
theorem dL_jump_4 : decode cL_jump 4 = .ok (.iload_n 1, 1) := by decide +kernel
theorem dL_jump_5 : decode cL_jump 5 = .ok (.iload_n 2, 1) := by decide +kernel
theorem dL_jump_6 : decode cL_jump 6 = .ok (.iload_n 3, 1) := by decide +kernel
theorem dL_jump_7 : decode cL_jump 7 = .ok (.invokevirtual 37, 3) := by decide +kernel
theorem dL_jump_10 : decode cL_jump 10 = .ok (.i2l, 1) := by decide +kernel
theorem dL_jump_11 : decode cL_jump 11 = .ok (.lastore, 1) := by decide +kernel
theorem dL_jump_12 : decode cL_jump 12 = .ok (.goto 11, 3) := by decide +kernel
theorem dL_jump_15 : decode cL_jump 15 = .ok (.astore 5, 2) := by decide +kernel
theorem dL_jump_17 : decode cL_jump 17 = .ok (.iconst 1, 1) := by decide +kernel
theorem dL_jump_18 : decode cL_jump 18 = .ok (.ireturn, 1) := by decide +kernel
theorem dL_jump_19 : decode cL_jump 19 = .ok (.astore 5, 2) := by decide +kernel
theorem dL_jump_21 : decode cL_jump 21 = .ok (.iconst 2, 1) := by decide +kernel
theorem dL_jump_22 : decode cL_jump 22 = .ok (.ireturn, 1) := by decide +kernel
theorem dL_jump_23 : decode cL_jump 23 = .ok (.iconst 0, 1) := by decide +kernel
theorem dL_jump_24 : decode cL_jump 24 = .ok (.ireturn, 1) := by decide +kernel
set_option maxRecDepth 20000 in
theorem ggL_told_X5_told : GoodIn wsL_told wsX5_told := goodIn_ca (goodIn_r _ [6, 7, 8, 9, 10, 11, 12, 5, 13, 14, 15, 16, 17, 18, 19, 20, 21, 22, 23, 24, 25, 26, 27, 28, 29, 30, 31, 32, 33, 34, 35] (by decide +kernel) (by decide +kernel)) (goodIn_sub (fun _ h => List.mem_cons_of_mem _ (List.mem_append_right _ h)) (by decide +kernel))
set_option maxRecDepth 20000 in
theorem gL_told_X5_told : GoodIn wsL_told (wsV RL 41 RX5 yX5_told wsX5_told) := goodIn_app (goodIn_of _ (by decide +kernel)) ggL_told_X5_told
theorem dL_told_0 : decode cL_told 0 = .ok (.aload_n 3, 1) := by decide +kernel
theorem dL_told_1 : decode cL_told 1 = .ok (.iconst 0, 1) := by decide +kernel
theorem dL_told_2 : decode cL_told 2 = .ok (.aload_n 0, 1) := by decide +kernel
theorem dL_told_3 : decode cL_told 3 = .ok (.iload_n 1, 1) := by decide +kernel
theorem dL_told_4 : decode cL_told 4 = .ok (.iload_n 2, 1) := by decide +kernel
theorem dL_told_5 : decode cL_told 5 = .ok (.invokevirtual 41, 3) := by decide +kernel
theorem dL_told_8 : decode cL_told 8 = .ok (.i2l, 1) := by decide +kernel
theorem dL_told_9 : decode cL_told 9 = .ok (.lastore, 1) := by decide +kernel
theorem dL_told_10 : decode cL_told 10 = .ok (.goto 7, 3) := by decide +kernel
theorem dL_told_13 : decode cL_told 13 = .ok (.astore 4, 2) := by decide +kernel
theorem dL_told_15 : decode cL_told 15 = .ok (.iconst 1, 1) := by decide +kernel
theorem dL_told_16 : decode cL_told 16 = .ok (.ireturn, 1) := by decide +kernel
theorem dL_told_17 : decode cL_told 17 = .ok (.iconst 0, 1) := by decide +kernel
theorem dL_told_18 : decode cL_told 18 = .ok (.ireturn, 1) := by decide +kernel
set_option maxRecDepth 20000 in
theorem ggL_score_X5_score : GoodIn wsL_score wsX5_score := goodIn_ca (goodIn_r _ [6, 7, 8, 9, 10, 11, 5, 12, 13, 14, 15, 16, 17, 18, 19, 20, 21, 22, 23, 24, 25, 26, 27, 28, 29, 30, 31, 32, 33, 34, 35, 36, 37, 38, 39] (by decide +kernel) (by decide +kernel)) (goodIn_sub (fun _ h => List.mem_cons_of_mem _ (List.mem_append_right _ h)) (by decide +kernel))
set_option maxRecDepth 20000 in
theorem gL_score_X5_score : GoodIn wsL_score (wsV RL 44 RX5 yX5_score wsX5_score) := goodIn_app (goodIn_of _ (by decide +kernel)) ggL_score_X5_score
theorem dL_score_0 : decode cL_score 0 = .ok (.aload_n 2, 1) := by decide +kernel
theorem dL_score_1 : decode cL_score 1 = .ok (.iconst 0, 1) := by decide +kernel
theorem dL_score_2 : decode cL_score 2 = .ok (.aload_n 0, 1) := by decide +kernel
theorem dL_score_3 : decode cL_score 3 = .ok (.iload_n 1, 1) := by decide +kernel
theorem dL_score_4 : decode cL_score 4 = .ok (.invokevirtual 44, 3) := by decide +kernel
theorem dL_score_7 : decode cL_score 7 = .ok (.i2l, 1) := by decide +kernel
theorem dL_score_8 : decode cL_score 8 = .ok (.lastore, 1) := by decide +kernel
theorem dL_score_9 : decode cL_score 9 = .ok (.goto 6, 3) := by decide +kernel
theorem dL_score_12 : decode cL_score 12 = .ok (.astore_n 3, 1) := by decide +kernel
theorem dL_score_13 : decode cL_score 13 = .ok (.iconst 1, 1) := by decide +kernel
theorem dL_score_14 : decode cL_score 14 = .ok (.ireturn, 1) := by decide +kernel
theorem dL_score_15 : decode cL_score 15 = .ok (.iconst 0, 1) := by decide +kernel
theorem dL_score_16 : decode cL_score 16 = .ok (.ireturn, 1) := by decide +kernel
set_option maxRecDepth 20000 in
theorem ggL_part_X5_part : GoodIn wsL_part wsX5_part := goodIn_ca (goodIn_r _ [6, 7, 8, 9, 10, 5, 11, 12, 13, 14, 15, 16, 17, 18, 19, 20, 21, 22, 23, 24, 25, 26, 27, 28, 29, 30, 31, 32, 33, 34, 35, 36, 37, 38, 39, 40, 41, 42, 43, 44, 45, 46, 47, 48, 49] (by decide +kernel) (by decide +kernel)) (goodIn_sub (fun _ h => List.mem_cons_of_mem _ (List.mem_append_right _ h)) (by decide +kernel))
set_option maxRecDepth 20000 in
theorem gL_part_X5_part : GoodIn wsL_part (wsV RL 47 RX5 yX5_part wsX5_part) := goodIn_app (goodIn_of _ (by decide +kernel)) ggL_part_X5_part
theorem dL_part_0 : decode cL_part 0 = .ok (.aload_n 3, 1) := by decide +kernel
theorem dL_part_1 : decode cL_part 1 = .ok (.iconst 0, 1) := by decide +kernel
theorem dL_part_2 : decode cL_part 2 = .ok (.aload_n 0, 1) := by decide +kernel
theorem dL_part_3 : decode cL_part 3 = .ok (.iload_n 1, 1) := by decide +kernel
theorem dL_part_4 : decode cL_part 4 = .ok (.iload_n 2, 1) := by decide +kernel
theorem dL_part_5 : decode cL_part 5 = .ok (.invokevirtual 47, 3) := by decide +kernel
theorem dL_part_8 : decode cL_part 8 = .ok (.i2l, 1) := by decide +kernel
theorem dL_part_9 : decode cL_part 9 = .ok (.lastore, 1) := by decide +kernel
theorem dL_part_10 : decode cL_part 10 = .ok (.goto 7, 3) := by decide +kernel
theorem dL_part_13 : decode cL_part 13 = .ok (.astore 4, 2) := by decide +kernel
theorem dL_part_15 : decode cL_part 15 = .ok (.iconst 1, 1) := by decide +kernel
theorem dL_part_16 : decode cL_part 16 = .ok (.ireturn, 1) := by decide +kernel
theorem dL_part_17 : decode cL_part 17 = .ok (.iconst 0, 1) := by decide +kernel
theorem dL_part_18 : decode cL_part 18 = .ok (.ireturn, 1) := by decide +kernel
set_option maxRecDepth 20000 in
theorem ggL_count_X5_count : GoodIn wsL_count wsX5_count := goodIn_ca (goodIn_r _ [6, 7, 8, 9, 10, 5, 11, 12, 13, 14, 15, 16, 17, 18, 19, 20, 21, 22, 23, 24, 25, 26, 27, 28, 29, 30, 31, 32, 33, 34, 35, 36, 37, 38, 39, 40, 41, 42, 43, 44, 45, 46, 47, 48, 49, 50, 51, 52, 53, 54, 55, 56, 57, 58, 59, 60, 61, 62, 63, 64, 65, 66, 67, 68, 69, 70, 71, 72, 73, 74, 75, 76, 77, 78, 79, 80, 81, 82, 83, 84, 85, 86, 87, 88, 89] (by decide +kernel) (by decide +kernel)) (goodIn_sub (fun _ h => List.mem_cons_of_mem _ (List.mem_append_right _ h)) (by decide +kernel))
set_option maxRecDepth 20000 in
theorem gL_count_X5_count : GoodIn wsL_count (wsV RL 50 RX5 yX5_count wsX5_count) := goodIn_app (goodIn_of _ (by decide +kernel)) ggL_count_X5_count
theorem dL_count_0 : decode cL_count 0 = .ok (.aload_n 2, 1) := by decide +kernel
theorem dL_count_1 : decode cL_count 1 = .ok (.iconst 0, 1) := by decide +kernel
theorem dL_count_2 : decode cL_count 2 = .ok (.aload_n 0, 1) := by decide +kernel
theorem dL_count_3 : decode cL_count 3 = .ok (.iload_n 1, 1) := by decide +kernel
theorem dL_count_4 : decode cL_count 4 = .ok (.invokevirtual 50, 3) := by decide +kernel
theorem dL_count_7 : decode cL_count 7 = .ok (.i2l, 1) := by decide +kernel
theorem dL_count_8 : decode cL_count 8 = .ok (.lastore, 1) := by decide +kernel
theorem dL_count_9 : decode cL_count 9 = .ok (.goto 6, 3) := by decide +kernel
theorem dL_count_12 : decode cL_count 12 = .ok (.astore_n 3, 1) := by decide +kernel
theorem dL_count_13 : decode cL_count 13 = .ok (.iconst 1, 1) := by decide +kernel
theorem dL_count_14 : decode cL_count 14 = .ok (.ireturn, 1) := by decide +kernel
theorem dL_count_15 : decode cL_count 15 = .ok (.iconst 0, 1) := by decide +kernel
theorem dL_count_16 : decode cL_count 16 = .ok (.ireturn, 1) := by decide +kernel
set_option maxRecDepth 20000 in
theorem ggL_pass_X5_pass : GoodIn wsL_pass wsX5_pass := goodIn_ca (goodIn_r _ [6, 7, 8, 9, 10, 11, 5, 12, 13, 14, 15, 16, 17, 18, 19, 20, 21, 22, 23, 24, 25, 26, 27, 28, 29, 30, 31, 32, 33, 34, 35, 36, 37, 38, 39, 40, 41, 42, 43, 44, 45, 46, 47, 48, 49, 50, 51, 52, 53, 54, 55, 56, 57, 58, 59, 60, 61, 62, 63, 64, 65, 66, 67, 68, 69, 70, 71, 72, 73, 74, 75, 76, 77, 78, 79, 80, 81, 82, 83, 84, 85, 86, 87, 88, 89, 90, 91, 92, 93, 94, 95, 96, 97, 98] (by decide +kernel) (by decide +kernel)) (goodIn_sub (fun _ h => List.mem_cons_of_mem _ (List.mem_append_right _ h)) (by decide +kernel))
set_option maxRecDepth 20000 in
theorem gL_pass_X5_pass : GoodIn wsL_pass (wsV RL 53 RX5 yX5_pass wsX5_pass) := goodIn_app (goodIn_of _ (by decide +kernel)) ggL_pass_X5_pass
theorem dL_pass_0 : decode cL_pass 0 = .ok (.aload_n 2, 1) := by decide +kernel
theorem dL_pass_1 : decode cL_pass 1 = .ok (.iconst 0, 1) := by decide +kernel
theorem dL_pass_2 : decode cL_pass 2 = .ok (.aload_n 0, 1) := by decide +kernel
theorem dL_pass_3 : decode cL_pass 3 = .ok (.iload_n 1, 1) := by decide +kernel
theorem dL_pass_4 : decode cL_pass 4 = .ok (.invokevirtual 53, 3) := by decide +kernel
theorem dL_pass_7 : decode cL_pass 7 = .ok (.i2l, 1) := by decide +kernel
theorem dL_pass_8 : decode cL_pass 8 = .ok (.lastore, 1) := by decide +kernel
theorem dL_pass_9 : decode cL_pass 9 = .ok (.goto 6, 3) := by decide +kernel
theorem dL_pass_12 : decode cL_pass 12 = .ok (.astore_n 3, 1) := by decide +kernel
theorem dL_pass_13 : decode cL_pass 13 = .ok (.iconst 1, 1) := by decide +kernel
theorem dL_pass_14 : decode cL_pass 14 = .ok (.ireturn, 1) := by decide +kernel
theorem dL_pass_15 : decode cL_pass 15 = .ok (.iconst 0, 1) := by decide +kernel
theorem dL_pass_16 : decode cL_pass 16 = .ok (.ireturn, 1) := by decide +kernel
set_option maxRecDepth 20000 in
theorem ggL_enough_X5_enough : GoodIn wsL_enough wsX5_enough := goodIn_ca (goodIn_ca (goodIn_r _ [7, 8, 9, 10, 11, 12, 13, 14, 15, 16, 6, 17, 18, 19, 20, 21, 22, 23, 24, 25, 26, 27, 28, 29, 30, 31, 32, 33, 34, 35, 36, 37, 38, 39, 40, 41, 42, 43, 44, 45, 46, 47, 48, 49, 50, 51, 52, 53, 54, 55, 56, 57, 58, 59, 60, 61, 62, 63, 64, 65, 66, 67, 68, 69, 70, 71, 72, 73, 74, 75, 76, 77, 78, 79, 80, 81, 82, 83, 84, 85, 86, 87, 88, 89, 90, 91, 92, 93, 94, 95, 96, 97] (by decide +kernel) (by decide +kernel)) (goodIn_sub (fun _ h => List.mem_cons_of_mem _ (List.mem_append_left _ (List.mem_append_right _ h))) (by decide +kernel))) (goodIn_sub (fun _ h => List.mem_cons_of_mem _ (List.mem_append_right _ h)) (by decide +kernel))
set_option maxRecDepth 20000 in
theorem gL_enough_X5_enough : GoodIn wsL_enough (wsV RL 56 RX5 yX5_enough wsX5_enough) := goodIn_app (goodIn_of _ (by decide +kernel)) ggL_enough_X5_enough
theorem dL_enough_0 : decode cL_enough 0 = .ok (.aload_n 3, 1) := by decide +kernel
theorem dL_enough_1 : decode cL_enough 1 = .ok (.iconst 0, 1) := by decide +kernel
theorem dL_enough_2 : decode cL_enough 2 = .ok (.aload_n 0, 1) := by decide +kernel
theorem dL_enough_3 : decode cL_enough 3 = .ok (.iload_n 1, 1) := by decide +kernel
theorem dL_enough_4 : decode cL_enough 4 = .ok (.iload_n 2, 1) := by decide +kernel
theorem dL_enough_5 : decode cL_enough 5 = .ok (.invokevirtual 56, 3) := by decide +kernel
theorem dL_enough_8 : decode cL_enough 8 = .ok (.i2l, 1) := by decide +kernel
theorem dL_enough_9 : decode cL_enough 9 = .ok (.lastore, 1) := by decide +kernel
theorem dL_enough_10 : decode cL_enough 10 = .ok (.goto 11, 3) := by decide +kernel
theorem dL_enough_13 : decode cL_enough 13 = .ok (.astore 4, 2) := by decide +kernel
theorem dL_enough_15 : decode cL_enough 15 = .ok (.iconst 1, 1) := by decide +kernel
theorem dL_enough_16 : decode cL_enough 16 = .ok (.ireturn, 1) := by decide +kernel
theorem dL_enough_17 : decode cL_enough 17 = .ok (.astore 4, 2) := by decide +kernel
theorem dL_enough_19 : decode cL_enough 19 = .ok (.iconst 2, 1) := by decide +kernel
theorem dL_enough_20 : decode cL_enough 20 = .ok (.ireturn, 1) := by decide +kernel
theorem dL_enough_21 : decode cL_enough 21 = .ok (.iconst 0, 1) := by decide +kernel
theorem dL_enough_22 : decode cL_enough 22 = .ok (.ireturn, 1) := by decide +kernel
set_option maxRecDepth 20000 in
theorem ggL_foresee_X5_foresee : GoodIn wsL_foresee wsX5_foresee := goodIn_ca (goodIn_ca (goodIn_r _ [7, 8, 9, 10, 11, 12, 13, 14, 15, 16, 6, 17, 18, 19, 20, 21, 22, 23, 24, 25, 26, 27, 28, 29, 30, 31, 32, 33, 34, 35, 36, 37, 38, 39, 40, 41, 42, 43, 44, 45, 46, 47, 48, 49, 50, 51, 52, 53, 54, 55, 56, 57, 58, 59, 60, 61, 62, 63, 64, 65, 66, 67, 68, 69, 70, 71, 72, 73, 74, 75, 76, 77, 78, 79, 80, 81, 82, 83, 84, 85, 86, 87, 88, 89, 90, 91, 92, 93, 94, 95, 96, 97, 98, 99, 100, 101, 102, 103, 104, 105, 106, 107, 108, 109, 110, 111] (by decide +kernel) (by decide +kernel)) (goodIn_sub (fun _ h => List.mem_cons_of_mem _ (List.mem_append_left _ (List.mem_append_right _ h))) (by decide +kernel))) (goodIn_sub (fun _ h => List.mem_cons_of_mem _ (List.mem_append_right _ h)) (by decide +kernel))
set_option maxRecDepth 20000 in
theorem gL_foresee_X5_foresee : GoodIn wsL_foresee (wsV RL 59 RX5 yX5_foresee wsX5_foresee) := goodIn_app (goodIn_of _ (by decide +kernel)) ggL_foresee_X5_foresee
theorem dL_foresee_0 : decode cL_foresee 0 = .ok (.aload_n 3, 1) := by decide +kernel
theorem dL_foresee_1 : decode cL_foresee 1 = .ok (.iconst 0, 1) := by decide +kernel
theorem dL_foresee_2 : decode cL_foresee 2 = .ok (.aload_n 0, 1) := by decide +kernel
theorem dL_foresee_3 : decode cL_foresee 3 = .ok (.iload_n 1, 1) := by decide +kernel
theorem dL_foresee_4 : decode cL_foresee 4 = .ok (.iload_n 2, 1) := by decide +kernel
theorem dL_foresee_5 : decode cL_foresee 5 = .ok (.invokevirtual 59, 3) := by decide +kernel
theorem dL_foresee_8 : decode cL_foresee 8 = .ok (.i2l, 1) := by decide +kernel
theorem dL_foresee_9 : decode cL_foresee 9 = .ok (.lastore, 1) := by decide +kernel
theorem dL_foresee_10 : decode cL_foresee 10 = .ok (.goto 11, 3) := by decide +kernel
theorem dL_foresee_13 : decode cL_foresee 13 = .ok (.astore 4, 2) := by decide +kernel
theorem dL_foresee_15 : decode cL_foresee 15 = .ok (.iconst 1, 1) := by decide +kernel
theorem dL_foresee_16 : decode cL_foresee 16 = .ok (.ireturn, 1) := by decide +kernel
theorem dL_foresee_17 : decode cL_foresee 17 = .ok (.astore 4, 2) := by decide +kernel
theorem dL_foresee_19 : decode cL_foresee 19 = .ok (.iconst 2, 1) := by decide +kernel
theorem dL_foresee_20 : decode cL_foresee 20 = .ok (.ireturn, 1) := by decide +kernel
theorem dL_foresee_21 : decode cL_foresee 21 = .ok (.iconst 0, 1) := by decide +kernel
theorem dL_foresee_22 : decode cL_foresee 22 = .ok (.ireturn, 1) := by decide +kernel
set_option maxRecDepth 20000 in
theorem ggL_gate_X5_gate : GoodIn wsL_gate wsX5_gate := goodIn_ca (goodIn_r _ [6, 7, 8, 9, 10, 11, 12, 13, 5, 14, 15, 16, 17, 18, 19, 20, 21, 22, 23, 24, 25, 26, 27, 28, 29, 30, 31, 32, 33, 34, 35, 36, 37, 38, 39, 40, 41, 42, 43, 44, 45, 46, 47, 48, 49, 50, 51, 52, 53, 54, 55, 56, 57, 58, 59] (by decide +kernel) (by decide +kernel)) (goodIn_sub (fun _ h => List.mem_cons_of_mem _ (List.mem_append_right _ h)) (by decide +kernel))
set_option maxRecDepth 20000 in
theorem gL_gate_X5_gate : GoodIn wsL_gate (wsV RL 62 RX5 yX5_gate wsX5_gate) := goodIn_app (goodIn_of _ (by decide +kernel)) ggL_gate_X5_gate
theorem dL_gate_0 : decode cL_gate 0 = .ok (.aload_n 2, 1) := by decide +kernel
theorem dL_gate_1 : decode cL_gate 1 = .ok (.iconst 0, 1) := by decide +kernel
theorem dL_gate_2 : decode cL_gate 2 = .ok (.aload_n 0, 1) := by decide +kernel
theorem dL_gate_3 : decode cL_gate 3 = .ok (.iload_n 1, 1) := by decide +kernel
theorem dL_gate_4 : decode cL_gate 4 = .ok (.invokevirtual 62, 3) := by decide +kernel
theorem dL_gate_7 : decode cL_gate 7 = .ok (.i2l, 1) := by decide +kernel
theorem dL_gate_8 : decode cL_gate 8 = .ok (.lastore, 1) := by decide +kernel
theorem dL_gate_9 : decode cL_gate 9 = .ok (.goto 6, 3) := by decide +kernel
theorem dL_gate_12 : decode cL_gate 12 = .ok (.astore_n 3, 1) := by decide +kernel
theorem dL_gate_13 : decode cL_gate 13 = .ok (.iconst 1, 1) := by decide +kernel
theorem dL_gate_14 : decode cL_gate 14 = .ok (.ireturn, 1) := by decide +kernel
theorem dL_gate_15 : decode cL_gate 15 = .ok (.iconst 0, 1) := by decide +kernel
theorem dL_gate_16 : decode cL_gate 16 = .ok (.ireturn, 1) := by decide +kernel
set_option maxRecDepth 20000 in
theorem ggL_advise_X5_advise : GoodIn wsL_advise wsX5_advise := goodIn_ca (goodIn_r _ [6, 7, 8, 9, 10, 11, 12, 13, 14, 15, 5, 16, 17, 18, 19, 20, 21, 22, 23, 24, 25, 26, 27, 28, 29, 30, 31, 32, 33, 34, 35, 36, 37, 38, 39, 40, 41, 42, 43, 44, 45, 46, 47, 48, 49, 50, 51, 52, 53, 54, 55, 56, 57, 58, 59, 60, 61, 62, 63, 64, 65, 66, 67, 68, 69, 70, 71, 72, 73, 74, 75, 76, 77, 78, 79, 80, 81, 82, 83, 84, 85, 86, 87, 88, 89, 90, 91, 92, 93, 94, 95, 96, 97, 98, 99, 100, 101, 102, 103, 104, 105, 106, 107, 108, 109, 110] (by decide +kernel) (by decide +kernel)) (goodIn_sub (fun _ h => List.mem_cons_of_mem _ (List.mem_append_right _ h)) (by decide +kernel))
set_option maxRecDepth 20000 in
theorem gL_advise_X5_advise : GoodIn wsL_advise (wsV RL 65 RX5 yX5_advise wsX5_advise) := goodIn_app (goodIn_of _ (by decide +kernel)) ggL_advise_X5_advise
theorem dL_advise_0 : decode cL_advise 0 = .ok (.aload_n 2, 1) := by decide +kernel
theorem dL_advise_1 : decode cL_advise 1 = .ok (.iconst 0, 1) := by decide +kernel
theorem dL_advise_2 : decode cL_advise 2 = .ok (.aload_n 0, 1) := by decide +kernel
theorem dL_advise_3 : decode cL_advise 3 = .ok (.iload_n 1, 1) := by decide +kernel
theorem dL_advise_4 : decode cL_advise 4 = .ok (.invokevirtual 65, 3) := by decide +kernel
theorem dL_advise_7 : decode cL_advise 7 = .ok (.i2l, 1) := by decide +kernel
theorem dL_advise_8 : decode cL_advise 8 = .ok (.lastore, 1) := by decide +kernel
theorem dL_advise_9 : decode cL_advise 9 = .ok (.goto 6, 3) := by decide +kernel
theorem dL_advise_12 : decode cL_advise 12 = .ok (.astore_n 3, 1) := by decide +kernel
theorem dL_advise_13 : decode cL_advise 13 = .ok (.iconst 1, 1) := by decide +kernel
theorem dL_advise_14 : decode cL_advise 14 = .ok (.ireturn, 1) := by decide +kernel
theorem dL_advise_15 : decode cL_advise 15 = .ok (.iconst 0, 1) := by decide +kernel
theorem dL_advise_16 : decode cL_advise 16 = .ok (.ireturn, 1) := by decide +kernel
set_option maxRecDepth 20000 in
theorem ggL_law_X5_init : GoodIn wsL_law wsX5_init := goodIn_r _ [9, 10, 11, 12, 13, 14, 15, 16, 17, 18, 19, 20, 21, 22, 23, 24, 25, 26, 27, 28, 29, 30, 31, 32, 33, 34, 35, 36, 37, 38, 39, 40, 41, 42, 43, 44, 45, 46, 47, 48, 49, 50, 51, 52, 53, 54, 55, 56, 57, 58, 59, 60, 61, 62, 63, 64, 65, 66, 67, 68, 69, 586, 587, 588, 568, 569, 570, 571, 572, 573, 589, 590, 591, 592, 593, 594, 595, 596, 597, 598, 599, 600, 601, 602, 603, 604, 605] (by decide +kernel) (by decide +kernel)
set_option maxRecDepth 20000 in
theorem gL_law_X5_init : GoodIn wsL_law (wsX5_init) := ggL_law_X5_init
set_option maxRecDepth 20000 in
theorem ggL_law_X7_init : GoodIn wsL_law wsX7_init := goodIn_r _ [72, 73, 11, 12, 38, 74, 75, 76, 77, 78, 79, 80, 81, 82, 83, 84, 85, 86, 87, 88, 89, 90, 91, 574, 575, 576, 577, 578, 579, 580, 581, 582, 583, 584, 585, 606, 607, 608, 609, 610] (by decide +kernel) (by decide +kernel)
set_option maxRecDepth 20000 in
theorem gL_law_X7_init : GoodIn wsL_law (wsX7_init) := ggL_law_X7_init
set_option maxRecDepth 20000 in
theorem ggL_law_L_setWeather : GoodIn wsL_law wsL_setWeather := goodIn_ca (goodIn_ca (goodIn_r _ [95, 96, 97, 98, 99, 100, 2, 101, 102, 103, 104, 105, 16, 106, 107, 108, 109, 110, 111, 112, 113, 114, 15, 115, 39, 40, 568, 569, 570, 571, 572, 573, 586, 587, 588] (by decide +kernel) (by decide +kernel)) (goodIn_sub (fun _ h => List.mem_append_left _ (List.mem_append_left _ (List.mem_append_right _ h))) (by decide +kernel))) (goodIn_sub (fun _ h => List.mem_append_left _ (List.mem_append_right _ h)) (by decide +kernel))
set_option maxRecDepth 20000 in
theorem gL_law_L_setWeather : GoodIn wsL_law (va_wsS RL 72 yL_setWeather wsL_setWeather) := goodIn_app (goodIn_of _ (by decide +kernel)) ggL_law_L_setWeather
set_option maxRecDepth 20000 in
theorem ggL_law_X7_setWeather : GoodIn wsL_law wsX7_setWeather := goodIn_r _ [119, 120, 74, 75, 76, 121, 122, 5, 123, 124, 125, 126, 127, 128, 129, 130, 131, 574, 575, 576, 577, 578, 579, 580, 581, 582, 583, 584, 585] (by decide +kernel) (by decide +kernel)
set_option maxRecDepth 20000 in
theorem gL_law_X7_setWeather : GoodIn wsL_law (wsV RL 77 RX7 yX7_setWeather wsX7_setWeather) := goodIn_app (goodIn_of _ (by decide +kernel)) ggL_law_X7_setWeather
set_option maxRecDepth 20000 in
theorem ggL_law_X7_thrown : GoodIn wsL_law wsX7_thrown := goodIn_r _ [135, 120, 574, 575, 576, 577, 578, 579, 580, 581, 582, 583, 584, 585] (by decide +kernel) (by decide +kernel)
set_option maxRecDepth 20000 in
theorem gL_law_X7_thrown : GoodIn wsL_law (wsV RL 78 RX7 yX7_thrown wsX7_thrown) := goodIn_app (goodIn_of _ (by decide +kernel)) ggL_law_X7_thrown
set_option maxRecDepth 20000 in
theorem ggL_law_L_pump : GoodIn wsL_law wsL_pump := goodIn_ca (goodIn_ca (goodIn_ca (goodIn_r _ [138, 96, 97, 139, 140, 141, 142, 2, 143, 102, 103, 104, 105, 144, 145, 20, 146, 109, 110, 111, 147, 148, 149, 19, 150, 151, 45, 46, 568, 569, 570, 571, 572, 573, 589, 590, 591] (by decide +kernel) (by decide +kernel)) (goodIn_sub (fun _ h => List.mem_append_left _ (List.mem_append_left _ (List.mem_append_right _ h))) (by decide +kernel))) (goodIn_sub (fun _ h => List.mem_append_left _ (List.mem_append_right _ h)) (by decide +kernel))) (goodIn_sub (fun _ h => List.mem_append_right _ h) (by decide +kernel))
set_option maxRecDepth 20000 in
theorem gL_law_L_pump : GoodIn wsL_law (va_wsS RL 82 yL_pump wsL_pump) := goodIn_app (goodIn_of _ (by decide +kernel)) ggL_law_L_pump
set_option maxRecDepth 20000 in
theorem ggL_law_X7_pump : GoodIn wsL_law wsX7_pump := goodIn_r _ [155, 120, 156, 77, 78, 157, 158, 5, 159, 121, 122, 123, 124, 125, 126, 127, 574, 575, 576, 577, 578, 579, 580, 581, 582, 583, 584, 585] (by decide +kernel) (by decide +kernel)
set_option maxRecDepth 20000 in
theorem gL_law_X7_pump : GoodIn wsL_law (wsV RL 85 RX7 yX7_pump wsX7_pump) := goodIn_app (goodIn_of _ (by decide +kernel)) ggL_law_X7_pump
set_option maxRecDepth 20000 in
theorem ggL_law_L_run : GoodIn wsL_law wsL_run := goodIn_ca (goodIn_r _ [162, 96, 163, 164, 165, 2, 166, 102, 103, 20, 146, 24, 167, 109, 110, 111, 568, 569, 570, 571, 572, 573, 589, 590, 591, 592, 593, 594, 595, 596, 597, 598] (by decide +kernel) (by decide +kernel)) (goodIn_sub (fun _ h => List.mem_append_left _ (List.mem_append_left _ (List.mem_append_right _ h))) (by decide +kernel))
set_option maxRecDepth 20000 in
theorem gL_law_L_run : GoodIn wsL_law (va_wsS RL 86 yL_run wsL_run) := goodIn_app (goodIn_of _ (by decide +kernel)) ggL_law_L_run
set_option maxRecDepth 20000 in
theorem ggL_law_X7_run : GoodIn wsL_law wsX7_run := goodIn_r _ [171, 120, 84, 172, 173, 174, 5, 175, 156, 121, 122, 123, 574, 575, 576, 577, 578, 579, 580, 581, 582, 583, 584, 585, 606, 607, 608, 609, 610] (by decide +kernel) (by decide +kernel)
set_option maxRecDepth 20000 in
theorem gL_law_X7_run : GoodIn wsL_law (wsV RL 89 RX7 yX7_run wsX7_run) := goodIn_app (goodIn_of _ (by decide +kernel)) ggL_law_X7_run
set_option maxRecDepth 20000 in
theorem ggL_law_L_fill : GoodIn wsL_law wsL_fill := goodIn_ca (goodIn_r _ [178, 97, 179, 180, 181, 2, 182, 104, 105, 24, 183, 184, 185, 186, 187, 109, 110, 111, 568, 569, 570, 571, 572, 573, 592, 593, 594, 595, 596, 597, 598] (by decide +kernel) (by decide +kernel)) (goodIn_sub (fun _ h => List.mem_append_left _ (List.mem_append_right _ h)) (by decide +kernel))
set_option maxRecDepth 20000 in
theorem gL_law_L_fill : GoodIn wsL_law (va_wsS RL 90 yL_fill wsL_fill) := goodIn_app (goodIn_of _ (by decide +kernel)) ggL_law_L_fill
set_option maxRecDepth 20000 in
theorem ggL_law_X7_fill : GoodIn wsL_law wsX7_fill := goodIn_r _ [191, 120, 84, 192, 185, 186, 187, 121, 122, 5, 123, 124, 125, 126, 127, 574, 575, 576, 577, 578, 579, 580, 581, 582, 583, 584, 585, 606, 607, 608, 609, 610] (by decide +kernel) (by decide +kernel)
set_option maxRecDepth 20000 in
theorem gL_law_X7_fill : GoodIn wsL_law (wsV RL 92 RX7 yX7_fill wsX7_fill) := goodIn_app (goodIn_of _ (by decide +kernel)) ggL_law_X7_fill
set_option maxRecDepth 20000 in
theorem ggL_law_L_groom : GoodIn wsL_law wsL_groom := goodIn_ca (goodIn_ca (goodIn_r _ [195, 96, 97, 196, 197, 198, 2, 199, 102, 103, 104, 105, 24, 109, 110, 111, 200, 201, 202, 23, 203, 51, 52, 568, 569, 570, 571, 572, 573, 592, 593, 594, 595, 596, 597, 598] (by decide +kernel) (by decide +kernel)) (goodIn_sub (fun _ h => List.mem_append_left _ (List.mem_append_left _ (List.mem_append_right _ h))) (by decide +kernel))) (goodIn_sub (fun _ h => List.mem_append_left _ (List.mem_append_right _ h)) (by decide +kernel))
set_option maxRecDepth 20000 in
theorem gL_law_L_groom : GoodIn wsL_law (va_wsS RL 93 yL_groom wsL_groom) := goodIn_app (goodIn_of _ (by decide +kernel)) ggL_law_L_groom
set_option maxRecDepth 20000 in
theorem ggL_law_X7_groom : GoodIn wsL_law wsX7_groom := goodIn_r _ [207, 120, 84, 157, 158, 5, 159, 121, 122, 123, 124, 125, 126, 127, 574, 575, 576, 577, 578, 579, 580, 581, 582, 583, 584, 585, 606, 607, 608, 609, 610] (by decide +kernel) (by decide +kernel)
set_option maxRecDepth 20000 in
theorem gL_law_X7_groom : GoodIn wsL_law (wsV RL 95 RX7 yX7_groom wsX7_groom) := goodIn_app (goodIn_of _ (by decide +kernel)) ggL_law_X7_groom
set_option maxRecDepth 20000 in
theorem ggL_law_L_judge : GoodIn wsL_law wsL_judge := goodIn_ca (goodIn_ca (goodIn_r _ [210, 96, 97, 211, 212, 213, 2, 214, 102, 103, 104, 105, 29, 215, 109, 110, 111, 568, 569, 570, 571, 572, 573, 599] (by decide +kernel) (by decide +kernel)) (goodIn_sub (fun _ h => List.mem_append_left _ (List.mem_append_left _ (List.mem_append_right _ h))) (by decide +kernel))) (goodIn_sub (fun _ h => List.mem_append_left _ (List.mem_append_right _ h)) (by decide +kernel))
set_option maxRecDepth 20000 in
theorem gL_law_L_judge : GoodIn wsL_law (va_wsS RL 96 yL_judge wsL_judge) := goodIn_app (goodIn_of _ (by decide +kernel)) ggL_law_L_judge
set_option maxRecDepth 20000 in
theorem ggL_law_X7_judge : GoodIn wsL_law wsX7_judge := goodIn_r _ [219, 120, 79, 121, 122, 5, 123, 124, 125, 126, 127, 574, 575, 576, 577, 578, 579, 580, 581, 582, 583, 584, 585] (by decide +kernel) (by decide +kernel)
set_option maxRecDepth 20000 in
theorem gL_law_X7_judge : GoodIn wsL_law (wsV RL 98 RX7 yX7_judge wsX7_judge) := goodIn_app (goodIn_of _ (by decide +kernel)) ggL_law_X7_judge
set_option maxRecDepth 20000 in
theorem ggL_law_L_jump : GoodIn wsL_law wsL_jump := goodIn_ca (goodIn_ca (goodIn_r _ [222, 97, 139, 223, 224, 225, 2, 226, 104, 105, 144, 145, 33, 227, 16, 108, 24, 29, 228, 109, 110, 111, 229, 230, 231, 23, 232, 233, 234, 235, 236, 237, 238, 239, 240, 241, 242, 243, 184, 185, 186, 187, 244, 245, 246, 247, 248, 249, 250, 51, 52, 251, 252, 253, 254, 255, 256, 257, 258, 28, 259, 260, 261, 262, 61, 263, 264, 265, 266, 267, 32, 268, 269, 65, 66, 67, 68, 69, 568, 569, 570, 571, 572, 573, 600, 601, 602, 603, 604, 605, 586, 587, 588, 592, 593, 594, 595, 596, 597, 598, 599] (by decide +kernel) (by decide +kernel)) (goodIn_sub (fun _ h => List.mem_append_left _ (List.mem_append_right _ h)) (by decide +kernel))) (goodIn_sub (fun _ h => List.mem_append_right _ h) (by decide +kernel))
set_option maxRecDepth 20000 in
theorem gL_law_L_jump : GoodIn wsL_law (va_wsS RL 99 yL_jump wsL_jump) := goodIn_app (goodIn_of _ (by decide +kernel)) ggL_law_L_jump
set_option maxRecDepth 20000 in
theorem ggL_law_X7_jump : GoodIn wsL_law wsX7_jump := goodIn_r _ [273, 120, 274, 84, 79, 275, 261, 186, 262, 192, 185, 187, 276, 245, 246, 38, 80, 277, 278, 279, 280, 121, 122, 5, 123, 124, 125, 126, 127, 281, 282, 283, 284, 285, 286, 287, 288, 76, 289, 290, 291, 83, 292, 89, 90, 574, 575, 576, 577, 578, 579, 580, 581, 582, 583, 584, 585, 606, 607, 608, 609, 610] (by decide +kernel) (by decide +kernel)
set_option maxRecDepth 20000 in
theorem gL_law_X7_jump : GoodIn wsL_law (wsV RL 102 RX7 yX7_jump wsX7_jump) := goodIn_app (goodIn_of _ (by decide +kernel)) ggL_law_X7_jump
set_option maxRecDepth 20000 in
theorem ggL_law_L_told : GoodIn wsL_law wsL_told := goodIn_ca (goodIn_r _ [295, 96, 296, 297, 298, 2, 299, 102, 103, 33, 227, 109, 110, 111, 300, 301, 302, 32, 303, 65, 66, 67, 68, 69, 568, 569, 570, 571, 572, 573, 600, 601, 602, 603, 604, 605] (by decide +kernel) (by decide +kernel)) (goodIn_sub (fun _ h => List.mem_append_left _ (List.mem_append_left _ (List.mem_append_right _ h))) (by decide +kernel))
set_option maxRecDepth 20000 in
theorem gL_law_L_told : GoodIn wsL_law (va_wsS RL 103 yL_told wsL_told) := goodIn_app (goodIn_of _ (by decide +kernel)) ggL_law_L_told
set_option maxRecDepth 20000 in
theorem ggL_law_X7_told : GoodIn wsL_law wsX7_told := goodIn_r _ [307, 120, 274, 80, 121, 122, 5, 123, 124, 125, 126, 127, 574, 575, 576, 577, 578, 579, 580, 581, 582, 583, 584, 585] (by decide +kernel) (by decide +kernel)
set_option maxRecDepth 20000 in
theorem gL_law_X7_told : GoodIn wsL_law (wsV RL 105 RX7 yX7_told wsX7_told) := goodIn_app (goodIn_of _ (by decide +kernel)) ggL_law_X7_told
set_option maxRecDepth 20000 in
theorem ggL_law_L_score : GoodIn wsL_law wsL_score := goodIn_ca (goodIn_r _ [310, 96, 311, 312, 313, 2, 314, 102, 103, 33, 109, 110, 111, 315, 316, 317, 32, 318, 269, 65, 67, 319, 185, 186, 187, 320, 245, 246, 568, 569, 570, 571, 572, 573, 600, 601, 602, 603, 604, 605] (by decide +kernel) (by decide +kernel)) (goodIn_sub (fun _ h => List.mem_append_left _ (List.mem_append_left _ (List.mem_append_right _ h))) (by decide +kernel))
set_option maxRecDepth 20000 in
theorem gL_law_L_score : GoodIn wsL_law (va_wsS RL 106 yL_score wsL_score) := goodIn_app (goodIn_of _ (by decide +kernel)) ggL_law_L_score
set_option maxRecDepth 20000 in
theorem ggL_law_X7_score : GoodIn wsL_law wsX7_score := goodIn_r _ [324, 120, 121, 122, 5, 123, 325, 326, 327, 328, 274, 80, 192, 185, 186, 187, 276, 245, 246, 124, 125, 126, 127, 574, 575, 576, 577, 578, 579, 580, 581, 582, 583, 584, 585] (by decide +kernel) (by decide +kernel)
set_option maxRecDepth 20000 in
theorem gL_law_X7_score : GoodIn wsL_law (wsV RL 108 RX7 yX7_score wsX7_score) := goodIn_app (goodIn_of _ (by decide +kernel)) ggL_law_X7_score
set_option maxRecDepth 20000 in
theorem ggL_law_X5_leader : GoodIn wsL_law wsX5_leader := goodIn_r _ [332, 33, 227, 315, 316, 317, 32, 318, 269, 65, 67, 319, 185, 186, 187, 320, 245, 246, 568, 569, 570, 571, 572, 573, 600, 601, 602, 603, 604, 605] (by decide +kernel) (by decide +kernel)
set_option maxRecDepth 20000 in
theorem gL_law_X5_leader : GoodIn wsL_law (wsV RL 109 RX5 yX5_leader wsX5_leader) := goodIn_app (goodIn_of _ (by decide +kernel)) ggL_law_X5_leader
set_option maxRecDepth 20000 in
theorem ggL_law_X7_leader : GoodIn wsL_law wsX7_leader := goodIn_r _ [336, 120, 274, 325, 326, 327, 5, 328, 80, 192, 185, 186, 187, 276, 245, 246, 574, 575, 576, 577, 578, 579, 580, 581, 582, 583, 584, 585] (by decide +kernel) (by decide +kernel)
set_option maxRecDepth 20000 in
theorem gL_law_X7_leader : GoodIn wsL_law (wsV RL 112 RX7 yX7_leader wsX7_leader) := goodIn_app (goodIn_of _ (by decide +kernel)) ggL_law_X7_leader
set_option maxRecDepth 20000 in
theorem ggL_law_L_part : GoodIn wsL_law wsL_part := goodIn_ca (goodIn_r _ [339, 96, 340, 341, 342, 2, 343, 102, 103, 109, 110, 111, 344, 345, 346, 347, 24, 348, 349, 20, 350, 351, 352, 19, 353, 151, 45, 247, 248, 249, 23, 250, 51, 52, 568, 569, 570, 571, 572, 573, 592, 593, 594, 595, 596, 597, 598, 589, 590, 591] (by decide +kernel) (by decide +kernel)) (goodIn_sub (fun _ h => List.mem_append_left _ (List.mem_append_left _ (List.mem_append_right _ h))) (by decide +kernel))
set_option maxRecDepth 20000 in
theorem gL_law_L_part : GoodIn wsL_law (va_wsS RL 113 yL_part wsL_part) := goodIn_app (goodIn_of _ (by decide +kernel)) ggL_law_L_part
set_option maxRecDepth 20000 in
theorem ggL_law_X7_part : GoodIn wsL_law wsX7_part := goodIn_r _ [357, 120, 157, 158, 5, 159, 121, 122, 123, 358, 359, 360, 361, 156, 77, 84, 289, 290, 291, 83, 292, 89, 90, 124, 125, 126, 127, 574, 575, 576, 577, 578, 579, 580, 581, 582, 583, 584, 585, 606, 607, 608, 609, 610] (by decide +kernel) (by decide +kernel)
set_option maxRecDepth 20000 in
theorem gL_law_X7_part : GoodIn wsL_law (wsV RL 115 RX7 yX7_part wsX7_part) := goodIn_app (goodIn_of _ (by decide +kernel)) ggL_law_X7_part
set_option maxRecDepth 20000 in
theorem ggL_law_L_count : GoodIn wsL_law wsL_count := goodIn_ca (goodIn_r _ [364, 96, 365, 366, 367, 2, 368, 102, 103, 109, 110, 111, 369, 370, 371, 372, 24, 228, 16, 108, 183, 20, 146, 33, 227, 229, 230, 231, 23, 232, 233, 234, 235, 236, 237, 112, 113, 114, 15, 115, 39, 40, 373, 374, 375, 376, 54, 377, 378, 379, 380, 51, 381, 382, 383, 384, 385, 386, 52, 387, 388, 389, 32, 390, 68, 568, 569, 570, 571, 572, 573, 592, 593, 594, 595, 596, 597, 598, 586, 587, 588, 589, 590, 591, 600, 601, 602, 603, 604, 605] (by decide +kernel) (by decide +kernel)) (goodIn_sub (fun _ h => List.mem_append_left _ (List.mem_append_left _ (List.mem_append_right _ h))) (by decide +kernel))
set_option maxRecDepth 20000 in
theorem gL_law_L_count : GoodIn wsL_law (va_wsS RL 116 yL_count wsL_count) := goodIn_app (goodIn_of _ (by decide +kernel)) ggL_law_L_count
set_option maxRecDepth 20000 in
theorem ggL_law_X7_count : GoodIn wsL_law wsX7_count := goodIn_r _ [394, 120, 84, 121, 122, 5, 123, 395, 396, 397, 398, 274, 80, 38, 76, 156, 128, 129, 130, 131, 74, 75, 399, 400, 401, 124, 125, 126, 127, 574, 575, 576, 577, 578, 579, 580, 581, 582, 583, 584, 585, 606, 607, 608, 609, 610] (by decide +kernel) (by decide +kernel)
set_option maxRecDepth 20000 in
theorem gL_law_X7_count : GoodIn wsL_law (wsV RL 118 RX7 yX7_count wsX7_count) := goodIn_app (goodIn_of _ (by decide +kernel)) ggL_law_X7_count
set_option maxRecDepth 20000 in
theorem ggL_law_L_pass : GoodIn wsL_law wsL_pass := goodIn_ca (goodIn_r _ [404, 97, 405, 406, 407, 2, 408, 104, 105, 24, 109, 110, 111, 377, 378, 379, 23, 380, 51, 381, 382, 409, 410, 411, 412, 413, 414, 415, 416, 55, 417, 54, 56, 418, 419, 233, 420, 230, 231, 232, 234, 235, 236, 237, 421, 113, 114, 15, 115, 39, 40, 422, 423, 424, 425, 426, 427, 185, 186, 187, 428, 429, 430, 431, 52, 432, 433, 434, 435, 436, 437, 438, 439, 255, 245, 246, 440, 252, 253, 254, 568, 569, 570, 571, 572, 573, 592, 593, 594, 595, 596, 597, 598, 586, 587, 588, 589, 590, 591] (by decide +kernel) (by decide +kernel)) (goodIn_sub (fun _ h => List.mem_append_left _ (List.mem_append_right _ h)) (by decide +kernel))
set_option maxRecDepth 20000 in
theorem gL_law_L_pass : GoodIn wsL_law (va_wsS RL 119 yL_pass wsL_pass) := goodIn_app (goodIn_of _ (by decide +kernel)) ggL_law_L_pass
set_option maxRecDepth 20000 in
theorem ggL_law_X7_pass_ : GoodIn wsL_law wsX7_pass_ := goodIn_r _ [444, 120, 84, 121, 122, 5, 123, 124, 125, 126, 127, 399, 400, 401, 445, 446, 447, 448, 156, 74, 276, 245, 186, 246, 128, 129, 130, 131, 75, 449, 450, 451, 452, 78, 77, 192, 185, 187, 453, 454, 455, 83, 456, 89, 457, 574, 575, 576, 577, 578, 579, 580, 581, 582, 583, 584, 585, 606, 607, 608, 609, 610] (by decide +kernel) (by decide +kernel)
set_option maxRecDepth 20000 in
theorem gL_law_X7_pass_ : GoodIn wsL_law (wsV RL 121 RX7 yX7_pass_ wsX7_pass_) := goodIn_app (goodIn_of _ (by decide +kernel)) ggL_law_X7_pass_
set_option maxRecDepth 20000 in
theorem ggL_law_L_enough : GoodIn wsL_law wsL_enough := goodIn_ca (goodIn_ca (goodIn_r _ [460, 96, 97, 461, 462, 463, 2, 464, 102, 103, 104, 105, 25, 24, 348, 109, 110, 111, 465, 466, 467, 23, 468, 51, 52, 54, 426, 233, 469, 414, 415, 416, 55, 417, 56, 418, 419, 420, 230, 231, 232, 234, 235, 236, 237, 421, 113, 114, 15, 115, 39, 40, 422, 423, 424, 425, 427, 185, 186, 187, 428, 429, 430, 431, 432, 433, 434, 435, 436, 437, 438, 439, 255, 245, 246, 440, 252, 253, 254, 568, 569, 570, 571, 572, 573, 592, 593, 594, 595, 596, 597, 598, 586, 587, 588, 589, 590, 591] (by decide +kernel) (by decide +kernel)) (goodIn_sub (fun _ h => List.mem_append_left _ (List.mem_append_left _ (List.mem_append_right _ h))) (by decide +kernel))) (goodIn_sub (fun _ h => List.mem_append_left _ (List.mem_append_right _ h)) (by decide +kernel))
set_option maxRecDepth 20000 in
theorem gL_law_L_enough : GoodIn wsL_law (va_wsS RL 122 yL_enough wsL_enough) := goodIn_app (goodIn_of _ (by decide +kernel)) ggL_law_L_enough
set_option maxRecDepth 20000 in
theorem ggL_law_X7_enough : GoodIn wsL_law wsX7_enough := goodIn_r _ [473, 120, 85, 84, 157, 158, 5, 159, 121, 122, 123, 124, 125, 126, 127, 474, 475, 476, 83, 477, 478, 479, 89, 480, 278, 279, 280, 90, 91, 445, 446, 447, 448, 156, 74, 276, 245, 186, 246, 128, 129, 130, 131, 75, 449, 450, 451, 452, 78, 77, 192, 185, 187, 453, 454, 455, 456, 457, 574, 575, 576, 577, 578, 579, 580, 581, 582, 583, 584, 585, 606, 607, 608, 609, 610] (by decide +kernel) (by decide +kernel)
set_option maxRecDepth 20000 in
theorem gL_law_X7_enough : GoodIn wsL_law (wsV RL 124 RX7 yX7_enough wsX7_enough) := goodIn_app (goodIn_of _ (by decide +kernel)) ggL_law_X7_enough
set_option maxRecDepth 20000 in
theorem ggL_law_L_foresee : GoodIn wsL_law wsL_foresee := goodIn_ca (goodIn_ca (goodIn_r _ [483, 97, 96, 484, 485, 486, 2, 487, 104, 105, 102, 103, 25, 24, 183, 109, 110, 111, 465, 466, 467, 23, 468, 51, 52, 54, 426, 233, 409, 410, 411, 412, 413, 414, 415, 416, 55, 417, 56, 418, 419, 420, 230, 231, 232, 234, 235, 236, 237, 421, 113, 114, 15, 115, 39, 40, 422, 423, 424, 425, 427, 185, 186, 187, 428, 429, 430, 431, 432, 433, 434, 435, 436, 437, 438, 439, 255, 245, 246, 440, 252, 253, 254, 377, 378, 379, 380, 381, 382, 383, 384, 385, 386, 568, 569, 570, 571, 572, 573, 592, 593, 594, 595, 596, 597, 598, 586, 587, 588, 589, 590, 591] (by decide +kernel) (by decide +kernel)) (goodIn_sub (fun _ h => List.mem_append_left _ (List.mem_append_right _ h)) (by decide +kernel))) (goodIn_sub (fun _ h => List.mem_append_left _ (List.mem_append_left _ (List.mem_append_right _ h))) (by decide +kernel))
set_option maxRecDepth 20000 in
theorem gL_law_L_foresee : GoodIn wsL_law (va_wsS RL 125 yL_foresee wsL_foresee) := goodIn_app (goodIn_of _ (by decide +kernel)) ggL_law_L_foresee
set_option maxRecDepth 20000 in
theorem ggL_law_X7_foresee : GoodIn wsL_law wsX7_foresee := goodIn_r _ [491, 120, 85, 84, 121, 122, 5, 123, 124, 125, 126, 127, 474, 475, 476, 83, 477, 478, 479, 89, 480, 278, 279, 280, 90, 91, 445, 446, 447, 448, 156, 74, 276, 245, 186, 246, 128, 129, 130, 131, 75, 449, 450, 451, 452, 78, 77, 192, 185, 187, 453, 454, 455, 456, 457, 395, 396, 397, 398, 274, 80, 38, 76, 399, 400, 401, 574, 575, 576, 577, 578, 579, 580, 581, 582, 583, 584, 585, 606, 607, 608, 609, 610] (by decide +kernel) (by decide +kernel)
set_option maxRecDepth 20000 in
theorem gL_law_X7_foresee : GoodIn wsL_law (wsV RL 127 RX7 yX7_foresee wsX7_foresee) := goodIn_app (goodIn_of _ (by decide +kernel)) ggL_law_X7_foresee
set_option maxRecDepth 20000 in
theorem ggL_law_L_gate : GoodIn wsL_law wsL_gate := goodIn_ca (goodIn_r _ [494, 97, 495, 496, 497, 2, 498, 104, 105, 16, 108, 24, 109, 110, 111, 229, 230, 231, 23, 232, 233, 234, 235, 236, 237, 238, 239, 240, 241, 242, 243, 184, 185, 186, 187, 244, 245, 246, 247, 248, 249, 250, 51, 52, 568, 569, 570, 571, 572, 573, 586, 587, 588, 592, 593, 594, 595, 596, 597, 598] (by decide +kernel) (by decide +kernel)) (goodIn_sub (fun _ h => List.mem_append_left _ (List.mem_append_right _ h)) (by decide +kernel))
set_option maxRecDepth 20000 in
theorem gL_law_L_gate : GoodIn wsL_law (va_wsS RL 128 yL_gate wsL_gate) := goodIn_app (goodIn_of _ (by decide +kernel)) ggL_law_L_gate
set_option maxRecDepth 20000 in
theorem ggL_law_X7_gate : GoodIn wsL_law wsX7_gate := goodIn_r _ [502, 120, 84, 121, 122, 5, 123, 124, 125, 126, 127, 281, 282, 283, 284, 192, 185, 186, 187, 276, 245, 246, 285, 286, 287, 288, 76, 289, 290, 291, 83, 292, 89, 90, 574, 575, 576, 577, 578, 579, 580, 581, 582, 583, 584, 585, 606, 607, 608, 609, 610] (by decide +kernel) (by decide +kernel)
set_option maxRecDepth 20000 in
theorem gL_law_X7_gate : GoodIn wsL_law (wsV RL 130 RX7 yX7_gate wsX7_gate) := goodIn_app (goodIn_of _ (by decide +kernel)) ggL_law_X7_gate
set_option maxRecDepth 20000 in
theorem ggL_law_L_advise : GoodIn wsL_law wsL_advise := goodIn_ca (goodIn_r _ [505, 97, 506, 507, 508, 2, 509, 104, 105, 25, 24, 20, 146, 167, 109, 110, 111, 465, 466, 467, 23, 468, 51, 52, 54, 426, 233, 409, 410, 411, 412, 413, 414, 415, 416, 55, 417, 56, 418, 419, 420, 230, 231, 232, 234, 235, 236, 237, 421, 113, 114, 15, 115, 39, 40, 422, 423, 424, 425, 427, 185, 186, 187, 428, 429, 430, 431, 432, 433, 434, 435, 436, 437, 438, 439, 255, 245, 246, 440, 252, 253, 254, 377, 378, 379, 380, 381, 382, 510, 511, 512, 513, 568, 569, 570, 571, 572, 573, 589, 590, 591, 592, 593, 594, 595, 596, 597, 598, 586, 587, 588] (by decide +kernel) (by decide +kernel)) (goodIn_sub (fun _ h => List.mem_append_left _ (List.mem_append_right _ h)) (by decide +kernel))
set_option maxRecDepth 20000 in
theorem gL_law_L_advise : GoodIn wsL_law (va_wsS RL 131 yL_advise wsL_advise) := goodIn_app (goodIn_of _ (by decide +kernel)) ggL_law_L_advise
set_option maxRecDepth 20000 in
theorem ggL_law_X7_advise : GoodIn wsL_law wsX7_advise := goodIn_r _ [517, 120, 156, 84, 121, 122, 5, 123, 124, 125, 126, 127, 518, 519, 520, 521, 85, 474, 475, 476, 83, 477, 478, 479, 89, 480, 278, 279, 280, 90, 91, 445, 446, 447, 448, 74, 276, 245, 186, 246, 128, 129, 130, 131, 75, 449, 450, 451, 452, 78, 77, 192, 185, 187, 453, 454, 455, 456, 457, 399, 400, 401, 574, 575, 576, 577, 578, 579, 580, 581, 582, 583, 584, 585, 606, 607, 608, 609, 610] (by decide +kernel) (by decide +kernel)
set_option maxRecDepth 20000 in
theorem gL_law_X7_advise : GoodIn wsL_law (wsV RL 133 RX7 yX7_advise wsX7_advise) := goodIn_app (goodIn_of _ (by decide +kernel)) ggL_law_X7_advise
set_option maxRecDepth 20000 in
theorem ggL_law_X5_mean : GoodIn wsL_law wsX5_mean := goodIn_r _ [525, 33, 227, 526, 527, 528, 32, 529, 67, 381, 2, 382, 568, 569, 570, 571, 572, 573, 600, 601, 602, 603, 604, 605] (by decide +kernel) (by decide +kernel)
set_option maxRecDepth 20000 in
theorem gL_law_X5_mean : GoodIn wsL_law (wsV RL 134 RX5 yX5_mean wsX5_mean) := goodIn_app (goodIn_of _ (by decide +kernel)) ggL_law_X5_mean
set_option maxRecDepth 20000 in
theorem ggL_law_X7_mean : GoodIn wsL_law wsX7_mean := goodIn_r _ [533, 120, 274, 80, 574, 575, 576, 577, 578, 579, 580, 581, 582, 583, 584, 585] (by decide +kernel) (by decide +kernel)
set_option maxRecDepth 20000 in
theorem gL_law_X7_mean : GoodIn wsL_law (wsV RL 138 RX7 yX7_mean wsX7_mean) := goodIn_app (goodIn_of _ (by decide +kernel)) ggL_law_X7_mean
set_option maxRecDepth 20000 in
theorem ggL_law_X5_digest : GoodIn wsL_law wsX5_digest := goodIn_r _ [537, 538, 539, 16, 29, 33, 369, 370, 371, 2, 372, 24, 228, 108, 183, 20, 146, 227, 229, 230, 231, 23, 232, 233, 234, 235, 236, 237, 112, 113, 114, 15, 115, 39, 40, 373, 374, 375, 376, 54, 377, 378, 379, 380, 51, 381, 382, 383, 384, 385, 386, 52, 387, 388, 389, 32, 390, 68, 344, 345, 346, 347, 348, 349, 350, 351, 352, 19, 353, 151, 45, 247, 248, 249, 250, 540, 541, 542, 543, 544, 41, 545, 546, 547, 28, 548, 549, 61, 550, 551, 552, 553, 554, 555, 167, 556, 557, 558, 559, 269, 560, 561, 301, 302, 303, 65, 66, 67, 69, 315, 316, 317, 318, 319, 185, 186, 187, 320, 245, 246, 568, 569, 570, 571, 572, 573, 592, 593, 594, 595, 596, 597, 598, 586, 587, 588, 589, 590, 591, 600, 601, 602, 603, 604, 605, 599] (by decide +kernel) (by decide +kernel)
set_option maxRecDepth 20000 in
theorem gL_law_X5_digest : GoodIn wsL_law (wsV RL 139 RX5 yX5_digest wsX5_digest) := goodIn_app (goodIn_of _ (by decide +kernel)) ggL_law_X5_digest
set_option maxRecDepth 20000 in
theorem ggL_law_X7_digest : GoodIn wsL_law wsX7_digest := goodIn_r _ [565, 120, 566, 567, 84, 74, 75, 76, 79, 156, 77, 78, 274, 80, 395, 396, 397, 5, 398, 38, 128, 129, 130, 131, 399, 400, 401, 358, 359, 360, 361, 289, 290, 291, 83, 292, 89, 90, 325, 326, 327, 328, 192, 185, 186, 187, 276, 245, 246, 574, 575, 576, 577, 578, 579, 580, 581, 582, 583, 584, 585, 606, 607, 608, 609, 610] (by decide +kernel) (by decide +kernel)
set_option maxRecDepth 20000 in
theorem gL_law_X7_digest : GoodIn wsL_law (wsV RL 143 RX7 yX7_digest wsX7_digest) := goodIn_app (goodIn_of _ (by decide +kernel)) ggL_law_X7_digest
theorem dL_law_0 : decode cL_law 0 = .ok (.new 8, 3) := by decide +kernel
theorem dL_law_3 : decode cL_law 3 = .ok (.dup, 1) := by decide +kernel
theorem dL_law_4 : decode cL_law 4 = .ok (.invokespecial 68, 3) := by decide +kernel
theorem dL_law_7 : decode cL_law 7 = .ok (.astore_n 1, 1) := by decide +kernel
theorem dL_law_8 : decode cL_law 8 = .ok (.new 69, 3) := by decide +kernel
theorem dL_law_11 : decode cL_law 11 = .ok (.dup, 1) := by decide +kernel
theorem dL_law_12 : decode cL_law 12 = .ok (.invokespecial 71, 3) := by decide +kernel
theorem dL_law_15 : decode cL_law 15 = .ok (.astore_n 2, 1) := by decide +kernel
theorem dL_law_16 : decode cL_law 16 = .ok (.iconst 1, 1) := by decide +kernel
theorem dL_law_17 : decode cL_law 17 = .ok (.newarray .long, 2) := by decide +kernel
theorem dL_law_19 : decode cL_law 19 = .ok (.astore_n 3, 1) := by decide +kernel
theorem dL_law_20 : decode cL_law 20 = .ok (.iconst 0, 1) := by decide +kernel
theorem dL_law_21 : decode cL_law 21 = .ok (.istore 4, 2) := by decide +kernel
theorem dL_law_23 : decode cL_law 23 = .ok (.iload 4, 2) := by decide +kernel
theorem dL_law_25 : decode cL_law 25 = .ok (.aload_n 0, 1) := by decide +kernel
theorem dL_law_26 : decode cL_law 26 = .ok (.arraylength, 1) := by decide +kernel
theorem dL_law_27 : decode cL_law 27 = .ok (.iconst 5, 1) := by decide +kernel
theorem dL_law_28 : decode cL_law 28 = .ok (.isub, 1) := by decide +kernel
theorem dL_law_29 : decode cL_law 29 = .ok (.if_icmp .gt 1220, 3) := by decide +kernel
theorem dL_law_32 : decode cL_law 32 = .ok (.aload_n 0, 1) := by decide +kernel
theorem dL_law_33 : decode cL_law 33 = .ok (.iload 4, 2) := by decide +kernel
theorem dL_law_35 : decode cL_law 35 = .ok (.iaload, 1) := by decide +kernel
theorem dL_law_36 : decode cL_law 36 = .ok (.bipush 31, 2) := by decide +kernel
theorem dL_law_38 : decode cL_law 38 = .ok (.iand, 1) := by decide +kernel
theorem dL_law_39 : decode cL_law 39 = .ok (.tableswitch 1204 0 18 #[89, 181, 249, 312, 368, 436, 504, 584, 652, 708, 721, 789, 845, 901, 969, 1037, 1093, 1149, 1190], 89) := by decide +kernel
theorem dL_law_128 : decode cL_law 128 = .ok (.aload_n 1, 1) := by decide +kernel
theorem dL_law_129 : decode cL_law 129 = .ok (.aload_n 0, 1) := by decide +kernel
theorem dL_law_130 : decode cL_law 130 = .ok (.iload 4, 2) := by decide +kernel
theorem dL_law_132 : decode cL_law 132 = .ok (.iconst 1, 1) := by decide +kernel
theorem dL_law_133 : decode cL_law 133 = .ok (.iadd, 1) := by decide +kernel
theorem dL_law_134 : decode cL_law 134 = .ok (.iaload, 1) := by decide +kernel
theorem dL_law_135 : decode cL_law 135 = .ok (.aload_n 0, 1) := by decide +kernel
theorem dL_law_136 : decode cL_law 136 = .ok (.iload 4, 2) := by decide +kernel
theorem dL_law_138 : decode cL_law 138 = .ok (.iconst 2, 1) := by decide +kernel
theorem dL_law_139 : decode cL_law 139 = .ok (.iadd, 1) := by decide +kernel
theorem dL_law_140 : decode cL_law 140 = .ok (.iaload, 1) := by decide +kernel
theorem dL_law_141 : decode cL_law 141 = .ok (.aload_n 0, 1) := by decide +kernel
theorem dL_law_142 : decode cL_law 142 = .ok (.iload 4, 2) := by decide +kernel
theorem dL_law_144 : decode cL_law 144 = .ok (.iconst 3, 1) := by decide +kernel
theorem dL_law_145 : decode cL_law 145 = .ok (.iadd, 1) := by decide +kernel
theorem dL_law_146 : decode cL_law 146 = .ok (.iaload, 1) := by decide +kernel
theorem dL_law_147 : decode cL_law 147 = .ok (.aload_n 0, 1) := by decide +kernel
theorem dL_law_148 : decode cL_law 148 = .ok (.iload 4, 2) := by decide +kernel
theorem dL_law_150 : decode cL_law 150 = .ok (.iconst 4, 1) := by decide +kernel
theorem dL_law_151 : decode cL_law 151 = .ok (.iadd, 1) := by decide +kernel
theorem dL_law_152 : decode cL_law 152 = .ok (.iaload, 1) := by decide +kernel
theorem dL_law_153 : decode cL_law 153 = .ok (.aload_n 3, 1) := by decide +kernel
theorem dL_law_154 : decode cL_law 154 = .ok (.invokestatic 72, 3) := by decide +kernel
theorem dL_law_157 : decode cL_law 157 = .ok (.istore 5, 2) := by decide +kernel
theorem dL_law_159 : decode cL_law 159 = .ok (.aload_n 2, 1) := by decide +kernel
theorem dL_law_160 : decode cL_law 160 = .ok (.aload_n 0, 1) := by decide +kernel
theorem dL_law_161 : decode cL_law 161 = .ok (.iload 4, 2) := by decide +kernel
theorem dL_law_163 : decode cL_law 163 = .ok (.iconst 1, 1) := by decide +kernel
theorem dL_law_164 : decode cL_law 164 = .ok (.iadd, 1) := by decide +kernel
theorem dL_law_165 : decode cL_law 165 = .ok (.iaload, 1) := by decide +kernel
theorem dL_law_166 : decode cL_law 166 = .ok (.aload_n 0, 1) := by decide +kernel
theorem dL_law_167 : decode cL_law 167 = .ok (.iload 4, 2) := by decide +kernel
theorem dL_law_169 : decode cL_law 169 = .ok (.iconst 2, 1) := by decide +kernel
theorem dL_law_170 : decode cL_law 170 = .ok (.iadd, 1) := by decide +kernel
theorem dL_law_171 : decode cL_law 171 = .ok (.iaload, 1) := by decide +kernel
theorem dL_law_172 : decode cL_law 172 = .ok (.aload_n 0, 1) := by decide +kernel
theorem dL_law_173 : decode cL_law 173 = .ok (.iload 4, 2) := by decide +kernel
theorem dL_law_175 : decode cL_law 175 = .ok (.iconst 3, 1) := by decide +kernel
theorem dL_law_176 : decode cL_law 176 = .ok (.iadd, 1) := by decide +kernel
theorem dL_law_177 : decode cL_law 177 = .ok (.iaload, 1) := by decide +kernel
theorem dL_law_178 : decode cL_law 178 = .ok (.aload_n 0, 1) := by decide +kernel
theorem dL_law_179 : decode cL_law 179 = .ok (.iload 4, 2) := by decide +kernel
theorem dL_law_181 : decode cL_law 181 = .ok (.iconst 4, 1) := by decide +kernel
theorem dL_law_182 : decode cL_law 182 = .ok (.iadd, 1) := by decide +kernel
theorem dL_law_183 : decode cL_law 183 = .ok (.iaload, 1) := by decide +kernel
theorem dL_law_184 : decode cL_law 184 = .ok (.invokevirtual 77, 3) := by decide +kernel
theorem dL_law_187 : decode cL_law 187 = .ok (.istore 6, 2) := by decide +kernel
theorem dL_law_189 : decode cL_law 189 = .ok (.aload_n 2, 1) := by decide +kernel
theorem dL_law_190 : decode cL_law 190 = .ok (.invokevirtual 78, 3) := by decide +kernel
theorem dL_law_193 : decode cL_law 193 = .ok (.iload 5, 2) := by decide +kernel
theorem dL_law_195 : decode cL_law 195 = .ok (.if_icmp .eq 5, 3) := by decide +kernel
theorem dL_law_198 : decode cL_law 198 = .ok (.iconst 0, 1) := by decide +kernel
theorem dL_law_199 : decode cL_law 199 = .ok (.ireturn, 1) := by decide +kernel
theorem dL_law_200 : decode cL_law 200 = .ok (.iload 5, 2) := by decide +kernel
theorem dL_law_202 : decode cL_law 202 = .ok (.ifCond .ne 15, 3) := by decide +kernel
theorem dL_law_205 : decode cL_law 205 = .ok (.aload_n 3, 1) := by decide +kernel
theorem dL_law_206 : decode cL_law 206 = .ok (.iconst 0, 1) := by decide +kernel
theorem dL_law_207 : decode cL_law 207 = .ok (.laload, 1) := by decide +kernel
theorem dL_law_208 : decode cL_law 208 = .ok (.iload 6, 2) := by decide +kernel
theorem dL_law_210 : decode cL_law 210 = .ok (.i2l, 1) := by decide +kernel
theorem dL_law_211 : decode cL_law 211 = .ok (.lcmp, 1) := by decide +kernel
theorem dL_law_212 : decode cL_law 212 = .ok (.ifCond .eq 5, 3) := by decide +kernel
theorem dL_law_215 : decode cL_law 215 = .ok (.iconst 0, 1) := by decide +kernel
theorem dL_law_216 : decode cL_law 216 = .ok (.ireturn, 1) := by decide +kernel
theorem dL_law_217 : decode cL_law 217 = .ok (.goto 1026, 3) := by decide +kernel
theorem dL_law_220 : decode cL_law 220 = .ok (.aload_n 1, 1) := by decide +kernel
theorem dL_law_221 : decode cL_law 221 = .ok (.aload_n 0, 1) := by decide +kernel
theorem dL_law_222 : decode cL_law 222 = .ok (.iload 4, 2) := by decide +kernel
theorem dL_law_224 : decode cL_law 224 = .ok (.iconst 1, 1) := by decide +kernel
theorem dL_law_225 : decode cL_law 225 = .ok (.iadd, 1) := by decide +kernel
theorem dL_law_226 : decode cL_law 226 = .ok (.iaload, 1) := by decide +kernel
theorem dL_law_227 : decode cL_law 227 = .ok (.aload_n 0, 1) := by decide +kernel
theorem dL_law_228 : decode cL_law 228 = .ok (.iload 4, 2) := by decide +kernel
theorem dL_law_230 : decode cL_law 230 = .ok (.iconst 2, 1) := by decide +kernel
theorem dL_law_231 : decode cL_law 231 = .ok (.iadd, 1) := by decide +kernel
theorem dL_law_232 : decode cL_law 232 = .ok (.iaload, 1) := by decide +kernel
theorem dL_law_233 : decode cL_law 233 = .ok (.aload_n 3, 1) := by decide +kernel
theorem dL_law_234 : decode cL_law 234 = .ok (.invokestatic 82, 3) := by decide +kernel
theorem dL_law_237 : decode cL_law 237 = .ok (.istore 5, 2) := by decide +kernel
theorem dL_law_239 : decode cL_law 239 = .ok (.aload_n 2, 1) := by decide +kernel
theorem dL_law_240 : decode cL_law 240 = .ok (.aload_n 0, 1) := by decide +kernel
theorem dL_law_241 : decode cL_law 241 = .ok (.iload 4, 2) := by decide +kernel
theorem dL_law_243 : decode cL_law 243 = .ok (.iconst 1, 1) := by decide +kernel
theorem dL_law_244 : decode cL_law 244 = .ok (.iadd, 1) := by decide +kernel
theorem dL_law_245 : decode cL_law 245 = .ok (.iaload, 1) := by decide +kernel
theorem dL_law_246 : decode cL_law 246 = .ok (.aload_n 0, 1) := by decide +kernel
theorem dL_law_247 : decode cL_law 247 = .ok (.iload 4, 2) := by decide +kernel
theorem dL_law_249 : decode cL_law 249 = .ok (.iconst 2, 1) := by decide +kernel
theorem dL_law_250 : decode cL_law 250 = .ok (.iadd, 1) := by decide +kernel
theorem dL_law_251 : decode cL_law 251 = .ok (.iaload, 1) := by decide +kernel
theorem dL_law_252 : decode cL_law 252 = .ok (.invokevirtual 85, 3) := by decide +kernel
theorem dL_law_255 : decode cL_law 255 = .ok (.istore 6, 2) := by decide +kernel
theorem dL_law_257 : decode cL_law 257 = .ok (.aload_n 2, 1) := by decide +kernel
theorem dL_law_258 : decode cL_law 258 = .ok (.invokevirtual 78, 3) := by decide +kernel
theorem dL_law_261 : decode cL_law 261 = .ok (.iload 5, 2) := by decide +kernel
theorem dL_law_263 : decode cL_law 263 = .ok (.if_icmp .eq 5, 3) := by decide +kernel
theorem dL_law_266 : decode cL_law 266 = .ok (.iconst 0, 1) := by decide +kernel
theorem dL_law_267 : decode cL_law 267 = .ok (.ireturn, 1) := by decide +kernel
theorem dL_law_268 : decode cL_law 268 = .ok (.iload 5, 2) := by decide +kernel
theorem dL_law_270 : decode cL_law 270 = .ok (.ifCond .ne 15, 3) := by decide +kernel
theorem dL_law_273 : decode cL_law 273 = .ok (.aload_n 3, 1) := by decide +kernel
theorem dL_law_274 : decode cL_law 274 = .ok (.iconst 0, 1) := by decide +kernel
theorem dL_law_275 : decode cL_law 275 = .ok (.laload, 1) := by decide +kernel
theorem dL_law_276 : decode cL_law 276 = .ok (.iload 6, 2) := by decide +kernel
theorem dL_law_278 : decode cL_law 278 = .ok (.i2l, 1) := by decide +kernel
theorem dL_law_279 : decode cL_law 279 = .ok (.lcmp, 1) := by decide +kernel
theorem dL_law_280 : decode cL_law 280 = .ok (.ifCond .eq 5, 3) := by decide +kernel
theorem dL_law_283 : decode cL_law 283 = .ok (.iconst 0, 1) := by decide +kernel
theorem dL_law_284 : decode cL_law 284 = .ok (.ireturn, 1) := by decide +kernel
theorem dL_law_285 : decode cL_law 285 = .ok (.goto 958, 3) := by decide +kernel
theorem dL_law_288 : decode cL_law 288 = .ok (.aload_n 1, 1) := by decide +kernel
theorem dL_law_289 : decode cL_law 289 = .ok (.aload_n 0, 1) := by decide +kernel
theorem dL_law_290 : decode cL_law 290 = .ok (.iload 4, 2) := by decide +kernel
theorem dL_law_292 : decode cL_law 292 = .ok (.iconst 1, 1) := by decide +kernel
theorem dL_law_293 : decode cL_law 293 = .ok (.iadd, 1) := by decide +kernel
theorem dL_law_294 : decode cL_law 294 = .ok (.iaload, 1) := by decide +kernel
theorem dL_law_295 : decode cL_law 295 = .ok (.aload_n 3, 1) := by decide +kernel
theorem dL_law_296 : decode cL_law 296 = .ok (.invokestatic 86, 3) := by decide +kernel
theorem dL_law_299 : decode cL_law 299 = .ok (.istore 5, 2) := by decide +kernel
theorem dL_law_301 : decode cL_law 301 = .ok (.aload_n 2, 1) := by decide +kernel
theorem dL_law_302 : decode cL_law 302 = .ok (.aload_n 0, 1) := by decide +kernel
theorem dL_law_303 : decode cL_law 303 = .ok (.iload 4, 2) := by decide +kernel
theorem dL_law_305 : decode cL_law 305 = .ok (.iconst 1, 1) := by decide +kernel
theorem dL_law_306 : decode cL_law 306 = .ok (.iadd, 1) := by decide +kernel
theorem dL_law_307 : decode cL_law 307 = .ok (.iaload, 1) := by decide +kernel
theorem dL_law_308 : decode cL_law 308 = .ok (.invokevirtual 89, 3) := by decide +kernel
theorem dL_law_311 : decode cL_law 311 = .ok (.istore 6, 2) := by decide +kernel
theorem dL_law_313 : decode cL_law 313 = .ok (.aload_n 2, 1) := by decide +kernel
theorem dL_law_314 : decode cL_law 314 = .ok (.invokevirtual 78, 3) := by decide +kernel
theorem dL_law_317 : decode cL_law 317 = .ok (.iload 5, 2) := by decide +kernel
theorem dL_law_319 : decode cL_law 319 = .ok (.if_icmp .eq 5, 3) := by decide +kernel
theorem dL_law_322 : decode cL_law 322 = .ok (.iconst 0, 1) := by decide +kernel
theorem dL_law_323 : decode cL_law 323 = .ok (.ireturn, 1) := by decide +kernel
theorem dL_law_324 : decode cL_law 324 = .ok (.iload 5, 2) := by decide +kernel
theorem dL_law_326 : decode cL_law 326 = .ok (.ifCond .ne 22, 3) := by decide +kernel
theorem dL_law_329 : decode cL_law 329 = .ok (.aload_n 3, 1) := by decide +kernel
theorem dL_law_330 : decode cL_law 330 = .ok (.iconst 0, 1) := by decide +kernel
theorem dL_law_331 : decode cL_law 331 = .ok (.laload, 1) := by decide +kernel
theorem dL_law_332 : decode cL_law 332 = .ok (.iload 6, 2) := by decide +kernel
theorem dL_law_334 : decode cL_law 334 = .ok (.ifCond .eq 7, 3) := by decide +kernel
theorem dL_law_337 : decode cL_law 337 = .ok (.lconst 1, 1) := by decide +kernel
theorem dL_law_338 : decode cL_law 338 = .ok (.goto 4, 3) := by decide +kernel
theorem dL_law_341 : decode cL_law 341 = .ok (.lconst 0, 1) := by decide +kernel
theorem dL_law_342 : decode cL_law 342 = .ok (.lcmp, 1) := by decide +kernel
theorem dL_law_343 : decode cL_law 343 = .ok (.ifCond .eq 5, 3) := by decide +kernel
theorem dL_law_346 : decode cL_law 346 = .ok (.iconst 0, 1) := by decide +kernel
theorem dL_law_347 : decode cL_law 347 = .ok (.ireturn, 1) := by decide +kernel
theorem dL_law_348 : decode cL_law 348 = .ok (.goto 895, 3) := by decide +kernel
theorem dL_law_351 : decode cL_law 351 = .ok (.aload_n 1, 1) := by decide +kernel
theorem dL_law_352 : decode cL_law 352 = .ok (.aload_n 0, 1) := by decide +kernel
theorem dL_law_353 : decode cL_law 353 = .ok (.iload 4, 2) := by decide +kernel
theorem dL_law_355 : decode cL_law 355 = .ok (.iconst 1, 1) := by decide +kernel
theorem dL_law_356 : decode cL_law 356 = .ok (.iadd, 1) := by decide +kernel
theorem dL_law_357 : decode cL_law 357 = .ok (.iaload, 1) := by decide +kernel
theorem dL_law_358 : decode cL_law 358 = .ok (.aload_n 3, 1) := by decide +kernel
theorem dL_law_359 : decode cL_law 359 = .ok (.invokestatic 90, 3) := by decide +kernel
theorem dL_law_362 : decode cL_law 362 = .ok (.istore 5, 2) := by decide +kernel
theorem dL_law_364 : decode cL_law 364 = .ok (.aload_n 2, 1) := by decide +kernel
theorem dL_law_365 : decode cL_law 365 = .ok (.aload_n 0, 1) := by decide +kernel
theorem dL_law_366 : decode cL_law 366 = .ok (.iload 4, 2) := by decide +kernel
theorem dL_law_368 : decode cL_law 368 = .ok (.iconst 1, 1) := by decide +kernel
theorem dL_law_369 : decode cL_law 369 = .ok (.iadd, 1) := by decide +kernel
theorem dL_law_370 : decode cL_law 370 = .ok (.iaload, 1) := by decide +kernel
theorem dL_law_371 : decode cL_law 371 = .ok (.invokevirtual 92, 3) := by decide +kernel
theorem dL_law_374 : decode cL_law 374 = .ok (.istore 6, 2) := by decide +kernel
theorem dL_law_376 : decode cL_law 376 = .ok (.aload_n 2, 1) := by decide +kernel
theorem dL_law_377 : decode cL_law 377 = .ok (.invokevirtual 78, 3) := by decide +kernel
theorem dL_law_380 : decode cL_law 380 = .ok (.iload 5, 2) := by decide +kernel
theorem dL_law_382 : decode cL_law 382 = .ok (.if_icmp .eq 5, 3) := by decide +kernel
theorem dL_law_385 : decode cL_law 385 = .ok (.iconst 0, 1) := by decide +kernel
theorem dL_law_386 : decode cL_law 386 = .ok (.ireturn, 1) := by decide +kernel
theorem dL_law_387 : decode cL_law 387 = .ok (.iload 5, 2) := by decide +kernel
theorem dL_law_389 : decode cL_law 389 = .ok (.ifCond .ne 15, 3) := by decide +kernel
theorem dL_law_392 : decode cL_law 392 = .ok (.aload_n 3, 1) := by decide +kernel
theorem dL_law_393 : decode cL_law 393 = .ok (.iconst 0, 1) := by decide +kernel
theorem dL_law_394 : decode cL_law 394 = .ok (.laload, 1) := by decide +kernel
theorem dL_law_395 : decode cL_law 395 = .ok (.iload 6, 2) := by decide +kernel
theorem dL_law_397 : decode cL_law 397 = .ok (.i2l, 1) := by decide +kernel
theorem dL_law_398 : decode cL_law 398 = .ok (.lcmp, 1) := by decide +kernel
theorem dL_law_399 : decode cL_law 399 = .ok (.ifCond .eq 5, 3) := by decide +kernel
theorem dL_law_402 : decode cL_law 402 = .ok (.iconst 0, 1) := by decide +kernel
theorem dL_law_403 : decode cL_law 403 = .ok (.ireturn, 1) := by decide +kernel
theorem dL_law_404 : decode cL_law 404 = .ok (.goto 839, 3) := by decide +kernel
theorem dL_law_407 : decode cL_law 407 = .ok (.aload_n 1, 1) := by decide +kernel
theorem dL_law_408 : decode cL_law 408 = .ok (.aload_n 0, 1) := by decide +kernel
theorem dL_law_409 : decode cL_law 409 = .ok (.iload 4, 2) := by decide +kernel
theorem dL_law_411 : decode cL_law 411 = .ok (.iconst 1, 1) := by decide +kernel
theorem dL_law_412 : decode cL_law 412 = .ok (.iadd, 1) := by decide +kernel
theorem dL_law_413 : decode cL_law 413 = .ok (.iaload, 1) := by decide +kernel
theorem dL_law_414 : decode cL_law 414 = .ok (.aload_n 0, 1) := by decide +kernel
theorem dL_law_415 : decode cL_law 415 = .ok (.iload 4, 2) := by decide +kernel
theorem dL_law_417 : decode cL_law 417 = .ok (.iconst 2, 1) := by decide +kernel
theorem dL_law_418 : decode cL_law 418 = .ok (.iadd, 1) := by decide +kernel
theorem dL_law_419 : decode cL_law 419 = .ok (.iaload, 1) := by decide +kernel
theorem dL_law_420 : decode cL_law 420 = .ok (.aload_n 3, 1) := by decide +kernel
theorem dL_law_421 : decode cL_law 421 = .ok (.invokestatic 93, 3) := by decide +kernel
theorem dL_law_424 : decode cL_law 424 = .ok (.istore 5, 2) := by decide +kernel
theorem dL_law_426 : decode cL_law 426 = .ok (.aload_n 2, 1) := by decide +kernel
theorem dL_law_427 : decode cL_law 427 = .ok (.aload_n 0, 1) := by decide +kernel
theorem dL_law_428 : decode cL_law 428 = .ok (.iload 4, 2) := by decide +kernel
theorem dL_law_430 : decode cL_law 430 = .ok (.iconst 1, 1) := by decide +kernel
theorem dL_law_431 : decode cL_law 431 = .ok (.iadd, 1) := by decide +kernel
theorem dL_law_432 : decode cL_law 432 = .ok (.iaload, 1) := by decide +kernel
theorem dL_law_433 : decode cL_law 433 = .ok (.aload_n 0, 1) := by decide +kernel
theorem dL_law_434 : decode cL_law 434 = .ok (.iload 4, 2) := by decide +kernel
theorem dL_law_436 : decode cL_law 436 = .ok (.iconst 2, 1) := by decide +kernel
theorem dL_law_437 : decode cL_law 437 = .ok (.iadd, 1) := by decide +kernel
theorem dL_law_438 : decode cL_law 438 = .ok (.iaload, 1) := by decide +kernel
theorem dL_law_439 : decode cL_law 439 = .ok (.invokevirtual 95, 3) := by decide +kernel
theorem dL_law_442 : decode cL_law 442 = .ok (.istore 6, 2) := by decide +kernel
theorem dL_law_444 : decode cL_law 444 = .ok (.aload_n 2, 1) := by decide +kernel
theorem dL_law_445 : decode cL_law 445 = .ok (.invokevirtual 78, 3) := by decide +kernel
theorem dL_law_448 : decode cL_law 448 = .ok (.iload 5, 2) := by decide +kernel
theorem dL_law_450 : decode cL_law 450 = .ok (.if_icmp .eq 5, 3) := by decide +kernel
theorem dL_law_453 : decode cL_law 453 = .ok (.iconst 0, 1) := by decide +kernel
theorem dL_law_454 : decode cL_law 454 = .ok (.ireturn, 1) := by decide +kernel
theorem dL_law_455 : decode cL_law 455 = .ok (.iload 5, 2) := by decide +kernel
theorem dL_law_457 : decode cL_law 457 = .ok (.ifCond .ne 15, 3) := by decide +kernel
theorem dL_law_460 : decode cL_law 460 = .ok (.aload_n 3, 1) := by decide +kernel
theorem dL_law_461 : decode cL_law 461 = .ok (.iconst 0, 1) := by decide +kernel
theorem dL_law_462 : decode cL_law 462 = .ok (.laload, 1) := by decide +kernel
theorem dL_law_463 : decode cL_law 463 = .ok (.iload 6, 2) := by decide +kernel
theorem dL_law_465 : decode cL_law 465 = .ok (.i2l, 1) := by decide +kernel
theorem dL_law_466 : decode cL_law 466 = .ok (.lcmp, 1) := by decide +kernel
theorem dL_law_467 : decode cL_law 467 = .ok (.ifCond .eq 5, 3) := by decide +kernel
theorem dL_law_470 : decode cL_law 470 = .ok (.iconst 0, 1) := by decide +kernel
theorem dL_law_471 : decode cL_law 471 = .ok (.ireturn, 1) := by decide +kernel
theorem dL_law_472 : decode cL_law 472 = .ok (.goto 771, 3) := by decide +kernel
theorem dL_law_475 : decode cL_law 475 = .ok (.aload_n 1, 1) := by decide +kernel
theorem dL_law_476 : decode cL_law 476 = .ok (.aload_n 0, 1) := by decide +kernel
theorem dL_law_477 : decode cL_law 477 = .ok (.iload 4, 2) := by decide +kernel
theorem dL_law_479 : decode cL_law 479 = .ok (.iconst 1, 1) := by decide +kernel
theorem dL_law_480 : decode cL_law 480 = .ok (.iadd, 1) := by decide +kernel
theorem dL_law_481 : decode cL_law 481 = .ok (.iaload, 1) := by decide +kernel
theorem dL_law_482 : decode cL_law 482 = .ok (.aload_n 0, 1) := by decide +kernel
theorem dL_law_483 : decode cL_law 483 = .ok (.iload 4, 2) := by decide +kernel
theorem dL_law_485 : decode cL_law 485 = .ok (.iconst 2, 1) := by decide +kernel
theorem dL_law_486 : decode cL_law 486 = .ok (.iadd, 1) := by decide +kernel
theorem dL_law_487 : decode cL_law 487 = .ok (.iaload, 1) := by decide +kernel
theorem dL_law_488 : decode cL_law 488 = .ok (.aload_n 3, 1) := by decide +kernel
theorem dL_law_489 : decode cL_law 489 = .ok (.invokestatic 96, 3) := by decide +kernel
theorem dL_law_492 : decode cL_law 492 = .ok (.istore 5, 2) := by decide +kernel
theorem dL_law_494 : decode cL_law 494 = .ok (.aload_n 2, 1) := by decide +kernel
theorem dL_law_495 : decode cL_law 495 = .ok (.aload_n 0, 1) := by decide +kernel
theorem dL_law_496 : decode cL_law 496 = .ok (.iload 4, 2) := by decide +kernel
theorem dL_law_498 : decode cL_law 498 = .ok (.iconst 1, 1) := by decide +kernel
theorem dL_law_499 : decode cL_law 499 = .ok (.iadd, 1) := by decide +kernel
theorem dL_law_500 : decode cL_law 500 = .ok (.iaload, 1) := by decide +kernel
theorem dL_law_501 : decode cL_law 501 = .ok (.aload_n 0, 1) := by decide +kernel
theorem dL_law_502 : decode cL_law 502 = .ok (.iload 4, 2) := by decide +kernel
theorem dL_law_504 : decode cL_law 504 = .ok (.iconst 2, 1) := by decide +kernel
theorem dL_law_505 : decode cL_law 505 = .ok (.iadd, 1) := by decide +kernel
theorem dL_law_506 : decode cL_law 506 = .ok (.iaload, 1) := by decide +kernel
theorem dL_law_507 : decode cL_law 507 = .ok (.invokevirtual 98, 3) := by decide +kernel
theorem dL_law_510 : decode cL_law 510 = .ok (.istore 6, 2) := by decide +kernel
theorem dL_law_512 : decode cL_law 512 = .ok (.aload_n 2, 1) := by decide +kernel
theorem dL_law_513 : decode cL_law 513 = .ok (.invokevirtual 78, 3) := by decide +kernel
theorem dL_law_516 : decode cL_law 516 = .ok (.iload 5, 2) := by decide +kernel
theorem dL_law_518 : decode cL_law 518 = .ok (.if_icmp .eq 5, 3) := by decide +kernel
theorem dL_law_521 : decode cL_law 521 = .ok (.iconst 0, 1) := by decide +kernel
theorem dL_law_522 : decode cL_law 522 = .ok (.ireturn, 1) := by decide +kernel
theorem dL_law_523 : decode cL_law 523 = .ok (.iload 5, 2) := by decide +kernel
theorem dL_law_525 : decode cL_law 525 = .ok (.ifCond .ne 15, 3) := by decide +kernel
theorem dL_law_528 : decode cL_law 528 = .ok (.aload_n 3, 1) := by decide +kernel
theorem dL_law_529 : decode cL_law 529 = .ok (.iconst 0, 1) := by decide +kernel
theorem dL_law_530 : decode cL_law 530 = .ok (.laload, 1) := by decide +kernel
theorem dL_law_531 : decode cL_law 531 = .ok (.iload 6, 2) := by decide +kernel
theorem dL_law_533 : decode cL_law 533 = .ok (.i2l, 1) := by decide +kernel
theorem dL_law_534 : decode cL_law 534 = .ok (.lcmp, 1) := by decide +kernel
theorem dL_law_535 : decode cL_law 535 = .ok (.ifCond .eq 5, 3) := by decide +kernel
theorem dL_law_538 : decode cL_law 538 = .ok (.iconst 0, 1) := by decide +kernel
theorem dL_law_539 : decode cL_law 539 = .ok (.ireturn, 1) := by decide +kernel
theorem dL_law_540 : decode cL_law 540 = .ok (.goto 703, 3) := by decide +kernel
theorem dL_law_543 : decode cL_law 543 = .ok (.aload_n 1, 1) := by decide +kernel
theorem dL_law_544 : decode cL_law 544 = .ok (.aload_n 0, 1) := by decide +kernel
theorem dL_law_545 : decode cL_law 545 = .ok (.iload 4, 2) := by decide +kernel
theorem dL_law_547 : decode cL_law 547 = .ok (.iconst 1, 1) := by decide +kernel
theorem dL_law_548 : decode cL_law 548 = .ok (.iadd, 1) := by decide +kernel
theorem dL_law_549 : decode cL_law 549 = .ok (.iaload, 1) := by decide +kernel
theorem dL_law_550 : decode cL_law 550 = .ok (.aload_n 0, 1) := by decide +kernel
theorem dL_law_551 : decode cL_law 551 = .ok (.iload 4, 2) := by decide +kernel
theorem dL_law_553 : decode cL_law 553 = .ok (.iconst 2, 1) := by decide +kernel
theorem dL_law_554 : decode cL_law 554 = .ok (.iadd, 1) := by decide +kernel
theorem dL_law_555 : decode cL_law 555 = .ok (.iaload, 1) := by decide +kernel
theorem dL_law_556 : decode cL_law 556 = .ok (.aload_n 0, 1) := by decide +kernel
theorem dL_law_557 : decode cL_law 557 = .ok (.iload 4, 2) := by decide +kernel
theorem dL_law_559 : decode cL_law 559 = .ok (.iconst 3, 1) := by decide +kernel
theorem dL_law_560 : decode cL_law 560 = .ok (.iadd, 1) := by decide +kernel
theorem dL_law_561 : decode cL_law 561 = .ok (.iaload, 1) := by decide +kernel
theorem dL_law_562 : decode cL_law 562 = .ok (.aload_n 3, 1) := by decide +kernel
theorem dL_law_563 : decode cL_law 563 = .ok (.invokestatic 99, 3) := by decide +kernel
theorem dL_law_566 : decode cL_law 566 = .ok (.istore 5, 2) := by decide +kernel
theorem dL_law_568 : decode cL_law 568 = .ok (.aload_n 2, 1) := by decide +kernel
theorem dL_law_569 : decode cL_law 569 = .ok (.aload_n 0, 1) := by decide +kernel
theorem dL_law_570 : decode cL_law 570 = .ok (.iload 4, 2) := by decide +kernel
theorem dL_law_572 : decode cL_law 572 = .ok (.iconst 1, 1) := by decide +kernel
theorem dL_law_573 : decode cL_law 573 = .ok (.iadd, 1) := by decide +kernel
theorem dL_law_574 : decode cL_law 574 = .ok (.iaload, 1) := by decide +kernel
theorem dL_law_575 : decode cL_law 575 = .ok (.aload_n 0, 1) := by decide +kernel
theorem dL_law_576 : decode cL_law 576 = .ok (.iload 4, 2) := by decide +kernel
theorem dL_law_578 : decode cL_law 578 = .ok (.iconst 2, 1) := by decide +kernel
theorem dL_law_579 : decode cL_law 579 = .ok (.iadd, 1) := by decide +kernel
theorem dL_law_580 : decode cL_law 580 = .ok (.iaload, 1) := by decide +kernel
theorem dL_law_581 : decode cL_law 581 = .ok (.aload_n 0, 1) := by decide +kernel
theorem dL_law_582 : decode cL_law 582 = .ok (.iload 4, 2) := by decide +kernel
theorem dL_law_584 : decode cL_law 584 = .ok (.iconst 3, 1) := by decide +kernel
theorem dL_law_585 : decode cL_law 585 = .ok (.iadd, 1) := by decide +kernel
theorem dL_law_586 : decode cL_law 586 = .ok (.iaload, 1) := by decide +kernel
theorem dL_law_587 : decode cL_law 587 = .ok (.invokevirtual 102, 3) := by decide +kernel
theorem dL_law_590 : decode cL_law 590 = .ok (.istore 6, 2) := by decide +kernel
theorem dL_law_592 : decode cL_law 592 = .ok (.aload_n 2, 1) := by decide +kernel
theorem dL_law_593 : decode cL_law 593 = .ok (.invokevirtual 78, 3) := by decide +kernel
theorem dL_law_596 : decode cL_law 596 = .ok (.iload 5, 2) := by decide +kernel
theorem dL_law_598 : decode cL_law 598 = .ok (.if_icmp .eq 5, 3) := by decide +kernel
theorem dL_law_601 : decode cL_law 601 = .ok (.iconst 0, 1) := by decide +kernel
theorem dL_law_602 : decode cL_law 602 = .ok (.ireturn, 1) := by decide +kernel
theorem dL_law_603 : decode cL_law 603 = .ok (.iload 5, 2) := by decide +kernel
theorem dL_law_605 : decode cL_law 605 = .ok (.ifCond .ne 15, 3) := by decide +kernel
theorem dL_law_608 : decode cL_law 608 = .ok (.aload_n 3, 1) := by decide +kernel
theorem dL_law_609 : decode cL_law 609 = .ok (.iconst 0, 1) := by decide +kernel
theorem dL_law_610 : decode cL_law 610 = .ok (.laload, 1) := by decide +kernel
theorem dL_law_611 : decode cL_law 611 = .ok (.iload 6, 2) := by decide +kernel
theorem dL_law_613 : decode cL_law 613 = .ok (.i2l, 1) := by decide +kernel
theorem dL_law_614 : decode cL_law 614 = .ok (.lcmp, 1) := by decide +kernel
theorem dL_law_615 : decode cL_law 615 = .ok (.ifCond .eq 5, 3) := by decide +kernel
theorem dL_law_618 : decode cL_law 618 = .ok (.iconst 0, 1) := by decide +kernel
theorem dL_law_619 : decode cL_law 619 = .ok (.ireturn, 1) := by decide +kernel
theorem dL_law_620 : decode cL_law 620 = .ok (.goto 623, 3) := by decide +kernel
theorem dL_law_623 : decode cL_law 623 = .ok (.aload_n 1, 1) := by decide +kernel
theorem dL_law_624 : decode cL_law 624 = .ok (.aload_n 0, 1) := by decide +kernel
theorem dL_law_625 : decode cL_law 625 = .ok (.iload 4, 2) := by decide +kernel
theorem dL_law_627 : decode cL_law 627 = .ok (.iconst 1, 1) := by decide +kernel
theorem dL_law_628 : decode cL_law 628 = .ok (.iadd, 1) := by decide +kernel
theorem dL_law_629 : decode cL_law 629 = .ok (.iaload, 1) := by decide +kernel
theorem dL_law_630 : decode cL_law 630 = .ok (.aload_n 0, 1) := by decide +kernel
theorem dL_law_631 : decode cL_law 631 = .ok (.iload 4, 2) := by decide +kernel
theorem dL_law_633 : decode cL_law 633 = .ok (.iconst 2, 1) := by decide +kernel
theorem dL_law_634 : decode cL_law 634 = .ok (.iadd, 1) := by decide +kernel
theorem dL_law_635 : decode cL_law 635 = .ok (.iaload, 1) := by decide +kernel
theorem dL_law_636 : decode cL_law 636 = .ok (.aload_n 3, 1) := by decide +kernel
theorem dL_law_637 : decode cL_law 637 = .ok (.invokestatic 103, 3) := by decide +kernel
theorem dL_law_640 : decode cL_law 640 = .ok (.istore 5, 2) := by decide +kernel
theorem dL_law_642 : decode cL_law 642 = .ok (.aload_n 2, 1) := by decide +kernel
theorem dL_law_643 : decode cL_law 643 = .ok (.aload_n 0, 1) := by decide +kernel
theorem dL_law_644 : decode cL_law 644 = .ok (.iload 4, 2) := by decide +kernel
theorem dL_law_646 : decode cL_law 646 = .ok (.iconst 1, 1) := by decide +kernel
theorem dL_law_647 : decode cL_law 647 = .ok (.iadd, 1) := by decide +kernel
theorem dL_law_648 : decode cL_law 648 = .ok (.iaload, 1) := by decide +kernel
theorem dL_law_649 : decode cL_law 649 = .ok (.aload_n 0, 1) := by decide +kernel
theorem dL_law_650 : decode cL_law 650 = .ok (.iload 4, 2) := by decide +kernel
theorem dL_law_652 : decode cL_law 652 = .ok (.iconst 2, 1) := by decide +kernel
theorem dL_law_653 : decode cL_law 653 = .ok (.iadd, 1) := by decide +kernel
theorem dL_law_654 : decode cL_law 654 = .ok (.iaload, 1) := by decide +kernel
theorem dL_law_655 : decode cL_law 655 = .ok (.invokevirtual 105, 3) := by decide +kernel
theorem dL_law_658 : decode cL_law 658 = .ok (.istore 6, 2) := by decide +kernel
theorem dL_law_660 : decode cL_law 660 = .ok (.aload_n 2, 1) := by decide +kernel
theorem dL_law_661 : decode cL_law 661 = .ok (.invokevirtual 78, 3) := by decide +kernel
theorem dL_law_664 : decode cL_law 664 = .ok (.iload 5, 2) := by decide +kernel
theorem dL_law_666 : decode cL_law 666 = .ok (.if_icmp .eq 5, 3) := by decide +kernel
theorem dL_law_669 : decode cL_law 669 = .ok (.iconst 0, 1) := by decide +kernel
theorem dL_law_670 : decode cL_law 670 = .ok (.ireturn, 1) := by decide +kernel
theorem dL_law_671 : decode cL_law 671 = .ok (.iload 5, 2) := by decide +kernel
theorem dL_law_673 : decode cL_law 673 = .ok (.ifCond .ne 15, 3) := by decide +kernel
theorem dL_law_676 : decode cL_law 676 = .ok (.aload_n 3, 1) := by decide +kernel
theorem dL_law_677 : decode cL_law 677 = .ok (.iconst 0, 1) := by decide +kernel
theorem dL_law_678 : decode cL_law 678 = .ok (.laload, 1) := by decide +kernel
theorem dL_law_679 : decode cL_law 679 = .ok (.iload 6, 2) := by decide +kernel
theorem dL_law_681 : decode cL_law 681 = .ok (.i2l, 1) := by decide +kernel
theorem dL_law_682 : decode cL_law 682 = .ok (.lcmp, 1) := by decide +kernel
theorem dL_law_683 : decode cL_law 683 = .ok (.ifCond .eq 5, 3) := by decide +kernel
theorem dL_law_686 : decode cL_law 686 = .ok (.iconst 0, 1) := by decide +kernel
theorem dL_law_687 : decode cL_law 687 = .ok (.ireturn, 1) := by decide +kernel
theorem dL_law_688 : decode cL_law 688 = .ok (.goto 555, 3) := by decide +kernel
theorem dL_law_691 : decode cL_law 691 = .ok (.aload_n 1, 1) := by decide +kernel
theorem dL_law_692 : decode cL_law 692 = .ok (.aload_n 0, 1) := by decide +kernel
theorem dL_law_693 : decode cL_law 693 = .ok (.iload 4, 2) := by decide +kernel
theorem dL_law_695 : decode cL_law 695 = .ok (.iconst 1, 1) := by decide +kernel
theorem dL_law_696 : decode cL_law 696 = .ok (.iadd, 1) := by decide +kernel
theorem dL_law_697 : decode cL_law 697 = .ok (.iaload, 1) := by decide +kernel
theorem dL_law_698 : decode cL_law 698 = .ok (.aload_n 3, 1) := by decide +kernel
theorem dL_law_699 : decode cL_law 699 = .ok (.invokestatic 106, 3) := by decide +kernel
theorem dL_law_702 : decode cL_law 702 = .ok (.istore 5, 2) := by decide +kernel
theorem dL_law_704 : decode cL_law 704 = .ok (.aload_n 2, 1) := by decide +kernel
theorem dL_law_705 : decode cL_law 705 = .ok (.aload_n 0, 1) := by decide +kernel
theorem dL_law_706 : decode cL_law 706 = .ok (.iload 4, 2) := by decide +kernel
theorem dL_law_708 : decode cL_law 708 = .ok (.iconst 1, 1) := by decide +kernel
theorem dL_law_709 : decode cL_law 709 = .ok (.iadd, 1) := by decide +kernel
theorem dL_law_710 : decode cL_law 710 = .ok (.iaload, 1) := by decide +kernel
theorem dL_law_711 : decode cL_law 711 = .ok (.invokevirtual 108, 3) := by decide +kernel
theorem dL_law_714 : decode cL_law 714 = .ok (.istore 6, 2) := by decide +kernel
theorem dL_law_716 : decode cL_law 716 = .ok (.aload_n 2, 1) := by decide +kernel
theorem dL_law_717 : decode cL_law 717 = .ok (.invokevirtual 78, 3) := by decide +kernel
theorem dL_law_720 : decode cL_law 720 = .ok (.iload 5, 2) := by decide +kernel
theorem dL_law_722 : decode cL_law 722 = .ok (.if_icmp .eq 5, 3) := by decide +kernel
theorem dL_law_725 : decode cL_law 725 = .ok (.iconst 0, 1) := by decide +kernel
theorem dL_law_726 : decode cL_law 726 = .ok (.ireturn, 1) := by decide +kernel
theorem dL_law_727 : decode cL_law 727 = .ok (.iload 5, 2) := by decide +kernel
theorem dL_law_729 : decode cL_law 729 = .ok (.ifCond .ne 15, 3) := by decide +kernel
theorem dL_law_732 : decode cL_law 732 = .ok (.aload_n 3, 1) := by decide +kernel
theorem dL_law_733 : decode cL_law 733 = .ok (.iconst 0, 1) := by decide +kernel
theorem dL_law_734 : decode cL_law 734 = .ok (.laload, 1) := by decide +kernel
theorem dL_law_735 : decode cL_law 735 = .ok (.iload 6, 2) := by decide +kernel
theorem dL_law_737 : decode cL_law 737 = .ok (.i2l, 1) := by decide +kernel
theorem dL_law_738 : decode cL_law 738 = .ok (.lcmp, 1) := by decide +kernel
theorem dL_law_739 : decode cL_law 739 = .ok (.ifCond .eq 5, 3) := by decide +kernel
theorem dL_law_742 : decode cL_law 742 = .ok (.iconst 0, 1) := by decide +kernel
theorem dL_law_743 : decode cL_law 743 = .ok (.ireturn, 1) := by decide +kernel
theorem dL_law_744 : decode cL_law 744 = .ok (.goto 499, 3) := by decide +kernel
theorem dL_law_747 : decode cL_law 747 = .ok (.aload_n 1, 1) := by decide +kernel
theorem dL_law_748 : decode cL_law 748 = .ok (.invokevirtual 109, 3) := by decide +kernel
theorem dL_law_751 : decode cL_law 751 = .ok (.aload_n 2, 1) := by decide +kernel
theorem dL_law_752 : decode cL_law 752 = .ok (.invokevirtual 112, 3) := by decide +kernel
theorem dL_law_755 : decode cL_law 755 = .ok (.if_icmp .eq 488, 3) := by decide +kernel
theorem dL_law_758 : decode cL_law 758 = .ok (.iconst 0, 1) := by decide +kernel
theorem dL_law_759 : decode cL_law 759 = .ok (.ireturn, 1) := by decide +kernel
theorem dL_law_760 : decode cL_law 760 = .ok (.aload_n 1, 1) := by decide +kernel
theorem dL_law_761 : decode cL_law 761 = .ok (.aload_n 0, 1) := by decide +kernel
theorem dL_law_762 : decode cL_law 762 = .ok (.iload 4, 2) := by decide +kernel
theorem dL_law_764 : decode cL_law 764 = .ok (.iconst 1, 1) := by decide +kernel
theorem dL_law_765 : decode cL_law 765 = .ok (.iadd, 1) := by decide +kernel
theorem dL_law_766 : decode cL_law 766 = .ok (.iaload, 1) := by decide +kernel
theorem dL_law_767 : decode cL_law 767 = .ok (.aload_n 0, 1) := by decide +kernel
theorem dL_law_768 : decode cL_law 768 = .ok (.iload 4, 2) := by decide +kernel
theorem dL_law_770 : decode cL_law 770 = .ok (.iconst 2, 1) := by decide +kernel
theorem dL_law_771 : decode cL_law 771 = .ok (.iadd, 1) := by decide +kernel
theorem dL_law_772 : decode cL_law 772 = .ok (.iaload, 1) := by decide +kernel
theorem dL_law_773 : decode cL_law 773 = .ok (.aload_n 3, 1) := by decide +kernel
theorem dL_law_774 : decode cL_law 774 = .ok (.invokestatic 113, 3) := by decide +kernel
theorem dL_law_777 : decode cL_law 777 = .ok (.istore 5, 2) := by decide +kernel
theorem dL_law_779 : decode cL_law 779 = .ok (.aload_n 2, 1) := by decide +kernel
theorem dL_law_780 : decode cL_law 780 = .ok (.aload_n 0, 1) := by decide +kernel
theorem dL_law_781 : decode cL_law 781 = .ok (.iload 4, 2) := by decide +kernel
theorem dL_law_783 : decode cL_law 783 = .ok (.iconst 1, 1) := by decide +kernel
theorem dL_law_784 : decode cL_law 784 = .ok (.iadd, 1) := by decide +kernel
theorem dL_law_785 : decode cL_law 785 = .ok (.iaload, 1) := by decide +kernel
theorem dL_law_786 : decode cL_law 786 = .ok (.aload_n 0, 1) := by decide +kernel
theorem dL_law_787 : decode cL_law 787 = .ok (.iload 4, 2) := by decide +kernel
theorem dL_law_789 : decode cL_law 789 = .ok (.iconst 2, 1) := by decide +kernel
theorem dL_law_790 : decode cL_law 790 = .ok (.iadd, 1) := by decide +kernel
theorem dL_law_791 : decode cL_law 791 = .ok (.iaload, 1) := by decide +kernel
theorem dL_law_792 : decode cL_law 792 = .ok (.invokevirtual 115, 3) := by decide +kernel
theorem dL_law_795 : decode cL_law 795 = .ok (.istore 6, 2) := by decide +kernel
theorem dL_law_797 : decode cL_law 797 = .ok (.aload_n 2, 1) := by decide +kernel
theorem dL_law_798 : decode cL_law 798 = .ok (.invokevirtual 78, 3) := by decide +kernel
theorem dL_law_801 : decode cL_law 801 = .ok (.iload 5, 2) := by decide +kernel
theorem dL_law_803 : decode cL_law 803 = .ok (.if_icmp .eq 5, 3) := by decide +kernel
theorem dL_law_806 : decode cL_law 806 = .ok (.iconst 0, 1) := by decide +kernel
theorem dL_law_807 : decode cL_law 807 = .ok (.ireturn, 1) := by decide +kernel
theorem dL_law_808 : decode cL_law 808 = .ok (.iload 5, 2) := by decide +kernel
theorem dL_law_810 : decode cL_law 810 = .ok (.ifCond .ne 15, 3) := by decide +kernel
theorem dL_law_813 : decode cL_law 813 = .ok (.aload_n 3, 1) := by decide +kernel
theorem dL_law_814 : decode cL_law 814 = .ok (.iconst 0, 1) := by decide +kernel
theorem dL_law_815 : decode cL_law 815 = .ok (.laload, 1) := by decide +kernel
theorem dL_law_816 : decode cL_law 816 = .ok (.iload 6, 2) := by decide +kernel
theorem dL_law_818 : decode cL_law 818 = .ok (.i2l, 1) := by decide +kernel
theorem dL_law_819 : decode cL_law 819 = .ok (.lcmp, 1) := by decide +kernel
theorem dL_law_820 : decode cL_law 820 = .ok (.ifCond .eq 5, 3) := by decide +kernel
theorem dL_law_823 : decode cL_law 823 = .ok (.iconst 0, 1) := by decide +kernel
theorem dL_law_824 : decode cL_law 824 = .ok (.ireturn, 1) := by decide +kernel
theorem dL_law_825 : decode cL_law 825 = .ok (.goto 418, 3) := by decide +kernel
theorem dL_law_828 : decode cL_law 828 = .ok (.aload_n 1, 1) := by decide +kernel
theorem dL_law_829 : decode cL_law 829 = .ok (.aload_n 0, 1) := by decide +kernel
theorem dL_law_830 : decode cL_law 830 = .ok (.iload 4, 2) := by decide +kernel
theorem dL_law_832 : decode cL_law 832 = .ok (.iconst 1, 1) := by decide +kernel
theorem dL_law_833 : decode cL_law 833 = .ok (.iadd, 1) := by decide +kernel
theorem dL_law_834 : decode cL_law 834 = .ok (.iaload, 1) := by decide +kernel
theorem dL_law_835 : decode cL_law 835 = .ok (.aload_n 3, 1) := by decide +kernel
theorem dL_law_836 : decode cL_law 836 = .ok (.invokestatic 116, 3) := by decide +kernel
theorem dL_law_839 : decode cL_law 839 = .ok (.istore 5, 2) := by decide +kernel
theorem dL_law_841 : decode cL_law 841 = .ok (.aload_n 2, 1) := by decide +kernel
theorem dL_law_842 : decode cL_law 842 = .ok (.aload_n 0, 1) := by decide +kernel
theorem dL_law_843 : decode cL_law 843 = .ok (.iload 4, 2) := by decide +kernel
theorem dL_law_845 : decode cL_law 845 = .ok (.iconst 1, 1) := by decide +kernel
theorem dL_law_846 : decode cL_law 846 = .ok (.iadd, 1) := by decide +kernel
theorem dL_law_847 : decode cL_law 847 = .ok (.iaload, 1) := by decide +kernel
theorem dL_law_848 : decode cL_law 848 = .ok (.invokevirtual 118, 3) := by decide +kernel
theorem dL_law_851 : decode cL_law 851 = .ok (.istore 6, 2) := by decide +kernel
theorem dL_law_853 : decode cL_law 853 = .ok (.aload_n 2, 1) := by decide +kernel
theorem dL_law_854 : decode cL_law 854 = .ok (.invokevirtual 78, 3) := by decide +kernel
theorem dL_law_857 : decode cL_law 857 = .ok (.iload 5, 2) := by decide +kernel
theorem dL_law_859 : decode cL_law 859 = .ok (.if_icmp .eq 5, 3) := by decide +kernel
theorem dL_law_862 : decode cL_law 862 = .ok (.iconst 0, 1) := by decide +kernel
theorem dL_law_863 : decode cL_law 863 = .ok (.ireturn, 1) := by decide +kernel
theorem dL_law_864 : decode cL_law 864 = .ok (.iload 5, 2) := by decide +kernel
theorem dL_law_866 : decode cL_law 866 = .ok (.ifCond .ne 15, 3) := by decide +kernel
theorem dL_law_869 : decode cL_law 869 = .ok (.aload_n 3, 1) := by decide +kernel
theorem dL_law_870 : decode cL_law 870 = .ok (.iconst 0, 1) := by decide +kernel
theorem dL_law_871 : decode cL_law 871 = .ok (.laload, 1) := by decide +kernel
theorem dL_law_872 : decode cL_law 872 = .ok (.iload 6, 2) := by decide +kernel
theorem dL_law_874 : decode cL_law 874 = .ok (.i2l, 1) := by decide +kernel
theorem dL_law_875 : decode cL_law 875 = .ok (.lcmp, 1) := by decide +kernel
theorem dL_law_876 : decode cL_law 876 = .ok (.ifCond .eq 5, 3) := by decide +kernel
theorem dL_law_879 : decode cL_law 879 = .ok (.iconst 0, 1) := by decide +kernel
theorem dL_law_880 : decode cL_law 880 = .ok (.ireturn, 1) := by decide +kernel
theorem dL_law_881 : decode cL_law 881 = .ok (.goto 362, 3) := by decide +kernel
theorem dL_law_884 : decode cL_law 884 = .ok (.aload_n 1, 1) := by decide +kernel
theorem dL_law_885 : decode cL_law 885 = .ok (.aload_n 0, 1) := by decide +kernel
theorem dL_law_886 : decode cL_law 886 = .ok (.iload 4, 2) := by decide +kernel
theorem dL_law_888 : decode cL_law 888 = .ok (.iconst 1, 1) := by decide +kernel
theorem dL_law_889 : decode cL_law 889 = .ok (.iadd, 1) := by decide +kernel
theorem dL_law_890 : decode cL_law 890 = .ok (.iaload, 1) := by decide +kernel
theorem dL_law_891 : decode cL_law 891 = .ok (.aload_n 3, 1) := by decide +kernel
theorem dL_law_892 : decode cL_law 892 = .ok (.invokestatic 119, 3) := by decide +kernel
theorem dL_law_895 : decode cL_law 895 = .ok (.istore 5, 2) := by decide +kernel
theorem dL_law_897 : decode cL_law 897 = .ok (.aload_n 2, 1) := by decide +kernel
theorem dL_law_898 : decode cL_law 898 = .ok (.aload_n 0, 1) := by decide +kernel
theorem dL_law_899 : decode cL_law 899 = .ok (.iload 4, 2) := by decide +kernel
theorem dL_law_901 : decode cL_law 901 = .ok (.iconst 1, 1) := by decide +kernel
theorem dL_law_902 : decode cL_law 902 = .ok (.iadd, 1) := by decide +kernel
theorem dL_law_903 : decode cL_law 903 = .ok (.iaload, 1) := by decide +kernel
theorem dL_law_904 : decode cL_law 904 = .ok (.invokevirtual 121, 3) := by decide +kernel
theorem dL_law_907 : decode cL_law 907 = .ok (.istore 6, 2) := by decide +kernel
theorem dL_law_909 : decode cL_law 909 = .ok (.aload_n 2, 1) := by decide +kernel
theorem dL_law_910 : decode cL_law 910 = .ok (.invokevirtual 78, 3) := by decide +kernel
theorem dL_law_913 : decode cL_law 913 = .ok (.iload 5, 2) := by decide +kernel
theorem dL_law_915 : decode cL_law 915 = .ok (.if_icmp .eq 5, 3) := by decide +kernel
theorem dL_law_918 : decode cL_law 918 = .ok (.iconst 0, 1) := by decide +kernel
theorem dL_law_919 : decode cL_law 919 = .ok (.ireturn, 1) := by decide +kernel
theorem dL_law_920 : decode cL_law 920 = .ok (.iload 5, 2) := by decide +kernel
theorem dL_law_922 : decode cL_law 922 = .ok (.ifCond .ne 15, 3) := by decide +kernel
theorem dL_law_925 : decode cL_law 925 = .ok (.aload_n 3, 1) := by decide +kernel
theorem dL_law_926 : decode cL_law 926 = .ok (.iconst 0, 1) := by decide +kernel
theorem dL_law_927 : decode cL_law 927 = .ok (.laload, 1) := by decide +kernel
theorem dL_law_928 : decode cL_law 928 = .ok (.iload 6, 2) := by decide +kernel
theorem dL_law_930 : decode cL_law 930 = .ok (.i2l, 1) := by decide +kernel
theorem dL_law_931 : decode cL_law 931 = .ok (.lcmp, 1) := by decide +kernel
theorem dL_law_932 : decode cL_law 932 = .ok (.ifCond .eq 5, 3) := by decide +kernel
theorem dL_law_935 : decode cL_law 935 = .ok (.iconst 0, 1) := by decide +kernel
theorem dL_law_936 : decode cL_law 936 = .ok (.ireturn, 1) := by decide +kernel
theorem dL_law_937 : decode cL_law 937 = .ok (.goto 306, 3) := by decide +kernel
theorem dL_law_940 : decode cL_law 940 = .ok (.aload_n 1, 1) := by decide +kernel
theorem dL_law_941 : decode cL_law 941 = .ok (.aload_n 0, 1) := by decide +kernel
theorem dL_law_942 : decode cL_law 942 = .ok (.iload 4, 2) := by decide +kernel
theorem dL_law_944 : decode cL_law 944 = .ok (.iconst 1, 1) := by decide +kernel
theorem dL_law_945 : decode cL_law 945 = .ok (.iadd, 1) := by decide +kernel
theorem dL_law_946 : decode cL_law 946 = .ok (.iaload, 1) := by decide +kernel
theorem dL_law_947 : decode cL_law 947 = .ok (.aload_n 0, 1) := by decide +kernel
theorem dL_law_948 : decode cL_law 948 = .ok (.iload 4, 2) := by decide +kernel
theorem dL_law_950 : decode cL_law 950 = .ok (.iconst 2, 1) := by decide +kernel
theorem dL_law_951 : decode cL_law 951 = .ok (.iadd, 1) := by decide +kernel
theorem dL_law_952 : decode cL_law 952 = .ok (.iaload, 1) := by decide +kernel
theorem dL_law_953 : decode cL_law 953 = .ok (.aload_n 3, 1) := by decide +kernel
theorem dL_law_954 : decode cL_law 954 = .ok (.invokestatic 122, 3) := by decide +kernel
theorem dL_law_957 : decode cL_law 957 = .ok (.istore 5, 2) := by decide +kernel
theorem dL_law_959 : decode cL_law 959 = .ok (.aload_n 2, 1) := by decide +kernel
theorem dL_law_960 : decode cL_law 960 = .ok (.aload_n 0, 1) := by decide +kernel
theorem dL_law_961 : decode cL_law 961 = .ok (.iload 4, 2) := by decide +kernel
theorem dL_law_963 : decode cL_law 963 = .ok (.iconst 1, 1) := by decide +kernel
theorem dL_law_964 : decode cL_law 964 = .ok (.iadd, 1) := by decide +kernel
theorem dL_law_965 : decode cL_law 965 = .ok (.iaload, 1) := by decide +kernel
theorem dL_law_966 : decode cL_law 966 = .ok (.aload_n 0, 1) := by decide +kernel
theorem dL_law_967 : decode cL_law 967 = .ok (.iload 4, 2) := by decide +kernel
theorem dL_law_969 : decode cL_law 969 = .ok (.iconst 2, 1) := by decide +kernel
theorem dL_law_970 : decode cL_law 970 = .ok (.iadd, 1) := by decide +kernel
theorem dL_law_971 : decode cL_law 971 = .ok (.iaload, 1) := by decide +kernel
theorem dL_law_972 : decode cL_law 972 = .ok (.invokevirtual 124, 3) := by decide +kernel
theorem dL_law_975 : decode cL_law 975 = .ok (.istore 6, 2) := by decide +kernel
theorem dL_law_977 : decode cL_law 977 = .ok (.aload_n 2, 1) := by decide +kernel
theorem dL_law_978 : decode cL_law 978 = .ok (.invokevirtual 78, 3) := by decide +kernel
theorem dL_law_981 : decode cL_law 981 = .ok (.iload 5, 2) := by decide +kernel
theorem dL_law_983 : decode cL_law 983 = .ok (.if_icmp .eq 5, 3) := by decide +kernel
theorem dL_law_986 : decode cL_law 986 = .ok (.iconst 0, 1) := by decide +kernel
theorem dL_law_987 : decode cL_law 987 = .ok (.ireturn, 1) := by decide +kernel
theorem dL_law_988 : decode cL_law 988 = .ok (.iload 5, 2) := by decide +kernel
theorem dL_law_990 : decode cL_law 990 = .ok (.ifCond .ne 15, 3) := by decide +kernel
theorem dL_law_993 : decode cL_law 993 = .ok (.aload_n 3, 1) := by decide +kernel
theorem dL_law_994 : decode cL_law 994 = .ok (.iconst 0, 1) := by decide +kernel
theorem dL_law_995 : decode cL_law 995 = .ok (.laload, 1) := by decide +kernel
theorem dL_law_996 : decode cL_law 996 = .ok (.iload 6, 2) := by decide +kernel
theorem dL_law_998 : decode cL_law 998 = .ok (.i2l, 1) := by decide +kernel
theorem dL_law_999 : decode cL_law 999 = .ok (.lcmp, 1) := by decide +kernel
theorem dL_law_1000 : decode cL_law 1000 = .ok (.ifCond .eq 5, 3) := by decide +kernel
theorem dL_law_1003 : decode cL_law 1003 = .ok (.iconst 0, 1) := by decide +kernel
theorem dL_law_1004 : decode cL_law 1004 = .ok (.ireturn, 1) := by decide +kernel
theorem dL_law_1005 : decode cL_law 1005 = .ok (.goto 238, 3) := by decide +kernel
theorem dL_law_1008 : decode cL_law 1008 = .ok (.aload_n 1, 1) := by decide +kernel
theorem dL_law_1009 : decode cL_law 1009 = .ok (.aload_n 0, 1) := by decide +kernel
theorem dL_law_1010 : decode cL_law 1010 = .ok (.iload 4, 2) := by decide +kernel
theorem dL_law_1012 : decode cL_law 1012 = .ok (.iconst 1, 1) := by decide +kernel
theorem dL_law_1013 : decode cL_law 1013 = .ok (.iadd, 1) := by decide +kernel
theorem dL_law_1014 : decode cL_law 1014 = .ok (.iaload, 1) := by decide +kernel
theorem dL_law_1015 : decode cL_law 1015 = .ok (.aload_n 0, 1) := by decide +kernel
theorem dL_law_1016 : decode cL_law 1016 = .ok (.iload 4, 2) := by decide +kernel
theorem dL_law_1018 : decode cL_law 1018 = .ok (.iconst 2, 1) := by decide +kernel
theorem dL_law_1019 : decode cL_law 1019 = .ok (.iadd, 1) := by decide +kernel
theorem dL_law_1020 : decode cL_law 1020 = .ok (.iaload, 1) := by decide +kernel
theorem dL_law_1021 : decode cL_law 1021 = .ok (.aload_n 3, 1) := by decide +kernel
theorem dL_law_1022 : decode cL_law 1022 = .ok (.invokestatic 125, 3) := by decide +kernel
theorem dL_law_1025 : decode cL_law 1025 = .ok (.istore 5, 2) := by decide +kernel
theorem dL_law_1027 : decode cL_law 1027 = .ok (.aload_n 2, 1) := by decide +kernel
theorem dL_law_1028 : decode cL_law 1028 = .ok (.aload_n 0, 1) := by decide +kernel
theorem dL_law_1029 : decode cL_law 1029 = .ok (.iload 4, 2) := by decide +kernel
theorem dL_law_1031 : decode cL_law 1031 = .ok (.iconst 1, 1) := by decide +kernel
theorem dL_law_1032 : decode cL_law 1032 = .ok (.iadd, 1) := by decide +kernel
theorem dL_law_1033 : decode cL_law 1033 = .ok (.iaload, 1) := by decide +kernel
theorem dL_law_1034 : decode cL_law 1034 = .ok (.aload_n 0, 1) := by decide +kernel
theorem dL_law_1035 : decode cL_law 1035 = .ok (.iload 4, 2) := by decide +kernel
theorem dL_law_1037 : decode cL_law 1037 = .ok (.iconst 2, 1) := by decide +kernel
theorem dL_law_1038 : decode cL_law 1038 = .ok (.iadd, 1) := by decide +kernel
theorem dL_law_1039 : decode cL_law 1039 = .ok (.iaload, 1) := by decide +kernel
theorem dL_law_1040 : decode cL_law 1040 = .ok (.invokevirtual 127, 3) := by decide +kernel
theorem dL_law_1043 : decode cL_law 1043 = .ok (.istore 6, 2) := by decide +kernel
theorem dL_law_1045 : decode cL_law 1045 = .ok (.aload_n 2, 1) := by decide +kernel
theorem dL_law_1046 : decode cL_law 1046 = .ok (.invokevirtual 78, 3) := by decide +kernel
theorem dL_law_1049 : decode cL_law 1049 = .ok (.iload 5, 2) := by decide +kernel
theorem dL_law_1051 : decode cL_law 1051 = .ok (.if_icmp .eq 5, 3) := by decide +kernel
theorem dL_law_1054 : decode cL_law 1054 = .ok (.iconst 0, 1) := by decide +kernel
theorem dL_law_1055 : decode cL_law 1055 = .ok (.ireturn, 1) := by decide +kernel
theorem dL_law_1056 : decode cL_law 1056 = .ok (.iload 5, 2) := by decide +kernel
theorem dL_law_1058 : decode cL_law 1058 = .ok (.ifCond .ne 15, 3) := by decide +kernel
theorem dL_law_1061 : decode cL_law 1061 = .ok (.aload_n 3, 1) := by decide +kernel
theorem dL_law_1062 : decode cL_law 1062 = .ok (.iconst 0, 1) := by decide +kernel
theorem dL_law_1063 : decode cL_law 1063 = .ok (.laload, 1) := by decide +kernel
theorem dL_law_1064 : decode cL_law 1064 = .ok (.iload 6, 2) := by decide +kernel
theorem dL_law_1066 : decode cL_law 1066 = .ok (.i2l, 1) := by decide +kernel
theorem dL_law_1067 : decode cL_law 1067 = .ok (.lcmp, 1) := by decide +kernel
theorem dL_law_1068 : decode cL_law 1068 = .ok (.ifCond .eq 5, 3) := by decide +kernel
theorem dL_law_1071 : decode cL_law 1071 = .ok (.iconst 0, 1) := by decide +kernel
theorem dL_law_1072 : decode cL_law 1072 = .ok (.ireturn, 1) := by decide +kernel
theorem dL_law_1073 : decode cL_law 1073 = .ok (.goto 170, 3) := by decide +kernel
theorem dL_law_1076 : decode cL_law 1076 = .ok (.aload_n 1, 1) := by decide +kernel
theorem dL_law_1077 : decode cL_law 1077 = .ok (.aload_n 0, 1) := by decide +kernel
theorem dL_law_1078 : decode cL_law 1078 = .ok (.iload 4, 2) := by decide +kernel
theorem dL_law_1080 : decode cL_law 1080 = .ok (.iconst 1, 1) := by decide +kernel
theorem dL_law_1081 : decode cL_law 1081 = .ok (.iadd, 1) := by decide +kernel
theorem dL_law_1082 : decode cL_law 1082 = .ok (.iaload, 1) := by decide +kernel
theorem dL_law_1083 : decode cL_law 1083 = .ok (.aload_n 3, 1) := by decide +kernel
theorem dL_law_1084 : decode cL_law 1084 = .ok (.invokestatic 128, 3) := by decide +kernel
theorem dL_law_1087 : decode cL_law 1087 = .ok (.istore 5, 2) := by decide +kernel
theorem dL_law_1089 : decode cL_law 1089 = .ok (.aload_n 2, 1) := by decide +kernel
theorem dL_law_1090 : decode cL_law 1090 = .ok (.aload_n 0, 1) := by decide +kernel
theorem dL_law_1091 : decode cL_law 1091 = .ok (.iload 4, 2) := by decide +kernel
theorem dL_law_1093 : decode cL_law 1093 = .ok (.iconst 1, 1) := by decide +kernel
theorem dL_law_1094 : decode cL_law 1094 = .ok (.iadd, 1) := by decide +kernel
theorem dL_law_1095 : decode cL_law 1095 = .ok (.iaload, 1) := by decide +kernel
theorem dL_law_1096 : decode cL_law 1096 = .ok (.invokevirtual 130, 3) := by decide +kernel
theorem dL_law_1099 : decode cL_law 1099 = .ok (.istore 6, 2) := by decide +kernel
theorem dL_law_1101 : decode cL_law 1101 = .ok (.aload_n 2, 1) := by decide +kernel
theorem dL_law_1102 : decode cL_law 1102 = .ok (.invokevirtual 78, 3) := by decide +kernel
theorem dL_law_1105 : decode cL_law 1105 = .ok (.iload 5, 2) := by decide +kernel
theorem dL_law_1107 : decode cL_law 1107 = .ok (.if_icmp .eq 5, 3) := by decide +kernel
theorem dL_law_1110 : decode cL_law 1110 = .ok (.iconst 0, 1) := by decide +kernel
theorem dL_law_1111 : decode cL_law 1111 = .ok (.ireturn, 1) := by decide +kernel
theorem dL_law_1112 : decode cL_law 1112 = .ok (.iload 5, 2) := by decide +kernel
theorem dL_law_1114 : decode cL_law 1114 = .ok (.ifCond .ne 15, 3) := by decide +kernel
theorem dL_law_1117 : decode cL_law 1117 = .ok (.aload_n 3, 1) := by decide +kernel
theorem dL_law_1118 : decode cL_law 1118 = .ok (.iconst 0, 1) := by decide +kernel
theorem dL_law_1119 : decode cL_law 1119 = .ok (.laload, 1) := by decide +kernel
theorem dL_law_1120 : decode cL_law 1120 = .ok (.iload 6, 2) := by decide +kernel
theorem dL_law_1122 : decode cL_law 1122 = .ok (.i2l, 1) := by decide +kernel
theorem dL_law_1123 : decode cL_law 1123 = .ok (.lcmp, 1) := by decide +kernel
theorem dL_law_1124 : decode cL_law 1124 = .ok (.ifCond .eq 5, 3) := by decide +kernel
theorem dL_law_1127 : decode cL_law 1127 = .ok (.iconst 0, 1) := by decide +kernel
theorem dL_law_1128 : decode cL_law 1128 = .ok (.ireturn, 1) := by decide +kernel
theorem dL_law_1129 : decode cL_law 1129 = .ok (.goto 114, 3) := by decide +kernel
theorem dL_law_1132 : decode cL_law 1132 = .ok (.aload_n 1, 1) := by decide +kernel
theorem dL_law_1133 : decode cL_law 1133 = .ok (.aload_n 0, 1) := by decide +kernel
theorem dL_law_1134 : decode cL_law 1134 = .ok (.iload 4, 2) := by decide +kernel
theorem dL_law_1136 : decode cL_law 1136 = .ok (.iconst 1, 1) := by decide +kernel
theorem dL_law_1137 : decode cL_law 1137 = .ok (.iadd, 1) := by decide +kernel
theorem dL_law_1138 : decode cL_law 1138 = .ok (.iaload, 1) := by decide +kernel
theorem dL_law_1139 : decode cL_law 1139 = .ok (.aload_n 3, 1) := by decide +kernel
theorem dL_law_1140 : decode cL_law 1140 = .ok (.invokestatic 131, 3) := by decide +kernel
theorem dL_law_1143 : decode cL_law 1143 = .ok (.istore 5, 2) := by decide +kernel
theorem dL_law_1145 : decode cL_law 1145 = .ok (.aload_n 2, 1) := by decide +kernel
theorem dL_law_1146 : decode cL_law 1146 = .ok (.aload_n 0, 1) := by decide +kernel
theorem dL_law_1147 : decode cL_law 1147 = .ok (.iload 4, 2) := by decide +kernel
theorem dL_law_1149 : decode cL_law 1149 = .ok (.iconst 1, 1) := by decide +kernel
theorem dL_law_1150 : decode cL_law 1150 = .ok (.iadd, 1) := by decide +kernel
theorem dL_law_1151 : decode cL_law 1151 = .ok (.iaload, 1) := by decide +kernel
theorem dL_law_1152 : decode cL_law 1152 = .ok (.invokevirtual 133, 3) := by decide +kernel
theorem dL_law_1155 : decode cL_law 1155 = .ok (.istore 6, 2) := by decide +kernel
theorem dL_law_1157 : decode cL_law 1157 = .ok (.aload_n 2, 1) := by decide +kernel
theorem dL_law_1158 : decode cL_law 1158 = .ok (.invokevirtual 78, 3) := by decide +kernel
theorem dL_law_1161 : decode cL_law 1161 = .ok (.iload 5, 2) := by decide +kernel
theorem dL_law_1163 : decode cL_law 1163 = .ok (.if_icmp .eq 5, 3) := by decide +kernel
theorem dL_law_1166 : decode cL_law 1166 = .ok (.iconst 0, 1) := by decide +kernel
theorem dL_law_1167 : decode cL_law 1167 = .ok (.ireturn, 1) := by decide +kernel
theorem dL_law_1168 : decode cL_law 1168 = .ok (.iload 5, 2) := by decide +kernel
theorem dL_law_1170 : decode cL_law 1170 = .ok (.ifCond .ne 15, 3) := by decide +kernel
theorem dL_law_1173 : decode cL_law 1173 = .ok (.aload_n 3, 1) := by decide +kernel
theorem dL_law_1174 : decode cL_law 1174 = .ok (.iconst 0, 1) := by decide +kernel
theorem dL_law_1175 : decode cL_law 1175 = .ok (.laload, 1) := by decide +kernel
theorem dL_law_1176 : decode cL_law 1176 = .ok (.iload 6, 2) := by decide +kernel
theorem dL_law_1178 : decode cL_law 1178 = .ok (.i2l, 1) := by decide +kernel
theorem dL_law_1179 : decode cL_law 1179 = .ok (.lcmp, 1) := by decide +kernel
theorem dL_law_1180 : decode cL_law 1180 = .ok (.ifCond .eq 5, 3) := by decide +kernel
theorem dL_law_1183 : decode cL_law 1183 = .ok (.iconst 0, 1) := by decide +kernel
theorem dL_law_1184 : decode cL_law 1184 = .ok (.ireturn, 1) := by decide +kernel
theorem dL_law_1185 : decode cL_law 1185 = .ok (.goto 58, 3) := by decide +kernel
theorem dL_law_1188 : decode cL_law 1188 = .ok (.aload_n 1, 1) := by decide +kernel
theorem dL_law_1189 : decode cL_law 1189 = .ok (.invokevirtual 134, 3) := by decide +kernel
theorem dL_law_1192 : decode cL_law 1192 = .ok (.dstore 5, 2) := by decide +kernel
theorem dL_law_1194 : decode cL_law 1194 = .ok (.aload_n 2, 1) := by decide +kernel
theorem dL_law_1195 : decode cL_law 1195 = .ok (.invokevirtual 138, 3) := by decide +kernel
theorem dL_law_1198 : decode cL_law 1198 = .ok (.dstore 7, 2) := by decide +kernel
theorem dL_law_1200 : decode cL_law 1200 = .ok (.dload 5, 2) := by decide +kernel
theorem dL_law_1202 : decode cL_law 1202 = .ok (.dload 7, 2) := by decide +kernel
theorem dL_law_1204 : decode cL_law 1204 = .ok (.dcmp .l, 1) := by decide +kernel
theorem dL_law_1205 : decode cL_law 1205 = .ok (.ifCond .eq 21, 3) := by decide +kernel
theorem dL_law_1208 : decode cL_law 1208 = .ok (.dload 5, 2) := by decide +kernel
theorem dL_law_1210 : decode cL_law 1210 = .ok (.dload 5, 2) := by decide +kernel
theorem dL_law_1212 : decode cL_law 1212 = .ok (.dcmp .l, 1) := by decide +kernel
theorem dL_law_1213 : decode cL_law 1213 = .ok (.ifCond .eq 11, 3) := by decide +kernel
theorem dL_law_1216 : decode cL_law 1216 = .ok (.dload 7, 2) := by decide +kernel
theorem dL_law_1218 : decode cL_law 1218 = .ok (.dload 7, 2) := by decide +kernel
theorem dL_law_1220 : decode cL_law 1220 = .ok (.dcmp .l, 1) := by decide +kernel
theorem dL_law_1221 : decode cL_law 1221 = .ok (.ifCond .ne 5, 3) := by decide +kernel
theorem dL_law_1224 : decode cL_law 1224 = .ok (.iconst 0, 1) := by decide +kernel
theorem dL_law_1225 : decode cL_law 1225 = .ok (.ireturn, 1) := by decide +kernel
theorem dL_law_1226 : decode cL_law 1226 = .ok (.goto 17, 3) := by decide +kernel
theorem dL_law_1229 : decode cL_law 1229 = .ok (.aload_n 1, 1) := by decide +kernel
theorem dL_law_1230 : decode cL_law 1230 = .ok (.invokevirtual 139, 3) := by decide +kernel
theorem dL_law_1233 : decode cL_law 1233 = .ok (.aload_n 2, 1) := by decide +kernel
theorem dL_law_1234 : decode cL_law 1234 = .ok (.invokevirtual 143, 3) := by decide +kernel
theorem dL_law_1237 : decode cL_law 1237 = .ok (.lcmp, 1) := by decide +kernel
theorem dL_law_1238 : decode cL_law 1238 = .ok (.ifCond .eq 5, 3) := by decide +kernel
theorem dL_law_1241 : decode cL_law 1241 = .ok (.iconst 0, 1) := by decide +kernel
theorem dL_law_1242 : decode cL_law 1242 = .ok (.ireturn, 1) := by decide +kernel
theorem dL_law_1243 : decode cL_law 1243 = .ok (.iinc 4 5, 3) := by decide +kernel
theorem dL_law_1246 : decode cL_law 1246 = .ok (.goto (-1223), 3) := by decide +kernel
theorem dL_law_1249 : decode cL_law 1249 = .ok (.iconst 1, 1) := by decide +kernel
theorem dL_law_1250 : decode cL_law 1250 = .ok (.ireturn, 1) := by decide +kernel
abbrev vwCl : List vw_C := [(RX0, TX0, 7), (RX1, TX1, 6), (RX2, TX2, 1), (RX3, TX3, 3), (RX4, TX4, 3), (RX5, TX5, 6), (RX6, TX6, 5), (RX7, TX7, 12)]
/-! ===== END printed: names ===== -/
end
section
/-! BASE: what every contract here says of the machine, and one row for each kind of call -/
abbrev fN : Type := Nat → Int32
abbrev yK (Y : Nat → ClassId) : List (ClassId × FieldType) := [(Y 0, .int), (Y 1, .boolean), (Y 2, .long)]
abbrev nwW : List Cond := [.methodLinkNest RX5 18 yX3_init RX5, .methodLinkNest RX5 44 yX1_init RX5, .methodLinkNest RX1 40 yX5_sum RX5, .methodLinkNest RX0 43 yX5_sum RX5, .methodLinkNest RX2 21 yX5_hold RX5, .methodLinkNest RX0 92 yX5_isOutside RX5, .methodLinkNest RX7 33 yX6_init RX7, .methodLinkNest RX6 34 yX7_isIn RX7, .fieldLinkNest RX7 71 RX6 "hour" "I" RX7, .fieldLinkNest RX7 55 RX6 "water" "I" RX7, .fieldLinkNest RX7 82 RX6 "snow" "[I" RX7, .fieldLinkNest RX7 58 RX6 "ice" "[I" RX7, .fieldLinkNest RX7 52 RX6 "runs" "[I" RX7]
abbrev exW : List Cond := [.castable "java/lang/IndexOutOfBoundsException" "java/lang/IndexOutOfBoundsException", .castable "java/lang/IllegalArgumentException" "java/lang/IllegalArgumentException", .castable "java/lang/IllegalStateException" "java/lang/IllegalStateException", .declares ⟨"java/lang/RuntimeException", "<init>", "()V"⟩, .declares ⟨"java/lang/RuntimeException", "<init>", "(Ljava/lang/String;)V"⟩, .declares ⟨"java/lang/Exception", "<init>", "()V"⟩, .declares ⟨"java/lang/Exception", "<init>", "(Ljava/lang/String;)V"⟩, .declares ⟨"java/lang/Throwable", "<init>", "()V"⟩, .declares ⟨"java/lang/Throwable", "<init>", "(Ljava/lang/String;)V"⟩]
abbrev exT : List (Nat × String) := [(55, "hour is not 0 to 23"), (62, "warmth is not -30 to 20"), (65, "damp is not 0 to 100"), (67, "gust is not -9 to 9"), (83, "part is not 0 to 19"), (85, "flow is not 1 to 9"), (93, "there are 5 pumps"), (100, "there is no such pump"), (106, "water is not 1 to 9999"), (116, "from is not 0 to 19"), (118, "to is not 0 to 19"), (120, "from is greater than to"), (125, "judge is not 0 to 4"), (127, "strict is not 0 to 4"), (132, "jumper is not 0 to 9"), (134, "gate is not 1 to 20"), (136, "style is not 0 to 20"), (139, "there are 30 jumps"), (168, "there is no such jump"), (170, "what is not 0 to 4"), (178, "what is not 0 to 3"), (183, "what is not 0 to 10"), (188, "hours is not 1 to 96"), (197, "snow is not 1 to 300"), (209, "what is not 4, 7 or 8")]
abbrev exN : List (String × String) := [("java/lang/IllegalArgumentException", "java/lang/IndexOutOfBoundsException"), ("java/lang/IllegalStateException", "java/lang/IndexOutOfBoundsException"), ("java/lang/IndexOutOfBoundsException", "java/lang/IllegalArgumentException"), ("java/lang/IllegalStateException", "java/lang/IllegalArgumentException"), ("java/lang/IndexOutOfBoundsException", "java/lang/IllegalStateException"), ("java/lang/IllegalArgumentException", "java/lang/IllegalStateException")]
theorem nwW_warm {s U : State} (hW : s.WarmedH U.vm) (h : ∀ w ∈ nwW, va_Nw w s) : ∀ w ∈ nwW, va_Nw w U := List.forall_mem_cons.mpr ⟨va_Nw.warmM hW (h _ (List.mem_of_getElem? (i := 0) rfl)), List.forall_mem_cons.mpr ⟨va_Nw.warmM hW (h _ (List.mem_of_getElem? (i := 1) rfl)), List.forall_mem_cons.mpr ⟨va_Nw.warmM hW (h _ (List.mem_of_getElem? (i := 2) rfl)), List.forall_mem_cons.mpr ⟨va_Nw.warmM hW (h _ (List.mem_of_getElem? (i := 3) rfl)), List.forall_mem_cons.mpr ⟨va_Nw.warmM hW (h _ (List.mem_of_getElem? (i := 4) rfl)), List.forall_mem_cons.mpr ⟨va_Nw.warmM hW (h _ (List.mem_of_getElem? (i := 5) rfl)), List.forall_mem_cons.mpr ⟨va_Nw.warmM hW (h _ (List.mem_of_getElem? (i := 6) rfl)), List.forall_mem_cons.mpr ⟨va_Nw.warmM hW (h _ (List.mem_of_getElem? (i := 7) rfl)), List.forall_mem_cons.mpr ⟨va_Nw.warmF hW (h _ (List.mem_of_getElem? (i := 8) rfl)), List.forall_mem_cons.mpr ⟨va_Nw.warmF hW (h _ (List.mem_of_getElem? (i := 9) rfl)), List.forall_mem_cons.mpr ⟨va_Nw.warmF hW (h _ (List.mem_of_getElem? (i := 10) rfl)), List.forall_mem_cons.mpr ⟨va_Nw.warmF hW (h _ (List.mem_of_getElem? (i := 11) rfl)), List.forall_mem_cons.mpr ⟨va_Nw.warmF hW (h _ (List.mem_of_getElem? (i := 12) rfl)), fun _ h9 => absurd h9 List.not_mem_nil⟩⟩⟩⟩⟩⟩⟩⟩⟩⟩⟩⟩⟩
theorem exW_warm {s U : State} (hW : s.WarmedH U.vm) (h : ∀ w ∈ exW, va_Nw w s) : ∀ w ∈ exW, va_Nw w U := List.forall_mem_cons.mpr ⟨va_Nw.warmC hW (h _ (List.mem_of_getElem? (i := 0) rfl)), List.forall_mem_cons.mpr ⟨va_Nw.warmC hW (h _ (List.mem_of_getElem? (i := 1) rfl)), List.forall_mem_cons.mpr ⟨va_Nw.warmC hW (h _ (List.mem_of_getElem? (i := 2) rfl)), List.forall_mem_cons.mpr ⟨va_Nw.warmD hW (h _ (List.mem_of_getElem? (i := 3) rfl)), List.forall_mem_cons.mpr ⟨va_Nw.warmD hW (h _ (List.mem_of_getElem? (i := 4) rfl)), List.forall_mem_cons.mpr ⟨va_Nw.warmD hW (h _ (List.mem_of_getElem? (i := 5) rfl)), List.forall_mem_cons.mpr ⟨va_Nw.warmD hW (h _ (List.mem_of_getElem? (i := 6) rfl)), List.forall_mem_cons.mpr ⟨va_Nw.warmD hW (h _ (List.mem_of_getElem? (i := 7) rfl)), List.forall_mem_cons.mpr ⟨va_Nw.warmD hW (h _ (List.mem_of_getElem? (i := 8) rfl)), fun _ h9 => absurd h9 List.not_mem_nil⟩⟩⟩⟩⟩⟩⟩⟩⟩
theorem nwW_tab : ∀ w ∈ nwW, w.onTables = true := by decide +kernel
theorem exW_tab : ∀ w ∈ exW, w.onTables = true := by decide +kernel
def NW (U : State) : Prop := ∀ w ∈ nwW, va_Nw w U
theorem NW.warm {s U : State} (hW : s.WarmedH U.vm) (h : NW s) : NW U := nwW_warm hW h
theorem NW.same {u U : State} (e : u.vm = U.vm) (h : NW u) : NW U := fun w hw => va_Nw.same (nwW_tab w hw) e (h w hw)
theorem NW.get {U : State} (h : NW U) (i : Nat) {w : Cond} (hw : nwW[i]? = some w) : va_Nw w U := h w (List.mem_of_getElem? hw)
theorem NW.before {A : Array Value} {U : State} (h : NW U) (i : Nat) {w : Cond} (hw : nwW[i]? = some w) : w.before A U = true := va_Nw.use (nwW_tab w (List.mem_of_getElem? hw)) (h.get i hw)
/-- the tables' part of what a throw and a catch need -/
def EX (U : State) : Prop := (∀ w ∈ exW, va_Nw w U) ∧ (∀ q ∈ exT, ∃ sa, vk_R RX5 q.1 q.2 sa U) ∧ ∀ q ∈ exN, va_Nc q.1 q.2 U
theorem EX.warm {s U : State} (hW : s.WarmedH U.vm) (h : EX s) : EX U := ⟨exW_warm hW h.1, fun q hq => by obtain ⟨sa, h9⟩ := h.2.1 q hq; exact ⟨sa, vk_R.warm hW h9⟩, fun q hq => va_Nc.moved hW.alike (h.2.2 q hq)⟩
theorem EX.calling {U : State} {g : JFrame} {mk : MethodId} {a : Array Value} (h : EX U) : EX (U.calling g mk a) := ⟨fun w hw => va_Nw.same (u := U) (U := U.calling g mk a) (exW_tab w hw) rfl (h.1 w hw), fun q hq => by obtain ⟨sa, h9⟩ := h.2.1 q hq; exact ⟨sa, vk_R.same (u := U) (U := U.calling g mk a) rfl h9⟩, fun q hq => va_Nc.moved (u := U) (U := U.calling g mk a) (Vm.Alike.refl U.vm) (h.2.2 q hq)⟩
/-- what Throwable's two statics hold, outside A -/
def ZX (A : Nat → Prop) (U : State) (H : Heap) : Prop := vx_Zq Bundle.tN "UNASSIGNED_STACK" Bundle.steD A U H ∧ vx_Zq Bundle.tN "SUPPRESSED_SENTINEL" Bundle.listD A U H
theorem ZX.moved {A : Nat → Prop} {u U : State} {H : Heap} (hvm : u.vm.Alike U.vm) (h : ZX A u H) : ZX A U H := ⟨vx_Zq.moved hvm h.1, vx_Zq.moved hvm h.2⟩
theorem ZX.kept {A : Nat → Prop} {U : State} {H H1 : Heap} (h : ZX A U H) (hq : ∀ a : Nat, a < H.size → ¬ A a → H1[a]? = H[a]?) : ZX A U H1 := ⟨vx_Zq.kept h.1 hq, vx_Zq.kept h.2 hq⟩
theorem ZX.narrow {A B : Nat → Prop} {U : State} {H : Heap} (h : ZX A U H) (hAB : ∀ q, B q → A q) : ZX B U H := ⟨vx_Zq.narrow h.1 hAB, vx_Zq.narrow h.2 hAB⟩
def KN (D : va_G) (Y : Nat → ClassId) (U : State) : Prop := va_K D vwCl (yK Y) U ∧ NW U
theorem KN.warm {D : va_G} {Y : Nat → ClassId} {s U : State} (hW : s.WarmedH U.vm) (h : KN D Y s) : KN D Y U := ⟨va_K.moved hW.alike h.1, h.2.warm hW⟩
theorem KN.calling {D : va_G} {Y : Nat → ClassId} {U : State} {g : JFrame} {mk : MethodId} {a : Array Value} (h : KN D Y U) : KN D Y (U.calling g mk a) := ⟨va_K.moved (u := U) (U := U.calling g mk a) (Vm.Alike.refl U.vm) h.1, NW.same (u := U) (U := U.calling g mk a) rfl h.2⟩
/-! a contract's start and end -/
def pcW (D : va_G) (Y : Nat → ClassId) (av : List Value) (sz : Nat) (ws : va_W) : Array Value → State → Prop := va_Pc av (fun U => U.heap.size = sz ∧ va_P D vwCl ws U.heap ∧ KN D Y U ∧ va_D (fun _ => True) ws)
theorem pcW_blind {D : va_G} {Y : Nat → ClassId} {av : List Value} {sz : Nat} {ws : va_W} : FrameBlind (pcW D Y av sz ws) := fun a U g mk q => by
  obtain ⟨q0, q1, qP, qK, qD⟩ := q
  exact ⟨q0, q1, qP, qK.calling, qD⟩
def pcX (D : va_G) (Y : Nat → ClassId) (av : List Value) (sz : Nat) (ws : va_W) : Array Value → State → Prop := va_Pc av (fun U => U.heap.size = sz ∧ va_P D vwCl ws U.heap ∧ KN D Y U ∧ va_D (fun _ => True) ws ∧ EX U ∧ ZX (va_A ws sz) U U.heap)
theorem pcX_blind {D : va_G} {Y : Nat → ClassId} {av : List Value} {sz : Nat} {ws : va_W} : FrameBlind (pcX D Y av sz ws) := fun a U g mk q => by
  obtain ⟨q0, q1, qP, qK, qD, qE, qZ⟩ := q
  exact ⟨q0, q1, qP, qK.calling, qD, qE.calling, ZX.moved (u := U) (U := U.calling g mk a) (Vm.Alike.refl U.vm) qZ⟩
def qW (D : va_G) (A : Nat → Prop) (w : va_W) : Unit → State → Prop := fun _ t => va_P D vwCl w t.heap ∧ va_D A w
abbrev MI (l : Launch) (y : MethodName) (ws : List Cond) (rm : Room) (D : va_G) (Y : Nat → ClassId) (av : List Value) (sz : Nat) (wc : va_W) (E : Int32) (w1 : va_W) (mc ms : Nat) : Prop := Met l y ws rm (pcW D Y av sz wc) (va_Qi (fun (r : Int32) (_ : Unit) => r = E) (qW D (va_A wc sz) w1) (va_A wc sz)) mc ms (va_A wc sz)
abbrev ML (l : Launch) (y : MethodName) (ws : List Cond) (rm : Room) (D : va_G) (Y : Nat → ClassId) (av : List Value) (sz : Nat) (wc : va_W) (E : Int64) (w1 : va_W) (mc ms : Nat) : Prop := Met l y ws rm (pcW D Y av sz wc) (va_Ql (fun (r : Int64) (_ : Unit) => r = E) (qW D (va_A wc sz) w1) (va_A wc sz)) mc ms (va_A wc sz)
abbrev MV (l : Launch) (y : MethodName) (ws : List Cond) (rm : Room) (D : va_G) (Y : Nat → ClassId) (av : List Value) (sz : Nat) (wc : va_W) (w1 : va_W) (mc ms : Nat) : Prop := Met l y ws rm (pcW D Y av sz wc) (va_Qv (fun (_ : Unit) => True) (qW D (va_A wc sz) w1) (va_A wc sz)) mc ms (va_A wc sz)
/-- what a body has at its entry -/
def Ent (p : Program) (s : State) (m : MethodId) (args : Array Value) (meth : Method) (c : Code) (y : MethodName) (cc : ByteArray) (maxL : Nat) (ret : Option FieldType) (ws : List Cond) : Prop :=
  p.tables.exec = Jvm.exec ∧ c.code = cc ∧ meth.sig.returnType = ret ∧ c.maxLocals = maxL ∧ s.vm.findClass y.cls = some m.cls ∧ (∀ w ∈ ws, w.before args s = true) ∧ meth.locks = false ∧ meth.name = y.name
theorem pcW_start {l : Launch} {y : MethodName} {ws ws' : List Cond} {rm : Room} {D : va_G} {Y : Nat → ClassId} {av : List Value} {sz : Nat} {wc : va_W} {mc ms : Nat} {cc : ByteArray} {maxL : Nat} {ret : Option FieldType} {Qc : (Nat → Prop) → Array Value → State → Outcome → State → Prop}
    (hy : plainName y.cls = true) (hw : ws = Cond.code y cc maxL ret :: ws') (hsl : (lg_sl av).length ≤ maxL)
    (body : ∀ (p : Program) (e : Env) (s : State) (m : MethodId) (below : List Frame) (meth : Method) (c : Code) (A : Nat → Prop) (ls : Array Slot), Ent p s m av.toArray meth c y cc maxL ret ws → KN D Y s → (∀ q, s.heap.size ≤ q → A q) → va_P D vwCl wc s.heap → va_D A wc → lv_has ls maxL (lv_args 0 av) →
      W p l e rm s m av.toArray below meth c s.heap [] 0 0 (MQ below (Qc A) av.toArray s mc ms A) (F0 m 0 ls [])) : Met l y ws rm (pcW D Y av sz wc) (Qc (va_A wc sz)) mc ms (va_A wc sz) := by
  refine Met.ofW (cc := cc) (maxL := maxL) (ret := ret) hy hw ?_
  intro p e s m args below meth c s₁ B hml hv
  obtain ⟨rfl, hsz, hP, hK, hD0⟩ := hv
  subst hsz
  have hD := hD0.self (sz := s.heap.size)
  have hl := lv_entry av (n := maxL) hsl
  rw [lg_entry_eq]
  generalize (lg_sl av ++ List.replicate (maxL - (lg_sl av).length) Slot.unset).toArray = ls at hl ⊢
  exact body p e s m below meth c (va_A wc s.heap.size) ls ⟨B.exec, B.bytes, B.returns, hml, findClass_of_methodNamed B.named, atoms_spec (ws := ws) B.pre, B.notSynchronized, (name_of_methodNamed B.named B.method).1⟩ hK (fun q h => Or.inr h) hP hD hl
section
variable {p : Program} {l : Launch} {e : Env} {R : Room} {s : State} {m : MethodId} {args : Array Value} {below : List Frame} {meth : Method} {c : Code} {H H0 : Heap} {locs : List Loc} {cells slots : Nat} {Q : State → Prop} {ls : Array Slot} {rest : List Value} {cc : ByteArray} {pc : Nat} {D : va_G} {Y : Nat → ClassId} {A : Nat → Prop}
/-! the ends -/
theorem eI {mc ms : Nat} {E v : Int32} {rt : FieldType} {w : va_W} (hx : p.tables.exec = Jvm.exec) (hb : c.code = cc) (hr : meth.sig.returnType = some rt) (hlk : meth.locks = false) (hP : va_P D vwCl w H) (hD : va_D A w) (hS : va_S A s.heap H locs) (hn : narrow rt (.int v) = .int v) (hE : v = E) (hc : cells ≤ mc) (hs : slots ≤ ms) (hdg : decode cc pc = .ok (.ireturn, 1)) :
    W p l e R s m args below meth c H locs cells slots (MQ below (va_Qi (fun (r : Int32) (_ : Unit) => r = E) (qW D A w) A) args s mc ms A) (F0 m pc ls [.int v]) :=
  W.widen hc hs (W.zret hx hb hr hn (fun t ht _ => ⟨⟨v, (), rfl, hE, by rw [ht]; exact hP, hD⟩, hS.F ht⟩) hS.2.2 hdg hlk)
theorem eL {mc ms : Nat} {E v : Int64} {w : va_W} (hx : p.tables.exec = Jvm.exec) (hb : c.code = cc) (hr : meth.sig.returnType = some .long) (hlk : meth.locks = false) (hP : va_P D vwCl w H) (hD : va_D A w) (hS : va_S A s.heap H locs) (hE : v = E) (hc : cells ≤ mc) (hs : slots ≤ ms) (hdg : decode cc pc = .ok (.lreturn, 1)) :
    W p l e R s m args below meth c H locs cells slots (MQ below (va_Ql (fun (r : Int64) (_ : Unit) => r = E) (qW D A w) A) args s mc ms A) (F0 m pc ls [.long v]) :=
  W.widen hc hs (W.lret hx hb hr (fun t ht _ => ⟨⟨v, (), rfl, hE, by rw [ht]; exact hP, hD⟩, hS.F ht⟩) hS.2.2 hdg hlk)
theorem eV {mc ms : Nat} {w : va_W} (hx : p.tables.exec = Jvm.exec) (hb : c.code = cc) (hr : meth.sig.returnType = none) (hlk : meth.locks = false) (hP : va_P D vwCl w H) (hD : va_D A w) (hS : va_S A s.heap H locs) (hc : cells ≤ mc) (hs : slots ≤ ms) (hdg : decode cc pc = .ok (.return_, 1)) :
    W p l e R s m args below meth c H locs cells slots (MQ below (va_Qv (fun (_ : Unit) => True) (qW D A w) A) args s mc ms A) (F0 m pc ls []) :=
  W.widen hc hs (W.vret hx hb hr (fun t ht _ => ⟨⟨(), rfl, trivial, by rw [ht]; exact hP, hD⟩, hS.F ht⟩) hS.2.2 hdg hlk)
/-! a value by another name -/
theorem lv_eqi {x y : Int32} (h : x = y) (k : W p l e R s m args below meth c H locs cells slots Q (F0 m pc ls (.int y :: rest))) : W p l e R s m args below meth c H locs cells slots Q (F0 m pc ls (.int x :: rest)) := h ▸ k
theorem lv_eql {x y : Int64} (h : x = y) (k : W p l e R s m args below meth c H locs cells slots Q (F0 m pc ls (.long y :: rest))) : W p l e R s m args below meth c H locs cells slots Q (F0 m pc ls (.long x :: rest)) := h ▸ k
/-! arrays of ints at a numbered place -/
theorem ia {tys : List (ClassId × FieldType)} {ws : va_W} {a : Nat} (hx : p.tables.exec = Jvm.exec) (hb : c.code = cc) (hK : va_K D vwCl tys s) (hP : va_P D vwCl ws H) (q0 t0 : Nat) {cA : ClassId} {n : Nat} {f : fN} (ha : ws[q0]? = some (a, .inl (cA, n, .inl f))) (ht : tys[t0]? = some (cA, .int)) (k : Nat) {i : Int32} (hi : i = nI k) (hk : k < n) (hn : n < 2 ^ 31) (hdg : decode cc pc = .ok (.iaload, 1))
    (kk : W p l e R s m args below meth c H locs cells slots Q (F0 m (pc + 1) ls (.int (f k) :: rest))) : W p l e R s m args below meth c H locs cells slots Q (F0 m pc ls (.int i :: .ref a :: rest)) := by
  subst hi
  have h2 : k < 2 ^ 31 := Nat.lt_trans hk hn
  refine va_iald hx hb hK hP q0 t0 ha ht (vp_in_nI hk hn) hdg ?_
  rw [nI_clamp h2]; exact kk
theorem za {tys : List (ClassId × FieldType)} {ws : va_W} {a : Nat} (hx : p.tables.exec = Jvm.exec) (hb : c.code = cc) (hK : va_K D vwCl tys s) (hP : va_P D vwCl ws H) (q0 t0 : Nat) {cA : ClassId} {n : Nat} {f : fN} (ha : ws[q0]? = some (a, .inl (cA, n, .inl f))) (ht : tys[t0]? = some (cA, .boolean)) (k : Nat) {i : Int32} (hi : i = nI k) (hk : k < n) (hn : n < 2 ^ 31) (hdg : decode cc pc = .ok (.baload, 1))
    (kk : W p l e R s m args below meth c H locs cells slots Q (F0 m (pc + 1) ls (.int (f k) :: rest))) : W p l e R s m args below meth c H locs cells slots Q (F0 m pc ls (.int i :: .ref a :: rest)) := by
  subst hi
  have h2 : k < 2 ^ 31 := Nat.lt_trans hk hn
  refine va_zald hx hb hK hP q0 t0 ha ht (vp_in_nI hk hn) hdg ?_
  rw [nI_clamp h2]; exact kk
theorem la {tys : List (ClassId × FieldType)} {ws : va_W} {a : Nat} (hx : p.tables.exec = Jvm.exec) (hb : c.code = cc) (hK : va_K D vwCl tys s) (hP : va_P D vwCl ws H) (q0 t0 : Nat) {cA : ClassId} {n : Nat} {f : Nat → Int64} (ha : ws[q0]? = some (a, .inl (cA, n, .inr (.inl f)))) (ht : tys[t0]? = some (cA, .long)) (k : Nat) {i : Int32} (hi : i = nI k) (hk : k < n) (hn : n < 2 ^ 31) (hdg : decode cc pc = .ok (.laload, 1))
    (kk : W p l e R s m args below meth c H locs cells slots Q (F0 m (pc + 1) ls (.long (f k) :: rest))) : W p l e R s m args below meth c H locs cells slots Q (F0 m pc ls (.int i :: .ref a :: rest)) := by
  subst hi
  have h2 : k < 2 ^ 31 := Nat.lt_trans hk hn
  refine va_lald hx hb hK hP q0 t0 ha ht (vp_in_nI hk hn) hdg ?_
  rw [nI_clamp h2]; exact kk
theorem is {tys : List (ClassId × FieldType)} {ws : va_W} {a : Nat} (hx : p.tables.exec = Jvm.exec) (hb : c.code = cc) (hK : va_K D vwCl tys s) (hP : va_P D vwCl ws H) (hD : va_D A ws) (hS : va_S A H0 H locs) (q0 t0 : Nat) {cA : ClassId} {n : Nat} {f : fN} (ha : ws[q0]? = some (a, .inl (cA, n, .inl f))) (ht : tys[t0]? = some (cA, .int)) (k : Nat) {i x : Int32} (hi : i = nI k) (hk : k < n) (hn : n < 2 ^ 31) (hdg : decode cc pc = .ok (.iastore, 1))
    (kk : ∀ (H1 : Heap) (locs1 : List Loc), va_P D vwCl (ws.set q0 (a, .inl (cA, n, .inl (upd f k x)))) H1 → va_D A (ws.set q0 (a, .inl (cA, n, .inl (upd f k x)))) → va_S A H0 H1 locs1 → W p l e R s m args below meth c H1 locs1 cells slots Q (F0 m (pc + 1) ls rest)) : W p l e R s m args below meth c H locs cells slots Q (F0 m pc ls (.int x :: .int i :: .ref a :: rest)) := by
  subst hi
  have h2 : k < 2 ^ 31 := Nat.lt_trans hk hn
  refine va_iast hx hb hK hP hD hS q0 t0 ha ht (vp_in_nI hk hn) hdg ?_
  rw [nI_clamp h2]; exact kk
theorem zs {tys : List (ClassId × FieldType)} {ws : va_W} {a : Nat} (hx : p.tables.exec = Jvm.exec) (hb : c.code = cc) (hK : va_K D vwCl tys s) (hP : va_P D vwCl ws H) (hD : va_D A ws) (hS : va_S A H0 H locs) (q0 t0 : Nat) {cA : ClassId} {n : Nat} {f : fN} (ha : ws[q0]? = some (a, .inl (cA, n, .inl f))) (ht : tys[t0]? = some (cA, .boolean)) (k : Nat) {i x : Int32} (hi : i = nI k) (hk : k < n) (hn : n < 2 ^ 31) (hv : vp_nar .boolean x = x) (hdg : decode cc pc = .ok (.bastore, 1))
    (kk : ∀ (H1 : Heap) (locs1 : List Loc), va_P D vwCl (ws.set q0 (a, .inl (cA, n, .inl (upd f k x)))) H1 → va_D A (ws.set q0 (a, .inl (cA, n, .inl (upd f k x)))) → va_S A H0 H1 locs1 → W p l e R s m args below meth c H1 locs1 cells slots Q (F0 m (pc + 1) ls rest)) : W p l e R s m args below meth c H locs cells slots Q (F0 m pc ls (.int x :: .int i :: .ref a :: rest)) := by
  subst hi
  have h2 : k < 2 ^ 31 := Nat.lt_trans hk hn
  refine va_zast hx hb hK hP hD hS q0 t0 ha ht (vp_in_nI hk hn) hdg ?_
  rw [nI_clamp h2, hv]; exact kk
theorem lst {tys : List (ClassId × FieldType)} {ws : va_W} {a : Nat} (hx : p.tables.exec = Jvm.exec) (hb : c.code = cc) (hK : va_K D vwCl tys s) (hP : va_P D vwCl ws H) (hD : va_D A ws) (hS : va_S A H0 H locs) (q0 t0 : Nat) {cA : ClassId} {n : Nat} {f : Nat → Int64} (ha : ws[q0]? = some (a, .inl (cA, n, .inr (.inl f)))) (ht : tys[t0]? = some (cA, .long)) (k : Nat) {i : Int32} {x : Int64} (hi : i = nI k) (hk : k < n) (hn : n < 2 ^ 31) (hdg : decode cc pc = .ok (.lastore, 1))
    (kk : ∀ (H1 : Heap) (locs1 : List Loc), va_P D vwCl (ws.set q0 (a, .inl (cA, n, .inr (.inl (vp_updL f k x))))) H1 → va_D A (ws.set q0 (a, .inl (cA, n, .inr (.inl (vp_updL f k x))))) → va_S A H0 H1 locs1 → W p l e R s m args below meth c H1 locs1 cells slots Q (F0 m (pc + 1) ls rest)) : W p l e R s m args below meth c H locs cells slots Q (F0 m pc ls (.long x :: .int i :: .ref a :: rest)) := by
  subst hi
  have h2 : k < 2 ^ 31 := Nat.lt_trans hk hn
  refine va_last hx hb hK hP hD hS q0 t0 ha ht (vp_in_nI hk hn) hdg ?_
  rw [nI_clamp h2]; exact kk
/-! calls: the callee's cells by their places isC, the others isR, the world behind it in the order pm of (the others, the callee's) -/
theorem jn {ws wc w1 ws' : va_W} {H1 : Heap} (hP : va_P D vwCl ws H) (hD : va_D A ws) (isC isR pm : List Nat) (hC : isC.map (fun i => ws[i]?) = wc.map some) (hn : (va_nd isR && isR.all (fun i => decide (i < ws.length) && decide (i ∉ isC)) && va_nd pm) = true) (hp : pm.map (fun i => (isR.filterMap (fun i => ws[i]?) ++ w1)[i]?) = ws'.map some)
    (hk : ∀ q : Nat, q < H.size → ¬ va_A wc H.size q → H1[q]? = H[q]?) (hF : ∀ q, va_A wc H.size q → A q) (hP1 : va_P D vwCl w1 H1) (hD1 : va_D (va_A wc H.size) w1) : va_P D vwCl ws' H1 ∧ va_D A ws' := by
  simp only [Bool.and_eq_true, List.all_eq_true, decide_eq_true_eq] at hn
  obtain ⟨⟨h1, h2⟩, h3⟩ := hn
  have hR : isR.map (fun i => ws[i]?) = (isR.filterMap (fun i => ws[i]?)).map some := by
    clear hp h1
    induction isR with
    | nil => rfl
    | cons i t ih =>
      have hi : i < ws.length := (h2 i List.mem_cons_self).1
      rw [List.map_cons, List.filterMap_cons, List.getElem?_eq_getElem hi]
      exact congrArg _ (ih fun j hj => h2 j (List.mem_cons_of_mem _ hj))
  obtain ⟨hP2, hD2⟩ := va_join hP hD isC isR hC hR h1 (fun i hi => (h2 i hi).2) hk hF hP1 hD1
  refine ⟨fun k q hq => ?_, hD2.sub pm h3 hp⟩
  have h4 : (pm.map (fun i => (isR.filterMap (fun i => ws[i]?) ++ w1)[i]?))[k]? = some (some q) := by rw [hp, List.getElem?_map, hq]; rfl
  rw [List.getElem?_map] at h4
  cases hi : pm[k]? with
  | none => rw [hi] at h4; cases h4
  | some i => rw [hi] at h4; exact hP2 i q (Option.some.inj h4)
variable {y : MethodName} {bytes : ByteArray} {maxL nL mc ms n index : Nat} {ret : Option FieldType} {rm : Room} {Ts wsY : List Cond} {own C host : String} {b : Nat} {As : List Value} {wc w1 ws ws' : va_W} {st : List Value}
theorem pS (hKN : KN D Y s) (hP : va_P D vwCl ws H) (hD : va_D A ws) (isC : List Nat) (hC : isC.map (fun i => ws[i]?) = wc.map some) (hnC : va_nd isC = true) : PreS s H (pcW D Y As H.size wc) As := by
  refine ⟨pcW_blind, fun U hU hW => ⟨rfl, by rw [hU], ?_, hKN.warm hW, (hD.sub isC hnC hC).weaken (fun _ _ _ _ => trivial)⟩⟩
  rw [hU]
  intro k q hq
  have h4 : (isC.map (fun i => ws[i]?))[k]? = some (some q) := by rw [hC, List.getElem?_map, hq]; rfl
  rw [List.getElem?_map] at h4
  cases hi : isC[k]? with
  | none => rw [hi] at h4; cases h4
  | some i => rw [hi] at h4; exact hP i q (Option.some.inj h4)
theorem pV (hKN : KN D Y s) (hP : va_P D vwCl ws H) (hD : va_D A ws) (isC : List Nat) (hC : isC.map (fun i => ws[i]?) = wc.map some) (hnC : va_nd isC = true) (q0 ci : Nat) {fs : List Value} {T : u_T} {N : Nat} (hq : ws[q0]? = some (b, .inr (ci, fs))) (hc : vwCl[ci]? = some (C, T, N)) : PreV s H C b (pcW D Y (.ref b :: As) H.size wc) As :=
  ⟨(pS (Y := Y) (As := .ref b :: As) hKN hP hD isC hC hnC).1, va_recv hKN.1 hP hc hq, (pS (Y := Y) (As := .ref b :: As) hKN hP hD isC hC hnC).2⟩
theorem cVi {E : Int32} (S : CallFix p m c cc nL s args Ts own) (hM : MI l y wsY rm D Y (.ref b :: As) H.size wc E w1 mc ms) (cw : CallW R s args own C index y bytes maxL ret wsY rm mc ms n) (hKN : KN D Y s) (hP : va_P D vwCl ws H) (hD : va_D A ws) (hS : va_S A H0 H locs) (hA : ∀ q, H0.size ≤ q → A q) (isC isR pm : List Nat) (hC : isC.map (fun i => ws[i]?) = wc.map some) (hnC : va_nd isC = true) (hn : (va_nd isR && isR.all (fun i => decide (i < ws.length) && decide (i ∉ isC)) && va_nd pm) = true) (hp : pm.map (fun i => (isR.filterMap (fun i => ws[i]?) ++ w1)[i]?) = ws'.map some)
    (q0 ci : Nat) {fs : List Value} {T : u_T} {N : Nat} (hq : ws[q0]? = some (b, .inr (ci, fs))) (hc : vwCl[ci]? = some (C, T, N))
    (hst : st = As.reverse ++ .ref b :: rest) (hln : As.length = n) (hsz : ls.size = nL) (hW : (rest.map fun v => v.category).sum ≤ 8) (hdg : decode cc pc = .ok (.invokevirtual index, 3)) (hf : cells + mc ≤ R.cells ∧ slots + ms ≤ R.slots)
    (kk : ∀ (H1 : Heap) (locs1 : List Loc), va_P D vwCl ws' H1 → va_D A ws' → va_S A H0 H1 locs1 → W p l e R s m args below meth c H1 locs1 (cells + mc) (slots + ms) Q (F0 m (pc + 3) ls (.int E :: rest))) : W p l e R s m args below meth c H locs cells slots Q (F0 m pc ls st) := by
  subst hst
  have hFc := va_free hD hS hA isC hC
  refine va_calli (va_runV (As := As) (rest := rest) S hM cw (pV hKN hP hD isC hC hnC q0 ci hq hc) rfl hln hsz rfl (lv_room hW) hdg hf) hS (fun q _ h => hFc q h) hFc (fun r u t H1 locs ht hvm hw hB hz1 hk1 hS => ?_)
  obtain ⟨hP1, hD1⟩ := hB
  rw [ht] at hP1
  subst hw
  obtain ⟨hP2, hD2⟩ := jn hP hD isC isR pm hC hn hp hk1 hFc hP1 hD1
  exact kk H1 locs hP2 hD2 hS
theorem cVl {E : Int64} (S : CallFix p m c cc nL s args Ts own) (hM : ML l y wsY rm D Y (.ref b :: As) H.size wc E w1 mc ms) (cw : CallW R s args own C index y bytes maxL ret wsY rm mc ms n) (hKN : KN D Y s) (hP : va_P D vwCl ws H) (hD : va_D A ws) (hS : va_S A H0 H locs) (hA : ∀ q, H0.size ≤ q → A q) (isC isR pm : List Nat) (hC : isC.map (fun i => ws[i]?) = wc.map some) (hnC : va_nd isC = true) (hn : (va_nd isR && isR.all (fun i => decide (i < ws.length) && decide (i ∉ isC)) && va_nd pm) = true) (hp : pm.map (fun i => (isR.filterMap (fun i => ws[i]?) ++ w1)[i]?) = ws'.map some)
    (q0 ci : Nat) {fs : List Value} {T : u_T} {N : Nat} (hq : ws[q0]? = some (b, .inr (ci, fs))) (hc : vwCl[ci]? = some (C, T, N))
    (hst : st = As.reverse ++ .ref b :: rest) (hln : As.length = n) (hsz : ls.size = nL) (hW : (rest.map fun v => v.category).sum ≤ 8) (hdg : decode cc pc = .ok (.invokevirtual index, 3)) (hf : cells + mc ≤ R.cells ∧ slots + ms ≤ R.slots)
    (kk : ∀ (H1 : Heap) (locs1 : List Loc), va_P D vwCl ws' H1 → va_D A ws' → va_S A H0 H1 locs1 → W p l e R s m args below meth c H1 locs1 (cells + mc) (slots + ms) Q (F0 m (pc + 3) ls (.long E :: rest))) : W p l e R s m args below meth c H locs cells slots Q (F0 m pc ls st) := by
  subst hst
  have hFc := va_free hD hS hA isC hC
  refine va_calll (va_runV (As := As) (rest := rest) S hM cw (pV hKN hP hD isC hC hnC q0 ci hq hc) rfl hln hsz rfl (lv_room hW) hdg hf) hS (fun q _ h => hFc q h) hFc (fun r u t H1 locs ht hvm hw hB hz1 hk1 hS => ?_)
  obtain ⟨hP1, hD1⟩ := hB
  rw [ht] at hP1
  subst hw
  obtain ⟨hP2, hD2⟩ := jn hP hD isC isR pm hC hn hp hk1 hFc hP1 hD1
  exact kk H1 locs hP2 hD2 hS
theorem cVv (S : CallFix p m c cc nL s args Ts own) (hM : MV l y wsY rm D Y (.ref b :: As) H.size wc w1 mc ms) (cw : CallW R s args own C index y bytes maxL ret wsY rm mc ms n) (hKN : KN D Y s) (hP : va_P D vwCl ws H) (hD : va_D A ws) (hS : va_S A H0 H locs) (hA : ∀ q, H0.size ≤ q → A q) (isC isR pm : List Nat) (hC : isC.map (fun i => ws[i]?) = wc.map some) (hnC : va_nd isC = true) (hn : (va_nd isR && isR.all (fun i => decide (i < ws.length) && decide (i ∉ isC)) && va_nd pm) = true) (hp : pm.map (fun i => (isR.filterMap (fun i => ws[i]?) ++ w1)[i]?) = ws'.map some)
    (q0 ci : Nat) {fs : List Value} {T : u_T} {N : Nat} (hq : ws[q0]? = some (b, .inr (ci, fs))) (hc : vwCl[ci]? = some (C, T, N))
    (hst : st = As.reverse ++ .ref b :: rest) (hln : As.length = n) (hsz : ls.size = nL) (hW : (rest.map fun v => v.category).sum ≤ 8) (hdg : decode cc pc = .ok (.invokevirtual index, 3)) (hf : cells + mc ≤ R.cells ∧ slots + ms ≤ R.slots)
    (kk : ∀ (H1 : Heap) (locs1 : List Loc), va_P D vwCl ws' H1 → va_D A ws' → va_S A H0 H1 locs1 → W p l e R s m args below meth c H1 locs1 (cells + mc) (slots + ms) Q (F0 m (pc + 3) ls (rest))) : W p l e R s m args below meth c H locs cells slots Q (F0 m pc ls st) := by
  subst hst
  have hFc := va_free hD hS hA isC hC
  refine va_callv (va_runV (As := As) (rest := rest) S hM cw (pV hKN hP hD isC hC hnC q0 ci hq hc) rfl hln hsz rfl (lv_room hW) hdg hf) hS (fun q _ h => hFc q h) hFc (fun u t H1 locs ht hvm hw hB hz1 hk1 hS => ?_)
  obtain ⟨hP1, hD1⟩ := hB
  rw [ht] at hP1
  obtain ⟨hP2, hD2⟩ := jn hP hD isC isR pm hC hn hp hk1 hFc hP1 hD1
  exact kk H1 locs hP2 hD2 hS
theorem cSi {E : Int32} (S : CallFix p m c cc nL s args Ts own) (hM : MI l y wsY rm D Y (As) H.size wc E w1 mc ms) (cw : CallB R s args own index y bytes maxL ret wsY rm mc ms n ∧ (Cond.static y).before args s = true) (hKN : KN D Y s) (hP : va_P D vwCl ws H) (hD : va_D A ws) (hS : va_S A H0 H locs) (hA : ∀ q, H0.size ≤ q → A q) (isC isR pm : List Nat) (hC : isC.map (fun i => ws[i]?) = wc.map some) (hnC : va_nd isC = true) (hn : (va_nd isR && isR.all (fun i => decide (i < ws.length) && decide (i ∉ isC)) && va_nd pm) = true) (hp : pm.map (fun i => (isR.filterMap (fun i => ws[i]?) ++ w1)[i]?) = ws'.map some)
    (hst : st = As.reverse ++ rest) (hln : As.length = n) (hsz : ls.size = nL) (hW : (rest.map fun v => v.category).sum ≤ 8) (hdg : decode cc pc = .ok (.invokestatic index, 3)) (hf : cells + mc ≤ R.cells ∧ slots + ms ≤ R.slots)
    (kk : ∀ (H1 : Heap) (locs1 : List Loc), va_P D vwCl ws' H1 → va_D A ws' → va_S A H0 H1 locs1 → W p l e R s m args below meth c H1 locs1 (cells + mc) (slots + ms) Q (F0 m (pc + 3) ls (.int E :: rest))) : W p l e R s m args below meth c H locs cells slots Q (F0 m pc ls st) := by
  subst hst
  have hFc := va_free hD hS hA isC hC
  refine va_calli (va_runS (As := As) (rest := rest) S hM cw (pS hKN hP hD isC hC hnC) rfl hln hsz rfl (lv_room hW) hdg hf) hS (fun q _ h => hFc q h) hFc (fun r u t H1 locs ht hvm hw hB hz1 hk1 hS => ?_)
  obtain ⟨hP1, hD1⟩ := hB
  rw [ht] at hP1
  subst hw
  obtain ⟨hP2, hD2⟩ := jn hP hD isC isR pm hC hn hp hk1 hFc hP1 hD1
  exact kk H1 locs hP2 hD2 hS
theorem cSNi {E : Int32} (S : CallFix p m c cc nL s args Ts own) (hM : MI l y wsY rm D Y (As) H.size wc E w1 mc ms) (cw : va_CN R s args own index y host bytes maxL ret wsY rm mc ms n ∧ (Cond.static y).before args s = true ∧ True) (hKN : KN D Y s) (hP : va_P D vwCl ws H) (hD : va_D A ws) (hS : va_S A H0 H locs) (hA : ∀ q, H0.size ≤ q → A q) (isC isR pm : List Nat) (hC : isC.map (fun i => ws[i]?) = wc.map some) (hnC : va_nd isC = true) (hn : (va_nd isR && isR.all (fun i => decide (i < ws.length) && decide (i ∉ isC)) && va_nd pm) = true) (hp : pm.map (fun i => (isR.filterMap (fun i => ws[i]?) ++ w1)[i]?) = ws'.map some)
    (hst : st = As.reverse ++ rest) (hln : As.length = n) (hsz : ls.size = nL) (hW : (rest.map fun v => v.category).sum ≤ 8) (hdg : decode cc pc = .ok (.invokestatic index, 3)) (hf : cells + mc ≤ R.cells ∧ slots + ms ≤ R.slots)
    (kk : ∀ (H1 : Heap) (locs1 : List Loc), va_P D vwCl ws' H1 → va_D A ws' → va_S A H0 H1 locs1 → W p l e R s m args below meth c H1 locs1 (cells + mc) (slots + ms) Q (F0 m (pc + 3) ls (.int E :: rest))) : W p l e R s m args below meth c H locs cells slots Q (F0 m pc ls st) := by
  subst hst
  have hFc := va_free hD hS hA isC hC
  refine va_calli (va_runSN (As := As) (rest := rest) S hM cw (pS hKN hP hD isC hC hnC) rfl hln hsz rfl (lv_room hW) hdg hf) hS (fun q _ h => hFc q h) hFc (fun r u t H1 locs ht hvm hw hB hz1 hk1 hS => ?_)
  obtain ⟨hP1, hD1⟩ := hB
  rw [ht] at hP1
  subst hw
  obtain ⟨hP2, hD2⟩ := jn hP hD isC isR pm hC hn hp hk1 hFc hP1 hD1
  exact kk H1 locs hP2 hD2 hS
end
end
