section
-- ===== PART A: goes FIRST, ahead of the names: the tables' words, and 'selects' of the private methods out of them =====
/-- a private method of a class that the tables say can be made, by its rows of tables_1 -/
def lw_okq (q : MethodName × Nat) : Prop := (q.1.cls ≠ "java/lang/invoke/MethodHandle" ∧ q.1.cls ≠ "java/lang/invoke/VarHandle") ∧ Cond.instantiable q.1.cls q.2 ∈ tables_1 ∧ Cond.privateMethod q.1 ∈ tables_1 ∧ Cond.instanceMethod q.1 ∈ tables_1
theorem lw_p0 : lw_okq (⟨"RightsSteps", "madeLevel", "(I)LRightsSteps$Level;"⟩, 8) := ⟨⟨by decide +kernel, by decide +kernel⟩, List.mem_of_getElem? (i := 16) (by decide +kernel), List.mem_of_getElem? (i := 191) (by decide +kernel), List.mem_of_getElem? (i := 192) (by decide +kernel)⟩
theorem lw_p1 : lw_okq (⟨"RightsSteps", "askForSeed", "(LRightsSteps$Level;)I"⟩, 8) := ⟨⟨by decide +kernel, by decide +kernel⟩, List.mem_of_getElem? (i := 16) (by decide +kernel), List.mem_of_getElem? (i := 196) (by decide +kernel), List.mem_of_getElem? (i := 197) (by decide +kernel)⟩
theorem lw_p2 : lw_okq (⟨"RightsSteps$Tape", "takeFirst", "()I"⟩, 3) := ⟨⟨by decide +kernel, by decide +kernel⟩, List.mem_of_getElem? (i := 26) (by decide +kernel), List.mem_of_getElem? (i := 216) (by decide +kernel), List.mem_of_getElem? (i := 217) (by decide +kernel)⟩
theorem lw_p3 : lw_okq (⟨"RightsSteps", "tryKey", "(LRightsSteps$Level;I)I"⟩, 8) := ⟨⟨by decide +kernel, by decide +kernel⟩, List.mem_of_getElem? (i := 16) (by decide +kernel), List.mem_of_getElem? (i := 252) (by decide +kernel), List.mem_of_getElem? (i := 253) (by decide +kernel)⟩
theorem lw_p4 : lw_okq (⟨"RightsSteps$Level", "shiftedKeyTo", "(I)I"⟩, 4) := ⟨⟨by decide +kernel, by decide +kernel⟩, List.mem_of_getElem? (i := 157) (by decide +kernel), List.mem_of_getElem? (i := 262) (by decide +kernel), List.mem_of_getElem? (i := 263) (by decide +kernel)⟩
theorem lw_p5 : lw_okq (⟨"java/lang/Throwable", "fillInStackTrace", "(I)Ljava/lang/Throwable;"⟩, 6) := ⟨⟨by decide +kernel, by decide +kernel⟩, List.mem_of_getElem? (i := 357) (by decide +kernel), List.mem_of_getElem? (i := 355) (by decide +kernel), List.mem_of_getElem? (i := 356) (by decide +kernel)⟩
theorem lw_p6 : lw_okq (⟨"RightsStepsModel", "isMade", "(I)Z"⟩, 27) := ⟨⟨by decide +kernel, by decide +kernel⟩, List.mem_of_getElem? (i := 433) (by decide +kernel), List.mem_of_getElem? (i := 532) (by decide +kernel), List.mem_of_getElem? (i := 533) (by decide +kernel)⟩
theorem lw_p7 : lw_okq (⟨"RightsStepsModel", "asked", "(I)I"⟩, 27) := ⟨⟨by decide +kernel, by decide +kernel⟩, List.mem_of_getElem? (i := 433) (by decide +kernel), List.mem_of_getElem? (i := 545) (by decide +kernel), List.mem_of_getElem? (i := 546) (by decide +kernel)⟩
theorem lw_p8 : lw_okq (⟨"RightsStepsModel", "wasGiven", "(I)Z"⟩, 27) := ⟨⟨by decide +kernel, by decide +kernel⟩, List.mem_of_getElem? (i := 433) (by decide +kernel), List.mem_of_getElem? (i := 552) (by decide +kernel), List.mem_of_getElem? (i := 553) (by decide +kernel)⟩
theorem lw_p9 : lw_okq (⟨"RightsStepsModel", "note", "(II)I"⟩, 27) := ⟨⟨by decide +kernel, by decide +kernel⟩, List.mem_of_getElem? (i := 433) (by decide +kernel), List.mem_of_getElem? (i := 556) (by decide +kernel), List.mem_of_getElem? (i := 557) (by decide +kernel)⟩
theorem lw_p10 : lw_okq (⟨"RightsStepsModel", "came", "(III)I"⟩, 27) := ⟨⟨by decide +kernel, by decide +kernel⟩, List.mem_of_getElem? (i := 433) (by decide +kernel), List.mem_of_getElem? (i := 564) (by decide +kernel), List.mem_of_getElem? (i := 565) (by decide +kernel)⟩
theorem lw_p11 : lw_okq (⟨"RightsStepsModel", "keyTo", "(II)I"⟩, 27) := ⟨⟨by decide +kernel, by decide +kernel⟩, List.mem_of_getElem? (i := 433) (by decide +kernel), List.mem_of_getElem? (i := 568) (by decide +kernel), List.mem_of_getElem? (i := 569) (by decide +kernel)⟩
theorem lw_p12 : lw_okq (⟨"RightsStepsModel", "begin", "(II)V"⟩, 27) := ⟨⟨by decide +kernel, by decide +kernel⟩, List.mem_of_getElem? (i := 433) (by decide +kernel), List.mem_of_getElem? (i := 587) (by decide +kernel), List.mem_of_getElem? (i := 588) (by decide +kernel)⟩
def lw_privs_1 : List (MethodName × Nat) := [(⟨"RightsSteps", "madeLevel", "(I)LRightsSteps$Level;"⟩, 8), (⟨"RightsSteps", "askForSeed", "(LRightsSteps$Level;)I"⟩, 8), (⟨"RightsSteps$Tape", "takeFirst", "()I"⟩, 3), (⟨"RightsSteps", "tryKey", "(LRightsSteps$Level;I)I"⟩, 8), (⟨"RightsSteps$Level", "shiftedKeyTo", "(I)I"⟩, 4), (⟨"java/lang/Throwable", "fillInStackTrace", "(I)Ljava/lang/Throwable;"⟩, 6), (⟨"RightsStepsModel", "isMade", "(I)Z"⟩, 27), (⟨"RightsStepsModel", "asked", "(I)I"⟩, 27), (⟨"RightsStepsModel", "wasGiven", "(I)Z"⟩, 27), (⟨"RightsStepsModel", "note", "(II)I"⟩, 27), (⟨"RightsStepsModel", "came", "(III)I"⟩, 27), (⟨"RightsStepsModel", "keyTo", "(II)I"⟩, 27), (⟨"RightsStepsModel", "begin", "(II)V"⟩, 27)]
theorem lw_r1 : ∀ q ∈ lw_privs_1, lw_okq q := List.forall_mem_cons.mpr ⟨lw_p0, List.forall_mem_cons.mpr ⟨lw_p1, List.forall_mem_cons.mpr ⟨lw_p2, List.forall_mem_cons.mpr ⟨lw_p3, List.forall_mem_cons.mpr ⟨lw_p4, List.forall_mem_cons.mpr ⟨lw_p5, List.forall_mem_cons.mpr ⟨lw_p6, List.forall_mem_cons.mpr ⟨lw_p7, List.forall_mem_cons.mpr ⟨lw_p8, List.forall_mem_cons.mpr ⟨lw_p9, List.forall_mem_cons.mpr ⟨lw_p10, List.forall_mem_cons.mpr ⟨lw_p11, List.forall_mem_cons.mpr ⟨lw_p12, fun _ h => absurd h List.not_mem_nil⟩⟩⟩⟩⟩⟩⟩⟩⟩⟩⟩⟩⟩
def lw_privs : List (MethodName × Nat) := lw_privs_1
def lw_tbl : List Cond := k2_sels lw_privs ++ tables_1
theorem lw_privs_ok : ∀ q ∈ lw_privs, lw_okq q := lw_r1
/-! ===== BEGIN words of one list among another's, by their places ===== -/
theorem goodIn_r {big : List Cond} (ws : List Cond) (ps : List Nat) (hp : ws = ps.filterMap (fun i => big[i]?)) (h : ws.all goodWord = true) : GoodIn big ws := by
  intro w hw
  have h1 := List.all_eq_true.mp h w hw
  rw [hp] at hw
  obtain ⟨i, -, hi⟩ := List.mem_filterMap.mp hw
  have hm : w ∈ big := by first | exact List.mem_of_getElem? hi | exact List.getElem?_mem hi
  exact ⟨hm, good_of_word h1⟩
theorem goodIn_app {big a b : List Cond} (ha : GoodIn big a) (hb : GoodIn big b) : GoodIn big (a ++ b) := fun w h => (List.mem_append.mp h).elim (ha w) (hb w)
theorem goodIn_ca {big a b : List Cond} {c : Cond} (ha : GoodIn big (c :: a)) (hb : GoodIn big b) : GoodIn big (c :: (a ++ b)) := fun w h => (List.mem_cons.mp h).elim (fun e => ha w (List.mem_cons.mpr (Or.inl e))) (fun h => (List.mem_append.mp h).elim (fun h => ha w (List.mem_cons.mpr (Or.inr h))) (hb w))
theorem goodIn_sub {big ws : List Cond} (hm : ∀ w ∈ ws, w ∈ big) (h : ws.all goodWord = true) : GoodIn big ws := fun w hw => ⟨hm w hw, good_of_word (List.all_eq_true.mp h w hw)⟩
/-! ===== END ===== -/

/-! ===== BEGIN exceptions that leave a method, and their catching by the caller (launches without stack traces) ===== -/
section VXA
/-! The laws vx_back, vx_callV, vx_callS, vx_callSW, vx_throw0, vx_throwS follow proofs of the library, with one case more: JvmDerived/Free/Laws.lean (Back.of_free), Shelf42/LK1.lean (callV, callS), Shelf/KitTraced.lean (throwNew0V, throwNewS). -/
/-- where a method has thrown q: the class by its name, the cell, what was written, the world -/
def vx_T (XC : String → State → State → Prop) (st : State) (q : Addr) (t : State) (mc ms : Nat) (free : Addr → Prop) : Prop :=
  ∃ (E : String) (ce : Cell) (L : List Loc), XC E st t ∧ t.heap[q]? = some ce ∧ ce.vm = .none ∧ st.vm.findClass E = some ce.cls ∧ st.WarmedH t.vm ∧ st.sameButNew ({ t with vm := st.vm } : State) L mc ms ∧ ∀ z ∈ L, free z.base
def vx_Q (Qc : Array Value → State → Outcome → State → Prop) (XC : String → State → State → Prop) (mc ms : Nat) (free : Addr → Prop) : Array Value → State → Outcome → State → Prop := fun a st o t =>
  (Qc a st o t ∧ ∃ L, FrameEnd st o t L mc ms ∧ ∀ q ∈ L, free q.base) ∨ ∃ q, o = .threw q ∧ vx_T XC st q t mc ms free
/-- a callee that returns or throws -/
def vx_Met (l : Launch) (y : MethodName) (ws : List Cond) (rm : Room) (Pc : Array Value → State → Prop) (Qc : Array Value → State → Outcome → State → Prop) (XC : String → State → State → Prop) (mc ms : Nat) (free : Addr → Prop) : Prop :=
  MetFree l y (headSpec ws rm) Pc (fun _ _ _ _ _ => True) (vx_Q Qc XC mc ms free)
def vx_Post (XC : String → State → State → Prop) (mc ms : Nat) (free : Addr → Prop) : Pt → Array Value → Addr → Pt → Prop := fun A a q B =>
  ∃ (g : JFrame) (mk : MethodId) (t : State) (L : List Loc) (E : String) (ce : Cell), B.U.heap = t.heap ∧ B.U.vm = t.vm ∧ XC E (A.U.calling g mk a) t ∧ t.heap[q]? = some ce ∧ ce.vm = .none ∧ A.U.vm.findClass E = some ce.cls ∧ B.locs = A.locs ++ L ∧ (∀ z ∈ L, free z.base) ∧ B.cells = A.cells + mc ∧ B.slots = A.slots + ms
def vx_Back (l : Launch) (R : Room) (p : Program) (e : Env) (below : List Frame) (s : State) (sargs : Array Value) (y : MethodName) (len W9 : Nat)
    (Pre : Pt → Array Value → Prop) (Post : Pt → Array Value → Option Value → Pt → Prop) (PostX : Pt → Array Value → Addr → Pt → Prop) : Prop :=
  ∀ (m : MethodId) (meth : Method) (c : Code) (A : Pt) (g : JFrame) (ig : Instr) (mk : MethodId) (a : Array Value),
    Stand p l e R s m sargs below meth c A.U A.locs A.cells A.slots → g.method = m → g.locals.size = c.maxLocals → decode c.code g.pc = .ok (ig, len) →
    2 * g.monitorRoom + (g.stack.map fun v => v.category).sum ≤ W9 → A.U.methodNamed? y = some mk → Pre A a →
    (∃ (v : Option Value) (B : Pt), Stand p l e R s m sargs below meth c B.U B.locs B.cells B.slots ∧ Post A a v B ∧
      Steps p.tables e below (doInvoke e (A.U.setTop g) [] mk a).1 (B.U.setTop { g with pc := g.pc + len, stack := v.toList ++ g.stack })) ∨
    (∃ (q : Addr) (B : Pt), Stand p l e R s m sargs below meth c B.U B.locs B.cells B.slots ∧ PostX A a q B ∧
      Steps p.tables e below (doInvoke e (A.U.setTop g) [] mk a).1 ((B.U.setTop g).pushFrame (.throwing q)))
section Payer
variable {l : Launch} {R : Room} {p : Program} {e : Env} {below : List Frame} {s : State} {sargs : Array Value} {y : MethodName} {len W9 : Nat}
theorem vx_back {ws : List Cond} {rm : Room} {Pc : Array Value → State → Prop} {Qc : Array Value → State → Outcome → State → Prop} {XC : String → State → State → Prop} {mc ms : Nat} {free : Addr → Prop} {bytes : ByteArray} {maxL : Nat} {ret : Option FieldType}
    (hM : vx_Met l y ws rm Pc Qc XC mc ms free) (hblind : FrameBlind Pc) (hrc : rm.cells = mc) (hrs : rm.slots = ms)
    (hframes : rm.frames + 1 ≤ R.frames) (hlocals : W9 + (maxL + 11) + rm.locals ≤ R.locals)
    (hws : ∀ w ∈ ws, ∀ a' U, s.WarmedH U.vm → w.before a' U = true) (hcode : Cond.code y bytes maxL ret ∈ ws) (hinit : ∀ a' U, s.WarmedH U.vm → (Cond.initialized y.cls).before a' U = true) :
    vx_Back l R p e below s sargs y len W9 (PreOf R mc ms Pc) (PostOf Qc mc ms free) (vx_Post XC mc ms free) := by
  intro m meth c A g ig mk a X hg hsize hdg hW hn hp
  have h1 : (headSpec ws rm).pre.before a A.U = true := atoms_intro fun w hw => hws w hw _ _ X.warmed
  have h2 : (Cond.code y bytes maxL ret).before a A.U = true := hws _ hcode _ _ X.warmed
  have h3 : (Cond.initialized y.cls).before a A.U = true := hinit _ _ X.warmed
  have h4 : A.cells + (headSpec ws rm).room.cells ≤ R.cells := by rw [show (headSpec ws rm).room.cells = mc from hrc]; exact hp.1
  have h5 : A.slots + (headSpec ws rm).room.slots ≤ R.slots := by rw [show (headSpec ws rm).room.slots = ms from hrs]; exact hp.2.1
  have hPc : Pc a (A.U.calling g mk a) := hblind _ _ _ _ hp.2.2
  obtain ⟨U, Ls, c0, s0⟩ := A
  dsimp only [Pt.U, Pt.locs, Pt.cells, Pt.slots] at h1 h2 h3 h4 h5 X hn hPc ⊢
  obtain ⟨methY, cY, hmY, hcY, -, hlY, -, -, -, -⟩ := Cond.code_spec hn h2
  obtain ⟨kY, hkY, -⟩ := className_of_methodNamed hn
  have hinitY : kY.init = .initialized := Cond.initialized_spec (findClass_of_methodNamed hn) hkY h3
  have h : At U g.method c below := by rw [hg]; exact X.here
  have hlocals9 : W9 + (maxL + 11) + (headSpec ws rm).room.locals ≤ R.locals := hlocals
  have happ : (headSpec ws rm).appliesLoose y e.platform (U.calling g mk a) = true :=
    Spec.appliesLoose_calling (g := g) h hdg hn hkY hinitY
      (X.room_calling (g := g) (R' := (headSpec ws rm).room) hsize hmY hcY hframes (by rw [hlY]; omega) h4 h5) h1
  obtain ⟨mid, hmid⟩ := h.above
  have hfr : (U.setTop g).frames = (.java g :: mid) ++ below := by rw [State.frames_setTop' g h.top, hmid]; rfl
  obtain ⟨o, s₂, hsteps, -, hend, hq⟩ := Steps.callFree hM p X.admits X.cas X.clock (acts := []) hfr happ hPc trivial
  have hq' : vx_Q Qc XC mc ms free a (U.calling g mk a) o s₂ := hq
  rw [State.frames_setTop' g h.top] at hend
  obtain ⟨g₀, hg0⟩ := Option.isSome_iff_exists.mp h.top
  obtain ⟨r, hr⟩ := State.topJava?_eq_some.mp hg0
  have hr' : (({ U with heap := s₂.heap, slotsUsed := s₂.slotsUsed } : State).setVm s₂.vm).frames = .java g₀ :: r := hr
  rcases hq' with ⟨hqc, L, hfe, hL⟩ | ⟨q, rfl, E, ce, L, hx, hce, hcv, hcl, hW₂, hsm, hL⟩
  · obtain ⟨⟨v, rfl⟩, hW₂, e2, q2, q3, q4, q5, q6⟩ := id hfe
    have e3 : s₂ = ({ (U.calling g mk a).setFrames s₂.frames with heap := s₂.heap, slotsUsed := s₂.slotsUsed } : State).setVm s₂.vm := by
      have : s₂ = ({ s₂ with vm := (U.calling g mk a).vm } : State).setVm s₂.vm := rfl
      rw [e2] at this
      exact this
    obtain ⟨c₂, i₂, len₂, hc₂, hd₂, hf₂⟩ := hend
    have hW' : U.WarmedH s₂.vm := hW₂
    have hcc : c₂ = c := by
      have h1 : s₂.code? g.method = U.code? g.method := by
        rw [State.code?_eq, State.code?_eq, hW'.alike.method?]
      exact Option.some.inj (hc₂.symm.trans (h1.trans h.code))
    subst hcc
    have hlen : len₂ = len := by rw [hdg] at hd₂; cases hd₂; rfl
    subst hlen
    have hs₂ : s₂ = (({ U with heap := s₂.heap, slotsUsed := s₂.slotsUsed } : State).setVm s₂.vm).setTop { g with pc := g.pc + len₂, stack := v.toList ++ g.stack } := by
      refine e3.trans ?_
      rw [hf₂, State.calling_eq h.top, State.setFrames_setFrames, State.setTop_of_frames _ hr', hr]
      rfl
    have hsame : U.sameButNew ({ U with heap := s₂.heap, slotsUsed := s₂.slotsUsed } : State) L mc ms := by
      refine ⟨?_, q2, q3, q4, q5, q6⟩
      obtain ⟨t, ht, -⟩ := State.frames_cons hr
      show ({ U with heap := s₂.heap, slotsUsed := s₂.slotsUsed } : State) = { U.setFrames U.frames with heap := s₂.heap, slotsUsed := s₂.slotsUsed }
      rw [State.setFrames_self ht]
    subst hg
    refine Or.inl ⟨v, ⟨(({ U with heap := s₂.heap, slotsUsed := s₂.slotsUsed } : State).setVm s₂.vm), Ls ++ L, c0 + mc, s0 + ms⟩,
      ⟨X.admits, X.cas, X.clock, X.frames, X.room, X.hears, X.method, X.code, (X.here.setHeapUsed s₂.heap s₂.slotsUsed).setVm hW'.alike, X.tail, State.WarmedH.trans X.warmed hW', X.limits, X.bytes, X.same.trans (hsame.setVm s.vm)⟩,
      ⟨g, mk, s₂, L, rfl, rfl, hqc, rfl, hL, rfl, rfl⟩, ?_⟩
    show Steps p.tables e below _ ((({ U with heap := s₂.heap, slotsUsed := s₂.slotsUsed } : State).setVm s₂.vm).setTop { g with pc := g.pc + len₂, stack := v.toList ++ g.stack })
    rw [← hs₂]
    exact hsteps
  · obtain ⟨e2, q2, q3, q4, q5, q6⟩ := id hsm
    have e3 : s₂ = ({ (U.calling g mk a).setFrames s₂.frames with heap := s₂.heap, slotsUsed := s₂.slotsUsed } : State).setVm s₂.vm := by
      have : s₂ = ({ s₂ with vm := (U.calling g mk a).vm } : State).setVm s₂.vm := rfl
      rw [e2] at this
      exact this
    have hf₂ : s₂.frames = .throwing q :: .java g :: U.frames.tail := hend
    have hW' : U.WarmedH s₂.vm := hW₂
    have hs₂ : s₂ = ((({ U with heap := s₂.heap, slotsUsed := s₂.slotsUsed } : State).setVm s₂.vm).setTop g).pushFrame (.throwing q) := by
      refine e3.trans ?_
      rw [hf₂, State.calling_eq h.top, State.setFrames_setFrames, State.pushFrame, State.frames_setTop _ hr', State.setTop_of_frames _ hr', State.setFrames_setFrames, hr]
      rfl
    have hsame : U.sameButNew ({ U with heap := s₂.heap, slotsUsed := s₂.slotsUsed } : State) L mc ms := by
      refine ⟨?_, q2, q3, q4, q5, q6⟩
      obtain ⟨t, ht, -⟩ := State.frames_cons hr
      show ({ U with heap := s₂.heap, slotsUsed := s₂.slotsUsed } : State) = { U.setFrames U.frames with heap := s₂.heap, slotsUsed := s₂.slotsUsed }
      rw [State.setFrames_self ht]
    subst hg
    refine Or.inr ⟨q, ⟨(({ U with heap := s₂.heap, slotsUsed := s₂.slotsUsed } : State).setVm s₂.vm), Ls ++ L, c0 + mc, s0 + ms⟩,
      ⟨X.admits, X.cas, X.clock, X.frames, X.room, X.hears, X.method, X.code, (X.here.setHeapUsed s₂.heap s₂.slotsUsed).setVm hW'.alike, X.tail, State.WarmedH.trans X.warmed hW', X.limits, X.bytes, X.same.trans (hsame.setVm s.vm)⟩,
      ⟨g, mk, s₂, L, E, ce, rfl, rfl, hx, hce, hcv, hcl, rfl, hL, rfl, rfl⟩, ?_⟩
    show Steps p.tables e below _ (((({ U with heap := s₂.heap, slotsUsed := s₂.slotsUsed } : State).setVm s₂.vm).setTop g).pushFrame (.throwing q))
    rw [← hs₂]
    exact hsteps
end Payer
section Calls
variable {p : Program} {l : Launch} {e : Env} {R : Room} {s : State} {m : MethodId} {args : Array Value} {below : List Frame} {meth : Method} {c : Code} {T : State} {locs : List Loc} {cells slots : Nat}
theorem vx_callV (X : Stand p l e R s m args below meth c T locs cells slots) (hexec : p.tables.exec = Jvm.exec) {own C : String} {index : Nat} {y : MethodName} {bytes : ByteArray} {maxL : Nat} {ret : Option FieldType}
    (hown : s.vm.findClass own = some m.cls) (hlink : (Cond.methodLink own index y).before args s = true) (hinst : (Cond.instanceMethod y).before args s = true) (hsel : (Cond.selects C y y).before args s = true)
    (hcode : (Cond.code y bytes maxL ret).before args s = true) (hy : y.cls ≠ "java/lang/invoke/MethodHandle" ∧ y.cls ≠ "java/lang/invoke/VarHandle")
    {W9 : Nat} {Pre : Pt → Array Value → Prop} {Post : Pt → Array Value → Option Value → Pt → Prop} {PostX : Pt → Array Value → Addr → Pt → Prop} (hK : vx_Back l R p e below s args y 3 W9 Pre Post PostX)
    {b : Addr} {cellB : Cell} (hcell : T.heap[b]? = some cellB) (hobj : cellB.vm.isStatics = false) (hcls : s.vm.findClass C = some cellB.cls)
    {g : JFrame} (hg : g.method = m) (hsize : g.locals.size = c.maxLocals) {argsL rest : List Value} (hlen : ∀ sig, parseMethodDescriptor y.desc = some sig → argsL.length = sig.parameters.length)
    (hstack : g.stack = argsL.reverse ++ .ref b :: rest) (hW : 2 * g.monitorRoom + (rest.map fun v => v.category).sum ≤ W9) (hdg : decode c.code g.pc = .ok (.invokevirtual index, 3))
    (hpre : ∀ vm₁, s.WarmedH vm₁ → Pre ⟨T.setVm vm₁, locs, cells, slots⟩ (Value.ref b :: argsL).toArray) :
    (∃ (v : Option Value) (vm₁ : Vm) (B : Pt), s.WarmedH vm₁ ∧ Stand p l e R s m args below meth c B.U B.locs B.cells B.slots ∧ Post ⟨T.setVm vm₁, locs, cells, slots⟩ (Value.ref b :: argsL).toArray v B ∧
      ∀ target, Steps p.tables e below (B.U.setTop { g with pc := g.pc + 3, stack := v.toList ++ rest }) target → Steps p.tables e below (T.setTop g) target) ∨
    (∃ (q : Addr) (vm₁ : Vm) (B : Pt), s.WarmedH vm₁ ∧ Stand p l e R s m args below meth c B.U B.locs B.cells B.slots ∧ PostX ⟨T.setVm vm₁, locs, cells, slots⟩ (Value.ref b :: argsL).toArray q B ∧
      Steps p.tables e below (T.setTop g) ((B.U.setTop { g with stack := rest }).pushFrame (.throwing q))) := by
  obtain ⟨mk, methM, hnamed, hmethM, hstM, habM⟩ := Cond.instanceMethod_spec hinst
  obtain ⟨methM', cM, hmethM', -, -, -, -, -, -, hsigM⟩ := Cond.code_spec hnamed hcode
  cases hmethM.symm.trans hmethM'
  obtain ⟨c2, r2, m2, q1, q2, q3, q4, kP, hkP, hkPi⟩ := Cond.selects_spec hsel
  cases hcls.symm.trans q1
  cases (State.methodFound?_of_named hnamed hy).symm.trans q2
  cases hnamed.symm.trans q3
  have hselP : selectMethod e.platform s.vm cellB.cls mk = .method mk := by rw [Launch.admits_selectMethod X.admits]; exact q4
  obtain ⟨vm₁, X₁, hstep₁⟩ := X.invokevirtual hexec hown hlink hnamed hmethM hstM hkP hkPi hy (a := b) (cell := cellB) hcell
    (fun z h => by rw [h] at hobj; cases hobj) hselP hmethM habM hkP hkPi (g := g) hg (argsL := argsL) (rest := rest) (hlen _ hsigM) hstack hdg
  rcases hK m meth c ⟨T.setVm vm₁, locs, cells, slots⟩ { g with stack := rest } (.invokevirtual index) mk (Value.ref b :: argsL).toArray X₁ hg hsize hdg hW (X₁.named hnamed) (hpre vm₁ X₁.warmed) with ⟨v, B, X', hpost, hsteps⟩ | ⟨q, B, X', hpost, hsteps⟩
  · exact Or.inl ⟨v, vm₁, B, X₁.warmed, X', hpost, fun target h => hstep₁ _ fun acts => by rw [doInvoke_state]; exact hsteps.trans h⟩
  · exact Or.inr ⟨q, vm₁, B, X₁.warmed, X', hpost, hstep₁ _ fun acts => by rw [doInvoke_state]; exact hsteps⟩
theorem vx_callS (X : Stand p l e R s m args below meth c T locs cells slots) (hexec : p.tables.exec = Jvm.exec) {own : String} {index : Nat} {y : MethodName} {bytes : ByteArray} {maxL : Nat} {ret : Option FieldType}
    (hown : s.vm.findClass own = some m.cls) (hlink : (Cond.methodLink own index y).before args s = true) (hstat : (Cond.static y).before args s = true) (hinit : (Cond.initialized y.cls).before args s = true)
    (hcode : (Cond.code y bytes maxL ret).before args s = true) (hy : y.cls ≠ "java/lang/invoke/MethodHandle" ∧ y.cls ≠ "java/lang/invoke/VarHandle")
    {W9 : Nat} {Pre : Pt → Array Value → Prop} {Post : Pt → Array Value → Option Value → Pt → Prop} {PostX : Pt → Array Value → Addr → Pt → Prop} (hK : vx_Back l R p e below s args y 3 W9 Pre Post PostX)
    {g : JFrame} (hg : g.method = m) (hsize : g.locals.size = c.maxLocals) {argsL rest : List Value} (hlen : ∀ sig, parseMethodDescriptor y.desc = some sig → argsL.length = sig.parameters.length)
    (hstack : g.stack = argsL.reverse ++ rest) (hW : 2 * g.monitorRoom + (rest.map fun v => v.category).sum ≤ W9) (hdg : decode c.code g.pc = .ok (.invokestatic index, 3))
    (hpre : ∀ vm₁, s.WarmedH vm₁ → Pre ⟨T.setVm vm₁, locs, cells, slots⟩ argsL.toArray) :
    (∃ (v : Option Value) (vm₁ : Vm) (B : Pt), s.WarmedH vm₁ ∧ Stand p l e R s m args below meth c B.U B.locs B.cells B.slots ∧ Post ⟨T.setVm vm₁, locs, cells, slots⟩ argsL.toArray v B ∧
      ∀ target, Steps p.tables e below (B.U.setTop { g with pc := g.pc + 3, stack := v.toList ++ rest }) target → Steps p.tables e below (T.setTop g) target) ∨
    (∃ (q : Addr) (vm₁ : Vm) (B : Pt), s.WarmedH vm₁ ∧ Stand p l e R s m args below meth c B.U B.locs B.cells B.slots ∧ PostX ⟨T.setVm vm₁, locs, cells, slots⟩ argsL.toArray q B ∧
      Steps p.tables e below (T.setTop g) ((B.U.setTop { g with stack := rest }).pushFrame (.throwing q))) := by
  obtain ⟨mk, hnamed⟩ := Cond.code_named hcode
  obtain ⟨methM, cM, hmethM, -, -, -, -, -, -, hsigM⟩ := Cond.code_spec hnamed hcode
  have hstatic : methM.isStatic = true := Cond.static_spec hnamed hmethM hstat
  obtain ⟨kP, hkP, -⟩ := className_of_methodNamed hnamed
  have hinitP : kP.init = .initialized := Cond.initialized_spec (findClass_of_methodNamed hnamed) hkP hinit
  obtain ⟨vm₁, X₁, hstep₁⟩ := X.invokestatic hexec hown hlink hnamed hmethM hstatic hkP hinitP hy (g := g) hg (argsL := argsL) (rest := rest) (hlen _ hsigM) hstack hdg
  rcases hK m meth c ⟨T.setVm vm₁, locs, cells, slots⟩ { g with stack := rest } (.invokestatic index) mk argsL.toArray X₁ hg hsize hdg hW (X₁.named hnamed) (hpre vm₁ X₁.warmed) with ⟨v, B, X', hpost, hsteps⟩ | ⟨q, B, X', hpost, hsteps⟩
  · exact Or.inl ⟨v, vm₁, B, X₁.warmed, X', hpost, fun target h => hstep₁ _ fun acts => by rw [doInvoke_state]; exact hsteps.trans h⟩
  · exact Or.inr ⟨q, vm₁, B, X₁.warmed, X', hpost, hstep₁ _ fun acts => by rw [doInvoke_state]; exact hsteps⟩
end Calls
theorem vx_cls {s : State} {T : State} {vm₁ : Vm} {E : String} {k : ClassId} (hW : s.WarmedH vm₁) (h : (T.setVm vm₁).vm.findClass E = some k) : s.vm.findClass E = some k := by
  have h1 : vm₁.findClass E = some k := h
  rw [hW.alike.findClass] at h1
  exact h1
/-- the method's frame g, with q thrown over it -/
def vx_W (p : Program) (l : Launch) (e : Env) (R : Room) (s : State) (m : MethodId) (args : Array Value) (below : List Frame) (meth : Method) (c : Code) (H : Heap) (locs : List Loc) (cells slots : Nat) (Q : State → Prop) (g : JFrame) (q : Addr) : Prop :=
  ∀ T : State, T.heap = H → Stand p l e R s m args below meth c T locs cells slots → ∃ t, Steps p.tables e below ((T.setTop g).pushFrame (.throwing q)) t ∧ Q t
def vx_Run (p : Program) (l : Launch) (e : Env) (R : Room) (s : State) (m : MethodId) (args : Array Value) (below : List Frame) (meth : Method) (c : Code) (H : Heap) (locs : List Loc) (cells slots mc ms : Nat) (g : JFrame) (rest : List Value) (Qa : State → Outcome → State → Prop) (XC : String → State → State → Prop) (free : Addr → Prop) : Prop :=
  ∀ T : State, T.heap = H → Stand p l e R s m args below meth c T locs cells slots →
    (∃ (v : Option Value) (st₀ t T' : State) (L : List Loc), st₀.heap = H ∧ Stand p l e R s m args below meth c T' (locs ++ L) (cells + mc) (slots + ms) ∧ (∀ q ∈ L, free q.base) ∧ T'.heap = t.heap ∧ T'.vm = t.vm ∧ Qa st₀ (.returned v) t ∧
      Goes p e below T g T' { g with pc := g.pc + 3, stack := v.toList ++ rest }) ∨
    (∃ (q : Addr) (st₀ t T' : State) (L : List Loc) (E : String) (ce : Cell), st₀.heap = H ∧ Stand p l e R s m args below meth c T' (locs ++ L) (cells + mc) (slots + ms) ∧ (∀ z ∈ L, free z.base) ∧ T'.heap = t.heap ∧ T'.vm = t.vm ∧ XC E st₀ t ∧ t.heap[q]? = some ce ∧ ce.vm = .none ∧ s.vm.findClass E = some ce.cls ∧
      Steps p.tables e below (T.setTop g) ((T'.setTop { g with stack := rest }).pushFrame (.throwing q)))
def vx_X {S : Type} (px : S → Prop) (B : String → S → State → Prop) (A : Nat → Prop) : String → State → State → Prop := fun E st t => ∃ u : S, px u ∧ B E u t ∧ va_F A st t
section Runs
variable {p : Program} {l : Launch} {e : Env} {R : Room} {s : State} {m : MethodId} {args : Array Value} {below : List Frame} {meth : Method} {c : Code} {H : Heap} {locs : List Loc} {cells slots : Nat}
variable {y : MethodName} {bytes cc : ByteArray} {maxL nL mc ms n index : Nat} {ret : Option FieldType} {ws : List Cond} {rm : Room} {Pc : Array Value → State → Prop} {Qc : Array Value → State → Outcome → State → Prop} {XC : String → State → State → Prop} {free : Addr → Prop} {Ts : List Cond} {own C : String} {b : Addr} {As rest : List Value} {g : JFrame}
theorem vx_callBack (cb : CallB R s args own index y bytes maxL ret ws rm mc ms n) (hM : vx_Met l y ws rm Pc Qc XC mc ms free) (hbl : FrameBlind Pc) : vx_Back l R p e below s args y 3 8 (PreOf R mc ms Pc) (PostOf Qc mc ms free) (vx_Post XC mc ms free) := by
  obtain ⟨hrc, hrs, hfr, hlo, hws, hcw, -, hini, -⟩ := cb
  exact vx_back (bytes := bytes) (maxL := maxL) (ret := ret) hM hbl hrc hrs hfr hlo hws hcw (fun a' U hW => word_at hW (Or.inl (by first | rfl | simp [Cond.onTables, Cond.keeps, Cond.steady])) hini)
theorem vx_runV (S : CallFix p m c cc nL s args Ts own) (hM : vx_Met l y ws rm Pc Qc XC mc ms free) (cw : CallW R s args own C index y bytes maxL ret ws rm mc ms n) (hp : PreV s H C b Pc As)
    (hg : g.method = m) (hn : As.length = n) (hsize : g.locals.size = nL) (hstack : g.stack = As.reverse ++ .ref b :: rest) (hW : 2 * g.monitorRoom + (rest.map fun v => v.category).sum ≤ 8) (hdg : decode cc g.pc = .ok (.invokevirtual index, 3)) (hf : cells + mc ≤ R.cells ∧ slots + ms ≤ R.slots) :
    vx_Run p l e R s m args below meth c H locs cells slots mc ms g rest (Qc (Value.ref b :: As).toArray) XC free := by
  have hK : vx_Back l R p e below s args y 3 8 (PreOf R mc ms Pc) (PostOf Qc mc ms free) (vx_Post XC mc ms free) := vx_callBack cw.1 hM hp.1
  obtain ⟨⟨-, -, -, -, -, -, hcode, -, hy, hlen, hl⟩, hin, hse⟩ := cw
  obtain ⟨hx, hb, hml, ho, -⟩ := S
  obtain ⟨-, ⟨cellB, hcB, hoB, hclB⟩, hPc⟩ := hp
  intro T hT X
  rcases vx_callV X hx (C := C) (bytes := bytes) (maxL := maxL) (ret := ret) ho hl hin hse hcode hy hK (by rw [hT]; exact hcB) hoB hclB hg (hsize.trans hml.symm) (argsL := As) (rest := rest) (fun sig h => hn.trans (hlen sig h)) hstack hW (by rw [hb]; exact hdg)
    (fun vm₁ hW₁ => ⟨hf.1, hf.2, hPc (T.setVm vm₁) hT hW₁⟩) with ⟨v, vm₁, ⟨U', l2, c2, s2⟩, hW₁, X', ⟨g', mk, t, L, e1, e2, hq, h1, hL, h2, h3⟩, st⟩ | ⟨q, vm₁, ⟨U', l2, c2, s2⟩, hW₁, X', ⟨g', mk, t, L, E, ce, e1, e2, hq, hce, hcv, hcl, h1, hL, h2, h3⟩, st⟩
  · dsimp only [Pt.U, Pt.locs, Pt.cells, Pt.slots] at X' e1 e2 h1 h2 h3 st
    subst h1; subst h2; subst h3
    exact Or.inl ⟨v, (T.setVm vm₁).calling g' mk (Value.ref b :: As).toArray, t, U', L, hT, X', hL, e1, e2, hq, st⟩
  · dsimp only [Pt.U, Pt.locs, Pt.cells, Pt.slots] at X' e1 e2 h1 h2 h3 st hcl
    subst h1; subst h2; subst h3
    exact Or.inr ⟨q, (T.setVm vm₁).calling g' mk (Value.ref b :: As).toArray, t, U', L, E, ce, hT, X', hL, e1, e2, hq, hce, hcv, vx_cls hW₁ hcl, st⟩
theorem vx_runS (S : CallFix p m c cc nL s args Ts own) (hM : vx_Met l y ws rm Pc Qc XC mc ms free) (cw : CallB R s args own index y bytes maxL ret ws rm mc ms n ∧ (Cond.static y).before args s = true) (hp : PreS s H Pc As)
    (hg : g.method = m) (hn : As.length = n) (hsize : g.locals.size = nL) (hstack : g.stack = As.reverse ++ rest) (hW : 2 * g.monitorRoom + (rest.map fun v => v.category).sum ≤ 8) (hdg : decode cc g.pc = .ok (.invokestatic index, 3)) (hf : cells + mc ≤ R.cells ∧ slots + ms ≤ R.slots) :
    vx_Run p l e R s m args below meth c H locs cells slots mc ms g rest (Qc As.toArray) XC free := by
  have hK : vx_Back l R p e below s args y 3 8 (PreOf R mc ms Pc) (PostOf Qc mc ms free) (vx_Post XC mc ms free) := vx_callBack cw.1 hM hp.1
  obtain ⟨⟨-, -, -, -, -, -, hcode, hini, hy, hlen, hl⟩, hstt⟩ := cw
  obtain ⟨hx, hb, hml, ho, -⟩ := S
  intro T hT X
  rcases vx_callS X hx (bytes := bytes) (maxL := maxL) (ret := ret) ho hl hstt hini hcode hy hK hg (hsize.trans hml.symm) (argsL := As) (rest := rest) (fun sig h => hn.trans (hlen sig h)) hstack hW (by rw [hb]; exact hdg)
    (fun vm₁ hW₁ => ⟨hf.1, hf.2, hp.2 (T.setVm vm₁) hT hW₁⟩) with ⟨v, vm₁, ⟨U', l2, c2, s2⟩, hW₁, X', ⟨g', mk, t, L, e1, e2, hq, h1, hL, h2, h3⟩, st⟩ | ⟨q, vm₁, ⟨U', l2, c2, s2⟩, hW₁, X', ⟨g', mk, t, L, E, ce, e1, e2, hq, hce, hcv, hcl, h1, hL, h2, h3⟩, st⟩
  · dsimp only [Pt.U, Pt.locs, Pt.cells, Pt.slots] at X' e1 e2 h1 h2 h3 st
    subst h1; subst h2; subst h3
    exact Or.inl ⟨v, (T.setVm vm₁).calling g' mk As.toArray, t, U', L, hT, X', hL, e1, e2, hq, st⟩
  · dsimp only [Pt.U, Pt.locs, Pt.cells, Pt.slots] at X' e1 e2 h1 h2 h3 st hcl
    subst h1; subst h2; subst h3
    exact Or.inr ⟨q, (T.setVm vm₁).calling g' mk As.toArray, t, U', L, E, ce, hT, X', hL, e1, e2, hq, hce, hcv, vx_cls hW₁ hcl, st⟩
end Runs
section Rows
variable {p : Program} {l : Launch} {e : Env} {R : Room} {s : State} {m : MethodId} {args : Array Value} {below : List Frame} {meth : Method} {c : Code} {H : Heap} {locs : List Loc} {cells slots : Nat} {Q : State → Prop}
variable {mc ms : Nat} {free : Addr → Prop} {A0 A1 : Nat → Prop} {H0 : Heap} {a : Array Value} {pc : Nat} {ls : Array Slot} {st0 rest : List Value}
theorem vx_keep {st₀ t T' : State} {L : List Loc} (h0 : st₀.heap = H) (e1 : T'.heap = t.heap) (hS : va_S A0 H0 H locs) (hA : ∀ q, q < H.size → A1 q → A0 q) (hf : ∀ q, free q → A0 q) (hL : ∀ q ∈ L, free q.base) (hF : va_F A1 st₀ t) :
    H.size ≤ T'.heap.size ∧ (∀ q : Nat, q < H.size → ¬ A1 q → T'.heap[q]? = H[q]?) ∧ va_S A0 H0 T'.heap (locs ++ L) := by
  obtain ⟨hz, hk⟩ := hF
  rw [h0] at hz hk
  exact ⟨by rw [e1]; exact hz, fun q h1 h2 => by rw [e1]; exact hk q h1 h2,
    ⟨Nat.le_trans hS.1 (by rw [e1]; exact hz), fun q h1 h2 => by rw [e1, hk q (Nat.lt_of_lt_of_le h1 hS.1) (fun z => h2 (hA q (Nat.lt_of_lt_of_le h1 hS.1) z))]; exact hS.2.1 q h1 h2, fun q hq => by
      rcases List.mem_append.mp hq with h | h
      · exact hS.2.2 q h
      · exact hf _ (hL q h)⟩⟩
theorem vx_calli {S SX : Type} {post : Int32 → S → Prop} {px : SX → Prop} {B : S → State → Prop} {BX : String → SX → State → Prop} {AX : Nat → Prop} (hr : vx_Run p l e R s m args below meth c H locs cells slots mc ms (F0 m pc ls st0) rest (va_Qi post B A1 a) (vx_X px BX AX) free) (hS : va_S A0 H0 H locs) (hA : ∀ q, q < H.size → A1 q → A0 q) (hf : ∀ q, free q → A0 q) (hAX : ∀ q, q < H.size → AX q → A0 q)
    (kx : ∀ (E : String) (ce : Cell) (q9 : Addr) (u : SX) (t : State) (H1 : Heap) (locs1 : List Loc), t.heap = H1 → s.vm.Alike t.vm → px u → BX E u t → H.size ≤ H1.size → (∀ q : Nat, q < H.size → ¬ AX q → H1[q]? = H[q]?) → va_S A0 H0 H1 locs1 → H1[q9]? = some ce → ce.vm = .none → s.vm.findClass E = some ce.cls → vx_W p l e R s m args below meth c H1 locs1 (cells + mc) (slots + ms) Q (F0 m pc ls rest) q9)
    (kk : ∀ (r : Int32) (u : S) (t : State) (H1 : Heap) (locs1 : List Loc), t.heap = H1 → s.vm.Alike t.vm → post r u → B u t → H.size ≤ H1.size → (∀ q : Nat, q < H.size → ¬ A1 q → H1[q]? = H[q]?) → va_S A0 H0 H1 locs1 → W p l e R s m args below meth c H1 locs1 (cells + mc) (slots + ms) Q (F0 m (pc + 3) ls (.int r :: rest))) : W p l e R s m args below meth c H locs cells slots Q (F0 m pc ls st0) := by
  intro T hT X
  rcases hr T hT X with ⟨v, st₀, t, T', L, h0, X', hL, e1, e2, ⟨⟨r, u, hv, hp, hb⟩, hF⟩, st⟩ | ⟨q, st₀, t, T', L, E, ce, h0, X', hL, e1, e2, ⟨u, hp, hb, hF⟩, hce, hcv, hcl, st⟩
  · cases hv
    obtain ⟨k1, k2, k3⟩ := vx_keep h0 e1 hS hA hf hL hF
    obtain ⟨t2, a1, b1⟩ := kk r u t T'.heap (locs ++ L) e1.symm (by rw [← e2]; exact X'.warmed.alike) hp hb k1 k2 k3 T' rfl X'
    exact ⟨t2, st t2 a1, b1⟩
  · obtain ⟨k1, k2, k3⟩ := vx_keep h0 e1 hS hAX hf hL hF
    obtain ⟨t2, a1, b1⟩ := kx E ce q u t T'.heap (locs ++ L) e1.symm (by rw [← e2]; exact X'.warmed.alike) hp hb k1 k2 k3 (by rw [e1]; exact hce) hcv hcl T' rfl X'
    exact ⟨t2, st.trans a1, b1⟩
theorem vx_calll {S SX : Type} {post : Int64 → S → Prop} {px : SX → Prop} {B : S → State → Prop} {BX : String → SX → State → Prop} {AX : Nat → Prop} (hr : vx_Run p l e R s m args below meth c H locs cells slots mc ms (F0 m pc ls st0) rest (va_Ql post B A1 a) (vx_X px BX AX) free) (hS : va_S A0 H0 H locs) (hA : ∀ q, q < H.size → A1 q → A0 q) (hf : ∀ q, free q → A0 q) (hAX : ∀ q, q < H.size → AX q → A0 q)
    (kx : ∀ (E : String) (ce : Cell) (q9 : Addr) (u : SX) (t : State) (H1 : Heap) (locs1 : List Loc), t.heap = H1 → s.vm.Alike t.vm → px u → BX E u t → H.size ≤ H1.size → (∀ q : Nat, q < H.size → ¬ AX q → H1[q]? = H[q]?) → va_S A0 H0 H1 locs1 → H1[q9]? = some ce → ce.vm = .none → s.vm.findClass E = some ce.cls → vx_W p l e R s m args below meth c H1 locs1 (cells + mc) (slots + ms) Q (F0 m pc ls rest) q9)
    (kk : ∀ (r : Int64) (u : S) (t : State) (H1 : Heap) (locs1 : List Loc), t.heap = H1 → s.vm.Alike t.vm → post r u → B u t → H.size ≤ H1.size → (∀ q : Nat, q < H.size → ¬ A1 q → H1[q]? = H[q]?) → va_S A0 H0 H1 locs1 → W p l e R s m args below meth c H1 locs1 (cells + mc) (slots + ms) Q (F0 m (pc + 3) ls (.long r :: rest))) : W p l e R s m args below meth c H locs cells slots Q (F0 m pc ls st0) := by
  intro T hT X
  rcases hr T hT X with ⟨v, st₀, t, T', L, h0, X', hL, e1, e2, ⟨⟨r, u, hv, hp, hb⟩, hF⟩, st⟩ | ⟨q, st₀, t, T', L, E, ce, h0, X', hL, e1, e2, ⟨u, hp, hb, hF⟩, hce, hcv, hcl, st⟩
  · cases hv
    obtain ⟨k1, k2, k3⟩ := vx_keep h0 e1 hS hA hf hL hF
    obtain ⟨t2, a1, b1⟩ := kk r u t T'.heap (locs ++ L) e1.symm (by rw [← e2]; exact X'.warmed.alike) hp hb k1 k2 k3 T' rfl X'
    exact ⟨t2, st t2 a1, b1⟩
  · obtain ⟨k1, k2, k3⟩ := vx_keep h0 e1 hS hAX hf hL hF
    obtain ⟨t2, a1, b1⟩ := kx E ce q u t T'.heap (locs ++ L) e1.symm (by rw [← e2]; exact X'.warmed.alike) hp hb k1 k2 k3 (by rw [e1]; exact hce) hcv hcl T' rfl X'
    exact ⟨t2, st.trans a1, b1⟩
theorem vx_callf {S SX : Type} {post : UInt32 → S → Prop} {px : SX → Prop} {B : S → State → Prop} {BX : String → SX → State → Prop} {AX : Nat → Prop} (hr : vx_Run p l e R s m args below meth c H locs cells slots mc ms (F0 m pc ls st0) rest (va_Qf post B A1 a) (vx_X px BX AX) free) (hS : va_S A0 H0 H locs) (hA : ∀ q, q < H.size → A1 q → A0 q) (hf : ∀ q, free q → A0 q) (hAX : ∀ q, q < H.size → AX q → A0 q)
    (kx : ∀ (E : String) (ce : Cell) (q9 : Addr) (u : SX) (t : State) (H1 : Heap) (locs1 : List Loc), t.heap = H1 → s.vm.Alike t.vm → px u → BX E u t → H.size ≤ H1.size → (∀ q : Nat, q < H.size → ¬ AX q → H1[q]? = H[q]?) → va_S A0 H0 H1 locs1 → H1[q9]? = some ce → ce.vm = .none → s.vm.findClass E = some ce.cls → vx_W p l e R s m args below meth c H1 locs1 (cells + mc) (slots + ms) Q (F0 m pc ls rest) q9)
    (kk : ∀ (r : UInt32) (u : S) (t : State) (H1 : Heap) (locs1 : List Loc), t.heap = H1 → s.vm.Alike t.vm → post r u → B u t → H.size ≤ H1.size → (∀ q : Nat, q < H.size → ¬ A1 q → H1[q]? = H[q]?) → va_S A0 H0 H1 locs1 → W p l e R s m args below meth c H1 locs1 (cells + mc) (slots + ms) Q (F0 m (pc + 3) ls (.float r :: rest))) : W p l e R s m args below meth c H locs cells slots Q (F0 m pc ls st0) := by
  intro T hT X
  rcases hr T hT X with ⟨v, st₀, t, T', L, h0, X', hL, e1, e2, ⟨⟨r, u, hv, hp, hb⟩, hF⟩, st⟩ | ⟨q, st₀, t, T', L, E, ce, h0, X', hL, e1, e2, ⟨u, hp, hb, hF⟩, hce, hcv, hcl, st⟩
  · cases hv
    obtain ⟨k1, k2, k3⟩ := vx_keep h0 e1 hS hA hf hL hF
    obtain ⟨t2, a1, b1⟩ := kk r u t T'.heap (locs ++ L) e1.symm (by rw [← e2]; exact X'.warmed.alike) hp hb k1 k2 k3 T' rfl X'
    exact ⟨t2, st t2 a1, b1⟩
  · obtain ⟨k1, k2, k3⟩ := vx_keep h0 e1 hS hAX hf hL hF
    obtain ⟨t2, a1, b1⟩ := kx E ce q u t T'.heap (locs ++ L) e1.symm (by rw [← e2]; exact X'.warmed.alike) hp hb k1 k2 k3 (by rw [e1]; exact hce) hcv hcl T' rfl X'
    exact ⟨t2, st.trans a1, b1⟩
theorem vx_calld {S SX : Type} {post : UInt64 → S → Prop} {px : SX → Prop} {B : S → State → Prop} {BX : String → SX → State → Prop} {AX : Nat → Prop} (hr : vx_Run p l e R s m args below meth c H locs cells slots mc ms (F0 m pc ls st0) rest (va_Qd post B A1 a) (vx_X px BX AX) free) (hS : va_S A0 H0 H locs) (hA : ∀ q, q < H.size → A1 q → A0 q) (hf : ∀ q, free q → A0 q) (hAX : ∀ q, q < H.size → AX q → A0 q)
    (kx : ∀ (E : String) (ce : Cell) (q9 : Addr) (u : SX) (t : State) (H1 : Heap) (locs1 : List Loc), t.heap = H1 → s.vm.Alike t.vm → px u → BX E u t → H.size ≤ H1.size → (∀ q : Nat, q < H.size → ¬ AX q → H1[q]? = H[q]?) → va_S A0 H0 H1 locs1 → H1[q9]? = some ce → ce.vm = .none → s.vm.findClass E = some ce.cls → vx_W p l e R s m args below meth c H1 locs1 (cells + mc) (slots + ms) Q (F0 m pc ls rest) q9)
    (kk : ∀ (r : UInt64) (u : S) (t : State) (H1 : Heap) (locs1 : List Loc), t.heap = H1 → s.vm.Alike t.vm → post r u → B u t → H.size ≤ H1.size → (∀ q : Nat, q < H.size → ¬ A1 q → H1[q]? = H[q]?) → va_S A0 H0 H1 locs1 → W p l e R s m args below meth c H1 locs1 (cells + mc) (slots + ms) Q (F0 m (pc + 3) ls (.double r :: rest))) : W p l e R s m args below meth c H locs cells slots Q (F0 m pc ls st0) := by
  intro T hT X
  rcases hr T hT X with ⟨v, st₀, t, T', L, h0, X', hL, e1, e2, ⟨⟨r, u, hv, hp, hb⟩, hF⟩, st⟩ | ⟨q, st₀, t, T', L, E, ce, h0, X', hL, e1, e2, ⟨u, hp, hb, hF⟩, hce, hcv, hcl, st⟩
  · cases hv
    obtain ⟨k1, k2, k3⟩ := vx_keep h0 e1 hS hA hf hL hF
    obtain ⟨t2, a1, b1⟩ := kk r u t T'.heap (locs ++ L) e1.symm (by rw [← e2]; exact X'.warmed.alike) hp hb k1 k2 k3 T' rfl X'
    exact ⟨t2, st t2 a1, b1⟩
  · obtain ⟨k1, k2, k3⟩ := vx_keep h0 e1 hS hAX hf hL hF
    obtain ⟨t2, a1, b1⟩ := kx E ce q u t T'.heap (locs ++ L) e1.symm (by rw [← e2]; exact X'.warmed.alike) hp hb k1 k2 k3 (by rw [e1]; exact hce) hcv hcl T' rfl X'
    exact ⟨t2, st.trans a1, b1⟩
theorem vx_callv {S SX : Type} {post : S → Prop} {px : SX → Prop} {B : S → State → Prop} {BX : String → SX → State → Prop} {AX : Nat → Prop} (hr : vx_Run p l e R s m args below meth c H locs cells slots mc ms (F0 m pc ls st0) rest (va_Qv post B A1 a) (vx_X px BX AX) free) (hS : va_S A0 H0 H locs) (hA : ∀ q, q < H.size → A1 q → A0 q) (hf : ∀ q, free q → A0 q) (hAX : ∀ q, q < H.size → AX q → A0 q)
    (kx : ∀ (E : String) (ce : Cell) (q9 : Addr) (u : SX) (t : State) (H1 : Heap) (locs1 : List Loc), t.heap = H1 → s.vm.Alike t.vm → px u → BX E u t → H.size ≤ H1.size → (∀ q : Nat, q < H.size → ¬ AX q → H1[q]? = H[q]?) → va_S A0 H0 H1 locs1 → H1[q9]? = some ce → ce.vm = .none → s.vm.findClass E = some ce.cls → vx_W p l e R s m args below meth c H1 locs1 (cells + mc) (slots + ms) Q (F0 m pc ls rest) q9)
    (kk : ∀ (u : S) (t : State) (H1 : Heap) (locs1 : List Loc), t.heap = H1 → s.vm.Alike t.vm → post u → B u t → H.size ≤ H1.size → (∀ q : Nat, q < H.size → ¬ A1 q → H1[q]? = H[q]?) → va_S A0 H0 H1 locs1 → W p l e R s m args below meth c H1 locs1 (cells + mc) (slots + ms) Q (F0 m (pc + 3) ls (rest))) : W p l e R s m args below meth c H locs cells slots Q (F0 m pc ls st0) := by
  intro T hT X
  rcases hr T hT X with ⟨v, st₀, t, T', L, h0, X', hL, e1, e2, ⟨⟨u, hv, hp, hb⟩, hF⟩, st⟩ | ⟨q, st₀, t, T', L, E, ce, h0, X', hL, e1, e2, ⟨u, hp, hb, hF⟩, hce, hcv, hcl, st⟩
  · cases hv
    obtain ⟨k1, k2, k3⟩ := vx_keep h0 e1 hS hA hf hL hF
    obtain ⟨t2, a1, b1⟩ := kk u t T'.heap (locs ++ L) e1.symm (by rw [← e2]; exact X'.warmed.alike) hp hb k1 k2 k3 T' rfl X'
    exact ⟨t2, st t2 a1, b1⟩
  · obtain ⟨k1, k2, k3⟩ := vx_keep h0 e1 hS hAX hf hL hF
    obtain ⟨t2, a1, b1⟩ := kx E ce q u t T'.heap (locs ++ L) e1.symm (by rw [← e2]; exact X'.warmed.alike) hp hb k1 k2 k3 (by rw [e1]; exact hce) hcv hcl T' rfl X'
    exact ⟨t2, st.trans a1, b1⟩
/-- caught by the row x of this method's table; the rows ahead don't take it -/
theorem vx_catch {own name : String} {E : String} {ce : Cell} {q : Addr} (hown : s.vm.findClass own = some m.cls) (pre : List ExceptionTableEntry) (x : ExceptionTableEntry) (suf : List ExceptionTableEntry) (hsplit : c.exceptionTable.toList = pre ++ x :: suf)
    (hpass : ∀ z ∈ pre, covers z pc = false ∨ (z.catchType ≠ 0 ∧ ∃ nm : String, (Cond.classLink own z.catchType nm).before args s = true ∧ va_Nc E nm s)) (hx : covers x pc = true) (h0 : x.catchType ≠ 0)
    (hlink : (Cond.classLink own x.catchType name).before args s = true) (hcast : (Cond.castable E name).before args s = true) (hcell : H[q]? = some ce) (hv : ce.vm = .none) (hcl : s.vm.findClass E = some ce.cls)
    (kk : W p l e R s m args below meth c H locs cells slots Q (F0 m x.handlerPc ls [.ref q])) : vx_W p l e R s m args below meth c H locs cells slots Q (F0 m pc ls rest) q := by
  intro T hT X
  have hpl : e.platform.magicAccessors = ({} : Platform).magicAccessors := by rw [X.admits.platform]
  obtain ⟨c3, c4, hc3, hc4, hasg⟩ := Cond.castable_spec hcast
  cases Option.some.inj (hc3.symm.trans hcl)
  obtain ⟨c5, hc5, hcl5⟩ := Cond.classLink_spec hown hlink e.platform hpl
  cases Option.some.inj (hc4.symm.trans hc5)
  obtain ⟨vm', X', st⟩ := X.thenCaughtThrough q (g := F0 m pc ls rest) rfl (Steps.refl _) (by rw [hT]; exact hcell) (by rw [hv]; rfl) (by obtain ⟨k9, h9, -⟩ := Vm.findClass_spec hcl; exact ⟨k9, h9⟩) pre x suf hsplit
    (fun z hz => by
      rcases hpass z hz with h | ⟨hz0, nm, hl1, hn1⟩
      · exact Or.inl h
      · obtain ⟨c6, hc6, hcl6⟩ := Cond.classLink_spec hown hl1 e.platform hpl
        obtain ⟨a8, b8, h1, h2, h3⟩ := hn1
        cases Option.some.inj (h1.symm.trans hcl)
        cases Option.some.inj (h2.symm.trans hc6)
        exact Or.inr ⟨hz0, _, hcl6, h3⟩) hx (Or.inr ⟨h0, c4, hcl5, hasg⟩)
  obtain ⟨t, a1, b1⟩ := kk (T.setVm vm') hT X'
  exact ⟨t, st.trans a1, b1⟩
end Rows
section Ends
variable {p : Program} {l : Launch} {e : Env} {R : Room} {s : State} {m : MethodId} {args : Array Value} {below : List Frame} {meth : Method} {c : Code} {H : Heap} {locs : List Loc} {cells slots : Nat} {Q : State → Prop}
variable {mc ms : Nat} {free : Addr → Prop} {A0 A1 : Nat → Prop} {H0 : Heap} {a : Array Value} {ls : Array Slot} {st0 rest : List Value}
variable {Qc : Array Value → State → Outcome → State → Prop} {XC : String → State → State → Prop}
/-- what a body that may throw owes at its end -/
def vx_MQ (below : List Frame) (Qc : Array Value → State → Outcome → State → Prop) (XC : String → State → State → Prop) (a : Array Value) (s : State) (mc ms : Nat) (free : Addr → Prop) : State → Prop := fun t =>
  ∃ o, t.status = .running ∧ Ended t below o ∧ vx_Q Qc XC mc ms free a s o t
theorem vx_ret {g : JFrame} {mc ms : Nat} (k : W p l e R s m args below meth c H locs cells slots (MQ below Qc args s mc ms free) g) : W p l e R s m args below meth c H locs cells slots (vx_MQ below Qc XC args s mc ms free) g := by
  intro T hT X
  obtain ⟨t, a1, o, b1, b2, b3, b4⟩ := k T hT X
  exact ⟨t, a1, o, b1, b2, Or.inl ⟨b3, b4⟩⟩
/-- not caught here: it goes on to the caller -/
theorem vx_widen {g : JFrame} {q : Addr} {k n : Nat} (h1 : cells ≤ k) (h2 : slots ≤ n) (kk : vx_W p l e R s m args below meth c H locs k n Q g q) : vx_W p l e R s m args below meth c H locs cells slots Q g q := fun T hT X => kk T hT (stand_widen X h1 h2)
theorem vx_out {pc : Nat} {E : String} {ce : Cell} {q : Addr} {mc ms : Nat} (hout : ∀ x ∈ c.exceptionTable.toList, covers x pc = false) (hlocks : meth.locks = false) (hcell : H[q]? = some ce) (hv : ce.vm = .none) (hcl : s.vm.findClass E = some ce.cls)
    (hx : ∀ t : State, t.heap = H → s.vm.Alike t.vm → XC E s t) (hf : ∀ z ∈ locs, free z.base) (hc : cells ≤ mc) (hs : slots ≤ ms) :
    vx_W p l e R s m args below meth c H locs cells slots (vx_MQ below Qc XC args s mc ms free) (F0 m pc ls rest) q := by
  intro T hT X
  obtain ⟨st1, hrun, hend, hW, hsm⟩ := X.leaveThrown q (g := F0 m pc ls rest) rfl rfl rfl hout hlocks
  have hcell9 : (T.setFrames (.throwing q :: below)).heap[q]? = some ce := by
    show T.heap[q]? = some ce
    rw [hT]; exact hcell
  exact ⟨_, st1, .threw q, hrun, hend, Or.inr ⟨q, rfl, E, ce, locs, hx _ hT hW.alike, hcell9, hv, hcl, hW, hsm.mono hc hs, hf⟩⟩
theorem vx_frame {U : State} {k n : Nat} (h : s.sameButNew ({ U with vm := s.vm } : State) locs k n) : s.heap.size ≤ U.heap.size ∧ ∀ q : Nat, q < s.heap.size → (∀ z ∈ locs, z.base ≠ q) → U.heap[q]? = s.heap[q]? := by
  obtain ⟨-, h2, -, -, -, h6⟩ := h
  refine ⟨h2, fun q hq hz => ?_⟩
  obtain ⟨c9, e1, e2, e3, e4⟩ := h6 q _ (Array.getElem?_eq_getElem hq)
  have hs : c9.slots = (s.heap[q]).slots := Array.ext_getElem? fun i => e4 i fun hm => hz _ hm rfl
  have h9 : c9 = s.heap[q] := by
    rw [hs] at e2
    exact e2
  have e5 : U.heap[q]? = some c9 := e1
  rw [e5, h9, Array.getElem?_eq_getElem hq]
/-- the words of a throw but the four that speak of the heap -/
def vx_no (w : Cond) : Bool := decide (w ≠ .isRef (.static Bundle.tN "UNASSIGNED_STACK" Bundle.steD)) && decide (w ≠ .isRef (.static Bundle.tN "SUPPRESSED_SENTINEL" Bundle.listD)) && decide (w ≠ .laysStatic Bundle.tN "UNASSIGNED_STACK" Bundle.steD) && decide (w ≠ .laysStatic Bundle.tN "SUPPRESSED_SENTINEL" Bundle.listD)
def vx_at0 (own : String) (ic : Nat) (X : String) (names : List String) : List Cond := (Bundle.ownAtoms0 own ic X names).filter vx_no
def vx_atS (own : String) (ic : Nat) (X : String) (names : List String) : List Cond := (Bundle.ownAtoms own ic X names).filter vx_no
/-- a word that the tables alone decide, or a good one -/
def vx_ot (w : Cond) : Bool := w.onTables || goodWord w
theorem vx_ot_at {args a' : Array Value} {s U : State} {w : Cond} (hW : s.WarmedH U.vm) (hvm : s.vm = U.vm) (hg : vx_ot w = true) (h : w.before args s = true) : w.before a' U = true := by
  simp only [vx_ot, Bool.or_eq_true] at hg
  rcases hg with hg | hg
  · exact va_tabs hg hvm h
  · exact word_at hW (good_of_word hg) h
/-- a list's words: the good ones out of the method's own list, the others by premises of their own -/
theorem vx_hat {args : Array Value} {s : State} {L B : List Cond} (h1 : ∀ w ∈ L.filter goodWord, w.before args s = true) (h2 : ∀ w ∈ L.filter (fun w => !goodWord w), w ∈ B) (h3 : ∀ w ∈ B, w.before args s = true) : ∀ w ∈ L, w.before args s = true := by
  intro w hw
  by_cases g : goodWord w = true
  · exact h1 w (List.mem_filter.mpr ⟨hw, g⟩)
  · refine h3 w (h2 w (List.mem_filter.mpr ⟨hw, ?_⟩))
    show (!goodWord w) = true
    cases hgw : goodWord w
    · rfl
    · exact absurd hgw g
theorem vx_c {args : Array Value} {s : State} {w : Cond} {B : List Cond} (h : w.before args s = true) (t : ∀ w ∈ B, w.before args s = true) : ∀ w' ∈ w :: B, w'.before args s = true := fun w' h' => (List.mem_cons.mp h').elim (fun e => by rw [e]; exact h) (t w')
theorem vx_n {args : Array Value} {s : State} : ∀ w ∈ ([] : List Cond), w.before args s = true := fun _ h => nomatch h
theorem vx_own {args : Array Value} {s : State} {L : List Cond} (h1 : ∀ w ∈ L.filter vx_no, w.before args s = true)
    (hU : (Cond.isRef (.static Bundle.tN "UNASSIGNED_STACK" Bundle.steD)).before args s = true) (hN : (Cond.isRef (.static Bundle.tN "SUPPRESSED_SENTINEL" Bundle.listD)).before args s = true)
    (lU : (Cond.laysStatic Bundle.tN "UNASSIGNED_STACK" Bundle.steD).before args s = true) (lN : (Cond.laysStatic Bundle.tN "SUPPRESSED_SENTINEL" Bundle.listD).before args s = true) : ∀ w ∈ L, w.before args s = true := by
  intro w hw
  by_cases e1 : w = .isRef (.static Bundle.tN "UNASSIGNED_STACK" Bundle.steD)
  · rw [e1]; exact hU
  · by_cases e2 : w = .isRef (.static Bundle.tN "SUPPRESSED_SENTINEL" Bundle.listD)
    · rw [e2]; exact hN
    · by_cases e3 : w = .laysStatic Bundle.tN "UNASSIGNED_STACK" Bundle.steD
      · rw [e3]; exact lU
      · by_cases e4 : w = .laysStatic Bundle.tN "SUPPRESSED_SENTINEL" Bundle.listD
        · rw [e4]; exact lN
        · exact h1 w (List.mem_filter.mpr ⟨hw, by unfold vx_no; rw [decide_eq_true e1, decide_eq_true e2, decide_eq_true e3, decide_eq_true e4]; rfl⟩)
/-- where a static field lies, its class's statics cell in H -/
def vx_L (C n d : String) (A : Nat → Prop) (U : State) (H : Heap) : Prop := ∃ (c : ClassId) (k : Class) (i : Nat) (f : Field) (a : Nat) (cell : Cell), U.vm.findClass C = some c ∧ U.fieldFound? C n d = some (c, k, i, f) ∧ f.isStatic = true ∧ k.statics = some a ∧ H[a]? = some cell ∧ cell.vm.isStatics = true ∧ cell.cls = c ∧ f.slot < cell.slots.size ∧ k.staticTypes[f.slot]? = some f.type ∧ ¬ A a
theorem vx_L.moved {C n d : String} {A : Nat → Prop} {u U : State} {H : Heap} (hvm : u.vm.Alike U.vm) (h : vx_L C n d A u H) : vx_L C n d A U H := by
  obtain ⟨c, k, i, f, a, cell, h1, h2, h3, h4, h5, h6, h7, h8, h9, h10⟩ := h
  obtain ⟨k', hi', he⟩ := State.fieldFound?_setVm hvm h2
  exact ⟨c, k', i, f, a, cell, by rw [hvm.findClass]; exact h1, hi', h3, by rw [he]; exact h4, h5, h6, h7, h8, by rw [he]; exact h9, h10⟩
theorem vx_L.kept {C n d : String} {A : Nat → Prop} {U : State} {H H1 : Heap} (h : vx_L C n d A U H) (hq : ∀ a : Nat, a < H.size → ¬ A a → H1[a]? = H[a]?) : vx_L C n d A U H1 := by
  obtain ⟨c, k, i, f, a, cell, h1, h2, h3, h4, h5, h6, h7, h8, h9, h10⟩ := h
  exact ⟨c, k, i, f, a, cell, h1, h2, h3, h4, by rw [hq a (Array.getElem?_eq_some_iff.mp h5).1 h10]; exact h5, h6, h7, h8, h9, h10⟩
theorem vx_L.narrow {C n d : String} {A B : Nat → Prop} {U : State} {H : Heap} (h : vx_L C n d A U H) (hAB : ∀ q, B q → A q) : vx_L C n d B U H := by
  obtain ⟨c, k, i, f, a, cell, h1, h2, h3, h4, h5, h6, h7, h8, h9, h10⟩ := h
  exact ⟨c, k, i, f, a, cell, h1, h2, h3, h4, h5, h6, h7, h8, h9, fun z => h10 (hAB _ z)⟩
theorem vx_L.word {C n d : String} {A : Nat → Prop} {s : State} {args : Array Value} (h : vx_L C n d A s s.heap) : (Cond.laysStatic C n d).before args s = true := by
  obtain ⟨c, k, i, f, a, cell, h1, h2, h3, h4, h5, h6, h7, h8, h9, -⟩ := h
  show (Cond.laysStatic C n d).holds args s none s [] = true
  exact Cond.laysStatic_of h1 h2 h3 h4 h5 h6 h7 h8 h9
/-- .. and what it holds: null or some reference -/
def vx_Zq (C n d : String) (A : Nat → Prop) (U : State) (H : Heap) : Prop := va_Zq C n d A U H ∧ vx_L C n d A U H
theorem vx_Zq.moved {C n d : String} {A : Nat → Prop} {u U : State} {H : Heap} (hvm : u.vm.Alike U.vm) (h : vx_Zq C n d A u H) : vx_Zq C n d A U H := ⟨va_Zq.moved hvm h.1, vx_L.moved hvm h.2⟩
theorem vx_Zq.kept {C n d : String} {A : Nat → Prop} {U : State} {H H1 : Heap} (h : vx_Zq C n d A U H) (hq : ∀ a : Nat, a < H.size → ¬ A a → H1[a]? = H[a]?) : vx_Zq C n d A U H1 := ⟨va_Zq.kept h.1 hq, vx_L.kept h.2 hq⟩
theorem vx_Zq.narrow {C n d : String} {A B : Nat → Prop} {U : State} {H : Heap} (h : vx_Zq C n d A U H) (hAB : ∀ q, B q → A q) : vx_Zq C n d B U H := ⟨va_Zq.narrow h.1 hAB, vx_L.narrow h.2 hAB⟩
theorem vx_Zqof {args : Array Value} {s : State} {C n d : String} {A : Nat → Prop} (hl : (Cond.laysStatic C n d).before args s = true) (hini : (Cond.initialized C).before args s = true) (h : (Cond.isRef (.static C n d)).before args s = true) (hA : ∀ a : Nat, a < s.heap.size → ¬ A a) : vx_Zq C n d A s s.heap := by
  refine ⟨va_Zqof hl hini h hA, ?_⟩
  obtain ⟨c, k, i, f, a, cell, h1, h2, h3, h4, h5, h6, h7, h8, h9⟩ := Cond.laysStatic_spec hl
  exact ⟨c, k, i, f, a, cell, h1, h2, h3, h4, h5, h6, h7, h8, h9, hA a (Array.getElem?_eq_some_iff.mp h5).1⟩
theorem vx_isRef {C n d : String} {v : Value} {A : Nat → Prop} {s : State} {args : Array Value} (h : va_Z C n d v A s s.heap) (hv : v.isRef = true) : (Cond.isRef (.static C n d)).before args s = true := by
  obtain ⟨cf, kf, fi, f, a, cell, h1, h2, h3, h4, h5, h6, h7, -⟩ := h
  have he : (Term.static C n d).eval args s none [] s = some v := by
    simp [Term.eval, State.fieldNamed?, h1, h2, h4, h5, h6, h7]
  simp only [Cond.before, Cond.holds, Cond.value, he]
  cases v <;> simp_all [Value.isRef]
theorem vx_isRefq {C n d : String} {A : Nat → Prop} {s : State} {args : Array Value} (h : va_Zq C n d A s s.heap) : (Cond.isRef (.static C n d)).before args s = true := by
  rcases h with h | ⟨t, h⟩
  · exact vx_isRef h rfl
  · exact vx_isRef h rfl
/-- the same frame, seen from here: as if the method were called anew in this heap -/
theorem vx_rebase {T : State} (X : Stand p l e R s m args below meth c T locs cells slots) {R' : Room} (hf : R'.frames ≤ R.frames) (hl : R'.locals ≤ R.locals) (hc : cells + R'.cells ≤ R.cells) (hs : slots + R'.slots ≤ R.slots) :
    Stand p l e R' ((T.setVm s.vm).setFrames (.invoking m args :: below)) m args below meth c T [] 0 0 := by
  have htop : (T.setVm s.vm).topJava?.isSome := X.here.top
  have hF : ((T.setVm s.vm).setFrames (.invoking m args :: below)).frames = .invoking m args :: below := State.frames_setFrames _ (State.cur_lt_of_top htop)
  obtain ⟨g₀, hg0⟩ := Option.isSome_iff_exists.mp htop
  obtain ⟨r, hr⟩ := State.topJava?_eq_some.mp hg0
  have hl9 : e.platform.stackLimits (T.setVm s.vm).me = e.platform.stackLimits s.me := X.limits
  have hb9 : (T.setVm s.vm).me.stackBytes = s.me.stackBytes := X.bytes
  refine ⟨X.admits, X.cas, X.clock, hF, ?_, X.hears, X.method, X.code, X.here, X.tail, X.warmed, ?_, ?_, ?_⟩
  · have h := X.room
    have hU : ((T.setVm s.vm).setFrames (.invoking m args :: below)).localsInUse = s.localsInUse := by
      rw [State.localsInUse_invoking hF (meth := meth) (c := c) X.method X.code, State.localsInUse_invoking X.frames X.method X.code]
    simp only [State.hasRoom, Bool.and_eq_true, decide_eq_true_eq] at h ⊢
    obtain ⟨⟨⟨⟨h1, h2, h3, h4, h5, h6⟩, h7⟩, h8⟩, h9⟩ := h
    rw [X.frames, List.length_cons] at h2 h3
    have q1 := X.heapSize
    have q2 := X.used
    simp only [hF, hU, List.length_cons, State.stackLimits_setFrames, State.stackBytes_setFrames, hl9, hb9]
    refine ⟨⟨⟨⟨by omega, by omega, by omega, by omega, by omega, h6⟩, ?_⟩, ?_⟩, X.book⟩
    · show T.heap.size + R'.cells ≤ e.platform.maxCells
      omega
    · show T.slotsUsed + R'.slots ≤ e.platform.maxSlots
      omega
  · rw [State.stackLimits_setFrames]; rfl
  · rw [State.stackBytes_setFrames]; rfl
  · refine ⟨?_, Nat.le_refl _, Nat.le_refl _, ?_, ?_, fun a c9 h9 => ⟨c9, h9, rfl, rfl, fun _ _ => rfl⟩⟩
    · obtain ⟨t, ht, -⟩ := State.frames_cons hr
      show T.setVm s.vm = { ((T.setVm s.vm).setFrames (.invoking m args :: below)).setFrames (T.setVm s.vm).frames with heap := T.heap, slotsUsed := T.slotsUsed }
      rw [State.setFrames_setFrames, State.setFrames_self ht]
      rfl
    · show T.slotsUsed = T.slotsUsed + ((T.heap.toList.drop T.heap.size).map (·.slots.size)).sum
      rw [List.drop_eq_nil_of_le (Nat.le_of_eq Array.length_toList)]
      rfl
    · show ((T.heap.toList.drop T.heap.size).map (·.slots.size)).sum ≤ 0
      rw [List.drop_eq_nil_of_le (Nat.le_of_eq Array.length_toList)]
      exact Nat.le_refl _
/-- 'throw new E()': new; dup; invokespecial; athrow -/
theorem vx_throw0 {cc : ByteArray} {pc : Nat} (hexec : p.tables.exec = Jvm.exec) (hb : c.code = cc) (hl : l.stackTraces = false) {own cls : String} {names : List String} {ik ic mc ms : Nat} {A : Nat → Prop}
    (hown : s.vm.findClass own = some m.cls) (hcls : Bundle.fit cls = true) (hnames : ∀ n ∈ names, Bundle.fit n = true)
    (hk : (Cond.classLink own ik cls).before args s = true) (hini : (Cond.initialized cls).before args s = true) (hat : ∀ w ∈ vx_at0 own ic cls names, w.before args s = true)
    (hgood : ∀ w ∈ Cond.classLink own ik cls :: Cond.initialized cls :: vx_at0 own ic cls names, vx_ot w = true)
    (hU : vx_Zq Bundle.tN "UNASSIGNED_STACK" Bundle.steD A s s.heap) (hN : vx_Zq Bundle.tN "SUPPRESSED_SENTINEL" Bundle.listD A s s.heap) (hS : va_S A s.heap H locs) (hsize : ls.size = c.maxLocals)
    (d0 : decode cc pc = .ok (.new ik, 3)) (d3 : decode cc (pc + 3) = .ok (.dup, 1)) (d4 : decode cc (pc + 4) = .ok (.invokespecial ic, 3)) (d7 : decode cc (pc + 7) = .ok (.athrow, 1))
    (hout : ∀ x ∈ c.exceptionTable.toList, covers x (pc + 7) = false)
    (hRframes : names.length + 3 < R.frames) (hRlocals : (rest.map fun v => v.category).sum + (13 * (names.length + 1) + 42) ≤ R.locals) (hRcells : cells + 1 ≤ R.cells) (hRslots : slots + 6 ≤ R.slots) (hlocks : meth.locks = false)
    (hx : ∀ t : State, s.vm.Alike t.vm → H.size ≤ t.heap.size → (∀ q : Nat, q < H.size → t.heap[q]? = H[q]?) → XC cls s t)
    (hf : ∀ z ∈ locs, free z.base) (hc : cells + 1 ≤ mc) (hs : slots + 6 ≤ ms) :
    W p l e R s m args below meth c H locs cells slots (vx_MQ below Qc XC args s mc ms free) (F0 m pc ls rest) := by
  intro T hT X
  have htr : e.platform.stackTraces = false := (show e.platform.stackTraces = l.stackTraces by rw [X.admits.platform]).trans hl
  have Y := vx_rebase X (R' := { frames := R.frames, locals := R.locals, cells := 1, slots := 6 }) (Nat.le_refl _) (Nat.le_refl _) hRcells hRslots
  obtain ⟨s', hA⟩ : ∃ z, z = (T.setVm s.vm).setFrames (.invoking m args :: below) := ⟨_, rfl⟩
  rw [← hA] at Y
  have hvm : s'.vm = s.vm := by rw [hA]; rfl
  have hhp : s'.heap = H := by rw [hA]; exact hT
  have hW0 : s.WarmedH s'.vm := by rw [hvm]; exact State.WarmedH.refl s
  have hat' : ∀ w ∈ vx_at0 own ic cls names, w.before args s' = true := fun w hw => vx_ot_at hW0 hvm.symm (hgood w (List.mem_cons_of_mem _ (List.mem_cons_of_mem _ hw))) (hat w hw)
  have hk' : (Cond.classLink own ik cls).before args s' = true := vx_ot_at hW0 hvm.symm (hgood _ List.mem_cons_self) hk
  have hini' : (Cond.initialized cls).before args s' = true := vx_ot_at hW0 hvm.symm (hgood _ (List.mem_cons_of_mem _ List.mem_cons_self)) hini
  have hU' : vx_Zq Bundle.tN "UNASSIGNED_STACK" Bundle.steD A s' s'.heap := by rw [hhp]; exact vx_Zq.moved hW0.alike (hU.kept hS.2.1)
  have hN' : vx_Zq Bundle.tN "SUPPRESSED_SENTINEL" Bundle.listD A s' s'.heap := by rw [hhp]; exact vx_Zq.moved hW0.alike (hN.kept hS.2.1)
  have h : ∀ w ∈ Bundle.ownAtoms0 own ic cls names, w.before args s' = true := vx_own hat' (vx_isRefq hU'.1) (vx_isRefq hN'.1) hU'.2.word hN'.2.word
  have hown' : s'.vm.findClass own = some m.cls := by rw [hvm]; exact hown
  have hins : (Cond.instantiable cls 6).before args s' = true := h _ (by simp [Bundle.ownAtoms0])
  obtain ⟨vm₁, cX, kX, hfX, hkX, -, -, X₁, st1⟩ := Y.newCold hexec (own := own) (C := cls) (index := ik) (n := 6) hown' hk' hins hini'
    (g := F0 m pc ls rest) rfl (by rw [hb]; exact d0) (Nat.le_refl _) (Nat.le_refl _)
  generalize hT1 : (T.setVm vm₁).pushCell { cls := cX, slots := kX.instanceTypes.map defaultValue, vm := .none } = T1 at X₁ st1
  have hcat : (Value.ref T.heap.size).category = 1 := rfl
  have hcellA : T1.heap[T.heap.size]? = some (freshCell cX kX) := by rw [← hT1]; exact State.heap_pushCell_size _ _
  have d3' : decode c.code (pc + 3) = .ok (.dup, 1) := by rw [hb]; exact d3
  obtain ⟨U, hsteps, hrun, hend, hW, hsame, ce, hce, hO⟩ := X₁.ctorThrow0 hexec htr (own := own) (cls := cls) (names := names) (ic := ic) hown' hcls hnames h (fun x hx => nomatch hx) hfX hkX hcellA (by rw [hhp, hT]; exact Nat.le_refl _)
    (g := { method := m, pc := pc + 4, locals := ls, stack := .ref T.heap.size :: .ref T.heap.size :: rest, locked := none }) rfl hsize rfl rfl (rest := rest) rfl
    (by rw [hb]; exact d4) (by rw [hb]; exact d7) hout hRframes (by simp only [List.map_cons, List.sum_cons, hcat]; omega) hlocks
  obtain ⟨f1, f2⟩ := vx_frame hsame
  rw [hhp] at f1 f2
  have hWs : s.WarmedH U.vm := State.WarmedH.trans hW0 hW
  have hcl : s.vm.findClass cls = some ce.cls := by
    have h9 := hO.cls
    rw [hvm] at h9
    exact h9
  have hall : s.sameButNew ({ U with vm := s.vm } : State) locs mc ms := by
    subst hA
    obtain ⟨e1, e2⟩ := hsame
    rw [State.setFrames_setFrames] at e1
    have h2 : (T.setVm s.vm).sameButNew ({ U with vm := s.vm } : State) [] (0 + 1) (0 + 6) := ⟨e1, e2⟩
    have h3 := X.same.trans h2
    rw [List.append_nil] at h3
    exact h3.mono hc hs
  refine ⟨U, ?_, .threw T.heap.size, hrun, hend, Or.inr ⟨T.heap.size, rfl, cls, ce, locs, hx U hWs.alike f1 (fun q hq => f2 q hq (fun z hz => nomatch hz)), hce, hO.vm, hcl, hWs, hall, hf⟩⟩
  refine st1 _ ?_
  show Steps p.tables e below (T1.setTop { method := m, pc := pc + 3, locals := ls, stack := .ref T.heap.size :: rest, locked := none }) _
  jvm_step X₁.here [X₁.here.top, hexec, d3', Value.category]
  exact hsteps
/-- 'throw new E("text")': new; dup; ldc; invokespecial; athrow -/
theorem vx_throwS {cc : ByteArray} {pc : Nat} (hexec : p.tables.exec = Jvm.exec) (hb : c.code = cc) (hl : l.stackTraces = false) {own cls text : String} {names : List String} {ik is ic mc ms sa : Nat} {A : Nat → Prop}
    (hown : s.vm.findClass own = some m.cls) (hcls : Bundle.fit cls = true) (hnames : ∀ n ∈ names, Bundle.fit n = true)
    (hk : (Cond.classLink own ik cls).before args s = true) (hini : (Cond.initialized cls).before args s = true) (hstr : vk_R own is text sa s) (hat : ∀ w ∈ vx_atS own ic cls names, w.before args s = true)
    (hgood : ∀ w ∈ Cond.classLink own ik cls :: Cond.initialized cls :: vx_atS own ic cls names, vx_ot w = true)
    (hU : vx_Zq Bundle.tN "UNASSIGNED_STACK" Bundle.steD A s s.heap) (hN : vx_Zq Bundle.tN "SUPPRESSED_SENTINEL" Bundle.listD A s s.heap) (hS : va_S A s.heap H locs) (hsize : ls.size = c.maxLocals)
    (d0 : decode cc pc = .ok (.new ik, 3)) (d3 : decode cc (pc + 3) = .ok (.dup, 1)) (d4 : decode cc (pc + 4) = .ok (.ldc is, 2)) (d6 : decode cc (pc + 6) = .ok (.invokespecial ic, 3)) (d9 : decode cc (pc + 9) = .ok (.athrow, 1))
    (hout : ∀ x ∈ c.exceptionTable.toList, covers x (pc + 9) = false)
    (hRframes : names.length + 3 < R.frames) (hRlocals : (rest.map fun v => v.category).sum + (13 * (names.length + 1) + 43) ≤ R.locals) (hRcells : cells + 1 ≤ R.cells) (hRslots : slots + 6 ≤ R.slots) (hlocks : meth.locks = false)
    (hx : ∀ t : State, s.vm.Alike t.vm → H.size ≤ t.heap.size → (∀ q : Nat, q < H.size → t.heap[q]? = H[q]?) → XC cls s t)
    (hf : ∀ z ∈ locs, free z.base) (hc : cells + 1 ≤ mc) (hs : slots + 6 ≤ ms) :
    W p l e R s m args below meth c H locs cells slots (vx_MQ below Qc XC args s mc ms free) (F0 m pc ls rest) := by
  intro T hT X
  have htr : e.platform.stackTraces = false := (show e.platform.stackTraces = l.stackTraces by rw [X.admits.platform]).trans hl
  have Y := vx_rebase X (R' := { frames := R.frames, locals := R.locals, cells := 1, slots := 6 }) (Nat.le_refl _) (Nat.le_refl _) hRcells hRslots
  obtain ⟨s', hA⟩ : ∃ z, z = (T.setVm s.vm).setFrames (.invoking m args :: below) := ⟨_, rfl⟩
  rw [← hA] at Y
  have hvm : s'.vm = s.vm := by rw [hA]; rfl
  have hhp : s'.heap = H := by rw [hA]; exact hT
  have hW0 : s.WarmedH s'.vm := by rw [hvm]; exact State.WarmedH.refl s
  have hat' : ∀ w ∈ vx_atS own ic cls names, w.before args s' = true := fun w hw => vx_ot_at hW0 hvm.symm (hgood w (List.mem_cons_of_mem _ (List.mem_cons_of_mem _ hw))) (hat w hw)
  have hk' : (Cond.classLink own ik cls).before args s' = true := vx_ot_at hW0 hvm.symm (hgood _ List.mem_cons_self) hk
  have hini' : (Cond.initialized cls).before args s' = true := vx_ot_at hW0 hvm.symm (hgood _ (List.mem_cons_of_mem _ List.mem_cons_self)) hini
  have hU' : vx_Zq Bundle.tN "UNASSIGNED_STACK" Bundle.steD A s' s'.heap := by rw [hhp]; exact vx_Zq.moved hW0.alike (hU.kept hS.2.1)
  have hN' : vx_Zq Bundle.tN "SUPPRESSED_SENTINEL" Bundle.listD A s' s'.heap := by rw [hhp]; exact vx_Zq.moved hW0.alike (hN.kept hS.2.1)
  have h : ∀ w ∈ Bundle.ownAtoms own ic cls names, w.before args s' = true := vx_own hat' (vx_isRefq hU'.1) (vx_isRefq hN'.1) hU'.2.word hN'.2.word
  have hown' : s'.vm.findClass own = some m.cls := by rw [hvm]; exact hown
  have hins : (Cond.instantiable cls 6).before args s' = true := h _ (by simp [Bundle.ownAtoms])
  obtain ⟨vm₁, cX, kX, hfX, hkX, -, -, X₁, st1⟩ := Y.newCold hexec (own := own) (C := cls) (index := ik) (n := 6) hown' hk' hins hini'
    (g := F0 m pc ls rest) rfl (by rw [hb]; exact d0) (Nat.le_refl _) (Nat.le_refl _)
  generalize hT1 : (T.setVm vm₁).pushCell { cls := cX, slots := kX.instanceTypes.map defaultValue, vm := .none } = T1 at X₁ st1
  have hcat : (Value.ref T.heap.size).category = 1 := rfl
  have hcellA : T1.heap[T.heap.size]? = some (freshCell cX kX) := by rw [← hT1]; exact State.heap_pushCell_size _ _
  have d3' : decode c.code (pc + 3) = .ok (.dup, 1) := by rw [hb]; exact d3
  have d4' : decode c.code (pc + 4) = .ok (.ldc is, 2) := by rw [hb]; exact d4
  have hstr' : vk_R own is text sa s' := vk_R.warm hW0 hstr
  obtain ⟨U, hsteps, hrun, hend, hW, hsame, ce, hce, hO⟩ := X₁.ctorThrowS hexec htr (own := own) (cls := cls) (names := names) (ic := ic) hown' hcls hnames h (fun x hx => nomatch hx) hfX hkX hcellA (by rw [hhp, hT]; exact Nat.le_refl _) (msg := .ref sa) rfl
    (g := { method := m, pc := pc + 6, locals := ls, stack := .ref sa :: .ref T.heap.size :: .ref T.heap.size :: rest, locked := none }) rfl hsize rfl rfl (rest := rest) rfl
    (by rw [hb]; exact d6) (by rw [hb]; exact d9) hout hRframes (by simp only [List.map_cons, List.sum_cons, hcat]; omega) hlocks
  obtain ⟨f1, f2⟩ := vx_frame hsame
  rw [hhp] at f1 f2
  have hWs : s.WarmedH U.vm := State.WarmedH.trans hW0 hW
  have hcl : s.vm.findClass cls = some ce.cls := by
    have h9 := hO.cls
    rw [hvm] at h9
    exact h9
  have hall : s.sameButNew ({ U with vm := s.vm } : State) locs mc ms := by
    subst hA
    obtain ⟨e1, e2⟩ := hsame
    rw [State.setFrames_setFrames] at e1
    have h2 : (T.setVm s.vm).sameButNew ({ U with vm := s.vm } : State) [] (0 + 1) (0 + 6) := ⟨e1, e2⟩
    have h3 := X.same.trans h2
    rw [List.append_nil] at h3
    exact h3.mono hc hs
  refine ⟨U, ?_, .threw T.heap.size, hrun, hend, Or.inr ⟨T.heap.size, rfl, cls, ce, locs, hx U hWs.alike f1 (fun q hq => f2 q hq (fun z hz => nomatch hz)), hce, hO.vm, hcl, hWs, hall, hf⟩⟩
  refine st1 _ ?_
  show Steps p.tables e below (T1.setTop { method := m, pc := pc + 3, locals := ls, stack := .ref T.heap.size :: rest, locked := none }) _
  jvm_step X₁.here [X₁.here.top, hexec, d3', Value.category]
  exact X₁.ldcString hexec (own := own) (text := text) (index := is) (a := sa) hown' hstr'.1 hstr'.2
    (g := { method := m, pc := pc + 4, locals := ls, stack := .ref T.heap.size :: .ref T.heap.size :: rest, locked := none }) rfl d4' _ hsteps
/-- 'throw new E("text")', the text by a wide index -/
theorem vx_throwSW {cc : ByteArray} {pc : Nat} (hexec : p.tables.exec = Jvm.exec) (hb : c.code = cc) (hl : l.stackTraces = false) {own cls text : String} {names : List String} {ik is ic mc ms sa : Nat} {A : Nat → Prop}
    (hown : s.vm.findClass own = some m.cls) (hcls : Bundle.fit cls = true) (hnames : ∀ n ∈ names, Bundle.fit n = true)
    (hk : (Cond.classLink own ik cls).before args s = true) (hini : (Cond.initialized cls).before args s = true) (hstr : vk_R own is text sa s) (hat : ∀ w ∈ vx_atS own ic cls names, w.before args s = true)
    (hgood : ∀ w ∈ Cond.classLink own ik cls :: Cond.initialized cls :: vx_atS own ic cls names, vx_ot w = true)
    (hU : vx_Zq Bundle.tN "UNASSIGNED_STACK" Bundle.steD A s s.heap) (hN : vx_Zq Bundle.tN "SUPPRESSED_SENTINEL" Bundle.listD A s s.heap) (hS : va_S A s.heap H locs) (hsize : ls.size = c.maxLocals)
    (d0 : decode cc pc = .ok (.new ik, 3)) (d3 : decode cc (pc + 3) = .ok (.dup, 1)) (d4 : decode cc (pc + 4) = .ok (.ldc_w is, 3)) (d7 : decode cc (pc + 7) = .ok (.invokespecial ic, 3)) (d10 : decode cc (pc + 10) = .ok (.athrow, 1))
    (hout : ∀ x ∈ c.exceptionTable.toList, covers x (pc + 10) = false)
    (hRframes : names.length + 3 < R.frames) (hRlocals : (rest.map fun v => v.category).sum + (13 * (names.length + 1) + 43) ≤ R.locals) (hRcells : cells + 1 ≤ R.cells) (hRslots : slots + 6 ≤ R.slots) (hlocks : meth.locks = false)
    (hx : ∀ t : State, s.vm.Alike t.vm → H.size ≤ t.heap.size → (∀ q : Nat, q < H.size → t.heap[q]? = H[q]?) → XC cls s t)
    (hf : ∀ z ∈ locs, free z.base) (hc : cells + 1 ≤ mc) (hs : slots + 6 ≤ ms) :
    W p l e R s m args below meth c H locs cells slots (vx_MQ below Qc XC args s mc ms free) (F0 m pc ls rest) := by
  intro T hT X
  have htr : e.platform.stackTraces = false := (show e.platform.stackTraces = l.stackTraces by rw [X.admits.platform]).trans hl
  have Y := vx_rebase X (R' := { frames := R.frames, locals := R.locals, cells := 1, slots := 6 }) (Nat.le_refl _) (Nat.le_refl _) hRcells hRslots
  obtain ⟨s', hA⟩ : ∃ z, z = (T.setVm s.vm).setFrames (.invoking m args :: below) := ⟨_, rfl⟩
  rw [← hA] at Y
  have hvm : s'.vm = s.vm := by rw [hA]; rfl
  have hhp : s'.heap = H := by rw [hA]; exact hT
  have hW0 : s.WarmedH s'.vm := by rw [hvm]; exact State.WarmedH.refl s
  have hat' : ∀ w ∈ vx_atS own ic cls names, w.before args s' = true := fun w hw => vx_ot_at hW0 hvm.symm (hgood w (List.mem_cons_of_mem _ (List.mem_cons_of_mem _ hw))) (hat w hw)
  have hk' : (Cond.classLink own ik cls).before args s' = true := vx_ot_at hW0 hvm.symm (hgood _ List.mem_cons_self) hk
  have hini' : (Cond.initialized cls).before args s' = true := vx_ot_at hW0 hvm.symm (hgood _ (List.mem_cons_of_mem _ List.mem_cons_self)) hini
  have hU' : vx_Zq Bundle.tN "UNASSIGNED_STACK" Bundle.steD A s' s'.heap := by rw [hhp]; exact vx_Zq.moved hW0.alike (hU.kept hS.2.1)
  have hN' : vx_Zq Bundle.tN "SUPPRESSED_SENTINEL" Bundle.listD A s' s'.heap := by rw [hhp]; exact vx_Zq.moved hW0.alike (hN.kept hS.2.1)
  have h : ∀ w ∈ Bundle.ownAtoms own ic cls names, w.before args s' = true := vx_own hat' (vx_isRefq hU'.1) (vx_isRefq hN'.1) hU'.2.word hN'.2.word
  have hown' : s'.vm.findClass own = some m.cls := by rw [hvm]; exact hown
  have hins : (Cond.instantiable cls 6).before args s' = true := h _ (by simp [Bundle.ownAtoms])
  obtain ⟨vm₁, cX, kX, hfX, hkX, -, -, X₁, st1⟩ := Y.newCold hexec (own := own) (C := cls) (index := ik) (n := 6) hown' hk' hins hini'
    (g := F0 m pc ls rest) rfl (by rw [hb]; exact d0) (Nat.le_refl _) (Nat.le_refl _)
  generalize hT1 : (T.setVm vm₁).pushCell { cls := cX, slots := kX.instanceTypes.map defaultValue, vm := .none } = T1 at X₁ st1
  have hcat : (Value.ref T.heap.size).category = 1 := rfl
  have hcellA : T1.heap[T.heap.size]? = some (freshCell cX kX) := by rw [← hT1]; exact State.heap_pushCell_size _ _
  have d3' : decode c.code (pc + 3) = .ok (.dup, 1) := by rw [hb]; exact d3
  have d4' : decode c.code (pc + 4) = .ok (.ldc_w is, 3) := by rw [hb]; exact d4
  have hstr' : vk_R own is text sa s' := vk_R.warm hW0 hstr
  obtain ⟨U, hsteps, hrun, hend, hW, hsame, ce, hce, hO⟩ := X₁.ctorThrowS hexec htr (own := own) (cls := cls) (names := names) (ic := ic) hown' hcls hnames h (fun x hx => nomatch hx) hfX hkX hcellA (by rw [hhp, hT]; exact Nat.le_refl _) (msg := .ref sa) rfl
    (g := { method := m, pc := pc + 7, locals := ls, stack := .ref sa :: .ref T.heap.size :: .ref T.heap.size :: rest, locked := none }) rfl hsize rfl rfl (rest := rest) rfl
    (by rw [hb]; exact d7) (by rw [hb]; exact d10) hout hRframes (by simp only [List.map_cons, List.sum_cons, hcat]; omega) hlocks
  obtain ⟨f1, f2⟩ := vx_frame hsame
  rw [hhp] at f1 f2
  have hWs : s.WarmedH U.vm := State.WarmedH.trans hW0 hW
  have hcl : s.vm.findClass cls = some ce.cls := by
    have h9 := hO.cls
    rw [hvm] at h9
    exact h9
  have hall : s.sameButNew ({ U with vm := s.vm } : State) locs mc ms := by
    subst hA
    obtain ⟨e1, e2⟩ := hsame
    rw [State.setFrames_setFrames] at e1
    have h2 : (T.setVm s.vm).sameButNew ({ U with vm := s.vm } : State) [] (0 + 1) (0 + 6) := ⟨e1, e2⟩
    have h3 := X.same.trans h2
    rw [List.append_nil] at h3
    exact h3.mono hc hs
  refine ⟨U, ?_, .threw T.heap.size, hrun, hend, Or.inr ⟨T.heap.size, rfl, cls, ce, locs, hx U hWs.alike f1 (fun q hq => f2 q hq (fun z hz => nomatch hz)), hce, hO.vm, hcl, hWs, hall, hf⟩⟩
  refine st1 _ ?_
  show Steps p.tables e below (T1.setTop { method := m, pc := pc + 3, locals := ls, stack := .ref T.heap.size :: rest, locked := none }) _
  jvm_step X₁.here [X₁.here.top, hexec, d3', Value.category]
  exact X₁.ldcStringW hexec (own := own) (text := text) (index := is) (a := sa) hown' hstr'.1 hstr'.2
    (g := { method := m, pc := pc + 4, locals := ls, stack := .ref T.heap.size :: .ref T.heap.size :: rest, locked := none }) rfl d4' _ hsteps
end Ends
section Bodies
variable {l : Launch}
theorem vx_ofW {y : MethodName} {ws ws' : List Cond} {rm : Room} {Pc : Array Value → State → Prop} {Qc : Array Value → State → Outcome → State → Prop} {XC : String → State → State → Prop} {mc ms : Nat} {free : Addr → Prop} {cc : ByteArray} {maxL : Nat} {ret : Option FieldType}
    (hy : plainName y.cls = true) (hw : ws = Cond.code y cc maxL ret :: ws')
    (body : ∀ p e s m args below meth c s₁, BodyLoose p l y (headSpec ws rm) cc maxL ret e s m args below meth c s₁ → c.maxLocals = maxL → (∀ x ∈ c.exceptionTable.toList, False) → Pc args s →
      W p l e (headSpec ws rm).room s m args below meth c s.heap [] 0 0 (vx_MQ below Qc XC args s mc ms free) (entryFrame m args maxL)) : vx_Met l y ws rm Pc Qc XC mc ms free := by
  refine MetFree.of_bodyS (code := cc) (maxLocals := maxL) (ret := ret) hy ?_ ?_
  · intro args s m h hn
    obtain ⟨meth, c, h1, h2, h3, h4, h5, h6, -, -⟩ := Cond.code_spec hn (atoms_spec (ws := ws) h _ (by rw [hw]; exact List.mem_cons_self))
    exact ⟨meth, c, h1, h2, h3, h4, h5, h6⟩
  · intro p e s m args below meth c s₁ B hml hP _
    have hh0 : s₁.heap = s.heap := by rw [B.state]; rfl
    have ht : ∀ x ∈ c.exceptionTable.toList, False := by
      obtain ⟨meth9, c9, h1, h2, -, -, -, -, h7, -⟩ := Cond.code_spec B.named (atoms_spec (ws := ws) B.pre _ (by rw [hw]; exact List.mem_cons_self))
      cases Option.some.inj (h1.symm.trans B.method)
      cases Option.some.inj (h2.symm.trans (Stand.of_body B).code)
      intro x hx
      rw [Array.isEmpty_iff.mp h7] at hx
      cases hx
    obtain ⟨t, a1, o, b1, b2, b3⟩ := body p e s m args below meth c s₁ B hml ht hP s₁ hh0 (Stand.of_body B)
    exact ⟨t, o, a1, b1, b2, b3⟩
/-- the table of a body with handlers -/
theorem vx_table {p : Program} {x y : MethodName} {S : Spec} {cc bytes : ByteArray} {maxL maxL' : Nat} {ret ret' : Option FieldType} {e : Env} {s s₁ : State} {m : MethodId} {args : Array Value} {below : List Frame} {meth : Method} {c : Code} {hh : List (Nat × Nat × Nat × Nat)}
    (B : BodyLoose p l y S cc maxL ret e s m args below meth c s₁) (h : (Cond.codeWith y bytes maxL' ret' hh).before args s = true) : c.exceptionTable.toList = tableOf hh := by
  obtain ⟨m9, meth9, c9, hn9, h1, h2, -, -, h6, -⟩ := Cond.codeWith_spec h
  cases Option.some.inj (hn9.symm.trans B.named)
  cases Option.some.inj (h1.symm.trans B.method)
  cases Option.some.inj (h2.symm.trans (Stand.of_body B).code)
  rw [← h6, table_eq]
end Bodies
end VXA
/-! ===== END ===== -/
/-! ===== BEGIN a static call of a method with an exception table ===== -/
section VXS
variable {p : Program} {l : Launch} {e : Env} {R : Room} {s : State} {m : MethodId} {args : Array Value} {below : List Frame} {meth : Method} {c : Code} {T : State} {H : Heap} {locs : List Loc} {cells slots : Nat}
abbrev vx_CSW (R : Room) (s : State) (args : Array Value) (own : String) (index : Nat) (y : MethodName) (bytes : ByteArray) (maxL : Nat) (ret : Option FieldType) (hh : List (Nat × Nat × Nat × Nat)) (ws : List Cond) (rm : Room) (mc ms n : Nat) : Prop :=
  (rm.cells = mc ∧ rm.slots = ms ∧ rm.frames + 1 ≤ R.frames ∧ 8 + (maxL + 11) + rm.locals ≤ R.locals ∧ (∀ w ∈ ws, ∀ (a' : Array Value) (U : State), s.WarmedH U.vm → w.before a' U = true) ∧ Cond.codeWith y bytes maxL ret hh ∈ ws) ∧
  (Cond.codeWith y bytes maxL ret hh).before args s = true ∧ (Cond.initialized y.cls).before args s = true ∧ (y.cls ≠ "java/lang/invoke/MethodHandle" ∧ y.cls ≠ "java/lang/invoke/VarHandle") ∧
  (∀ sig, parseMethodDescriptor y.desc = some sig → n = sig.parameters.length) ∧ (Cond.methodLink own index y).before args s = true ∧ (Cond.static y).before args s = true
theorem vx_cwSW {own : String} {index maxL mc ms : Nat} {y : MethodName} {bytes : ByteArray} {ret : Option FieldType} {hh : List (Nat × Nat × Nat × Nat)} {Ts ws ws' : List Cond} {rm : Room} (n : Nat) (ht : ∀ w ∈ Ts, w.before args s = true) (hT : GoodIn Ts (va_wsS own index y ws)) (hw : ws = Cond.codeWith y bytes maxL ret hh :: ws') (hrc : rm.cells = mc) (hrs : rm.slots = ms)
    (hd : y.cls ≠ "java/lang/invoke/MethodHandle" ∧ y.cls ≠ "java/lang/invoke/VarHandle" ∧ (parseMethodDescriptor y.desc).map (fun d => d.parameters.length) = some n) (hR : rm.frames + 1 ≤ R.frames ∧ 8 + (maxL + 11) + rm.locals ≤ R.locals) :
    vx_CSW R s args own index y bytes maxL ret hh ws rm mc ms n := by
  have ok : ∀ w ∈ va_wsS own index y ws, w.before args s = true := fun w h => ht w (hT w h).1
  have hG : GoodIn Ts ws := fun w h => hT w (by unfold va_wsS; exact List.mem_append_right _ h)
  have hc : Cond.codeWith y bytes maxL ret hh ∈ ws := by rw [hw]; exact List.mem_cons_self
  refine ⟨⟨hrc, hrs, hR.1, hR.2, pay_in ht hG, hc⟩, ht _ (hG _ hc).1, ok _ (by simp [va_wsS]), ⟨hd.1, hd.2.1⟩, fun sig h => ?_, ok _ (by simp [va_wsS]), ok _ (by simp [va_wsS])⟩
  have h2 := hd.2.2
  rw [h] at h2
  exact (Option.some.inj h2).symm
theorem vx_callSW (X : Stand p l e R s m args below meth c T locs cells slots) (hexec : p.tables.exec = Jvm.exec) {own : String} {index : Nat} {y : MethodName} {bytes : ByteArray} {maxL : Nat} {ret : Option FieldType} {hh : List (Nat × Nat × Nat × Nat)}
    (hown : s.vm.findClass own = some m.cls) (hlink : (Cond.methodLink own index y).before args s = true) (hstat : (Cond.static y).before args s = true) (hinit : (Cond.initialized y.cls).before args s = true)
    (hcode : (Cond.codeWith y bytes maxL ret hh).before args s = true) (hy : y.cls ≠ "java/lang/invoke/MethodHandle" ∧ y.cls ≠ "java/lang/invoke/VarHandle")
    {W9 : Nat} {Pre : Pt → Array Value → Prop} {Post : Pt → Array Value → Option Value → Pt → Prop} (hK : Back l R p e below s args y 3 W9 Pre Post)
    {g : JFrame} (hg : g.method = m) (hsize : g.locals.size = c.maxLocals) {argsL rest : List Value} (hlen : ∀ sig, parseMethodDescriptor y.desc = some sig → argsL.length = sig.parameters.length)
    (hstack : g.stack = argsL.reverse ++ rest) (hW : 2 * g.monitorRoom + (rest.map fun v => v.category).sum ≤ W9) (hdg : decode c.code g.pc = .ok (.invokestatic index, 3))
    (hpre : ∀ vm₁, s.WarmedH vm₁ → Pre ⟨T.setVm vm₁, locs, cells, slots⟩ argsL.toArray) :
    ∃ (v : Option Value) (vm₁ : Vm) (B : Pt), s.WarmedH vm₁ ∧ Stand p l e R s m args below meth c B.U B.locs B.cells B.slots ∧ Post ⟨T.setVm vm₁, locs, cells, slots⟩ argsL.toArray v B ∧
      ∀ target, Steps p.tables e below (B.U.setTop { g with pc := g.pc + 3, stack := v.toList ++ rest }) target → Steps p.tables e below (T.setTop g) target := by
  obtain ⟨mk, methM, cM, hnamed, hmethM, -, -, -, -, -, -, hsigM⟩ := Cond.codeWith_spec hcode
  have hstatic : methM.isStatic = true := Cond.static_spec hnamed hmethM hstat
  obtain ⟨kP, hkP, -⟩ := className_of_methodNamed hnamed
  have hinitP : kP.init = .initialized := Cond.initialized_spec (findClass_of_methodNamed hnamed) hkP hinit
  obtain ⟨vm₁, X₁, hstep₁⟩ := X.invokestatic hexec hown hlink hnamed hmethM hstatic hkP hinitP hy (g := g) hg (argsL := argsL) (rest := rest) (hlen _ hsigM) hstack hdg
  obtain ⟨v, B, X', hpost, hsteps⟩ := hK m meth c ⟨T.setVm vm₁, locs, cells, slots⟩ { g with stack := rest } (.invokestatic index) mk argsL.toArray X₁ hg hsize hdg hW (X₁.named hnamed) (hpre vm₁ X₁.warmed)
  exact ⟨v, vm₁, B, X₁.warmed, X', hpost, fun target h => hstep₁ _ fun acts => by rw [doInvoke_state]; exact hsteps.trans h⟩
theorem vx_runSW {y : MethodName} {bytes cc : ByteArray} {maxL nL mc ms n index : Nat} {ret : Option FieldType} {hh : List (Nat × Nat × Nat × Nat)} {ws : List Cond} {rm : Room} {Pc : Array Value → State → Prop} {Qc : Array Value → State → Outcome → State → Prop} {free : Addr → Prop} {Ts : List Cond} {own : String} {As rest : List Value} {g : JFrame}
    (S : CallFix p m c cc nL s args Ts own) (hM : Met l y ws rm Pc Qc mc ms free) (cw : vx_CSW R s args own index y bytes maxL ret hh ws rm mc ms n) (hp : PreS s H Pc As)
    (hg : g.method = m) (hn : As.length = n) (hsize : g.locals.size = nL) (hstack : g.stack = As.reverse ++ rest) (hW : 2 * g.monitorRoom + (rest.map fun v => v.category).sum ≤ 8) (hdg : decode cc g.pc = .ok (.invokestatic index, 3)) (hf : cells + mc ≤ R.cells ∧ slots + ms ≤ R.slots) :
    va_Run p l e R s m args below meth c H locs cells slots mc ms g rest (Qc As.toArray) (free) := by
  obtain ⟨⟨hrc, hrs, hfr, hlo, hws, hcw⟩, hcode, hini, hy, hlen, hl, hstt⟩ := cw
  have hK : Back l R p e below s args y 3 8 (PreOf R mc ms Pc) (PostOf Qc mc ms free) := va_backW (hh := hh) (bytes := bytes) (maxL := maxL) (ret := ret) hM hp.1 hrc hrs hfr hlo hws hcw (fun a' U hW => word_at hW (Or.inl (by first | rfl | simp [Cond.onTables, Cond.keeps, Cond.steady])) hini)
  obtain ⟨hx, hb, hml, ho, -⟩ := S
  intro T hT X
  obtain ⟨v, vm₁, ⟨U', l2, c2, s2⟩, hW₁, X', ⟨g', mk, t, L, e1, e2, hq, h1, hL, h2, h3⟩, st⟩ := vx_callSW X hx (hh := hh) (bytes := bytes) (maxL := maxL) (ret := ret) ho hl hstt hini hcode hy hK hg (hsize.trans hml.symm) (argsL := As) (rest := rest) (fun sig h => hn.trans (hlen sig h)) hstack hW (by rw [hb]; exact hdg)
    (fun vm₁ hW₁ => ⟨hf.1, hf.2, hp.2 (T.setVm vm₁) hT hW₁⟩)
  dsimp only [Pt.U, Pt.locs, Pt.cells, Pt.slots] at X' e1 e2 h1 h2 h3 st
  subst h1; subst h2; subst h3
  exact ⟨v, (T.setVm vm₁).calling g' mk As.toArray, t, U', L, hT, X', hL, e1, e2, hq, st⟩
/-- not caught here, past rows that name other classes: it goes on to the caller -/
theorem vx_outP {p : Program} {l : Launch} {e : Env} {R : Room} {s : State} {m : MethodId} {args : Array Value} {below : List Frame} {meth : Method} {c : Code} {H : Heap} {locs : List Loc} {cells slots : Nat} {free : Addr → Prop} {ls : Array Slot} {rest : List Value} {Qc : Array Value → State → Outcome → State → Prop} {XC : String → State → State → Prop}
    {pc : Nat} {own E : String} {ce : Cell} {q : Addr} {mc ms : Nat} (hown : s.vm.findClass own = some m.cls) (hlocks : meth.locks = false)
    (hpass : ∀ z ∈ c.exceptionTable.toList, covers z pc = false ∨ (z.catchType ≠ 0 ∧ ∃ nm : String, (Cond.classLink own z.catchType nm).before args s = true ∧ va_Nc E nm s)) (hcell : H[q]? = some ce) (hv : ce.vm = .none) (hcl : s.vm.findClass E = some ce.cls)
    (hx : ∀ t : State, t.heap = H → s.vm.Alike t.vm → XC E s t) (hf : ∀ z ∈ locs, free z.base) (hc : cells ≤ mc) (hs : slots ≤ ms) :
    vx_W p l e R s m args below meth c H locs cells slots (vx_MQ below Qc XC args s mc ms free) (F0 m pc ls rest) q := by
  intro T hT X
  have hpl : e.platform.magicAccessors = ({} : Platform).magicAccessors := by rw [X.admits.platform]
  obtain ⟨vm', hW', X', st⟩ := X.outThrough hlocks q (g := F0 m pc ls rest) rfl rfl rfl (cell := ce) (by rw [hT]; exact hcell) (by rw [hv]; rfl)
    (by obtain ⟨k9, h9, -⟩ := Vm.findClass_spec hcl; exact ⟨k9, h9⟩) (fun z hz => by
      rcases hpass z hz with h | ⟨hz0, nm, hl1, hn1⟩
      · exact Or.inl h
      · obtain ⟨c6, hc6, hcl6⟩ := Cond.classLink_spec hown hl1 e.platform hpl
        obtain ⟨a8, b8, h1, h2, h3⟩ := hn1
        cases Option.some.inj (h1.symm.trans hcl)
        cases Option.some.inj (h2.symm.trans hc6)
        exact Or.inr ⟨hz0, _, hcl6, h3⟩)
  obtain ⟨g₀, hfr⟩ := X'.frames_eq
  have hcell9 : ((T.setVm vm').setFrames (.throwing q :: below)).heap[q]? = some ce := by
    show T.heap[q]? = some ce
    rw [hT]; exact hcell
  have hend : Ended ((T.setVm vm').setFrames (.throwing q :: below)) below (.threw q) := State.frames_setFrames _ (State.cur_lt_of_frames hfr)
  refine ⟨(T.setVm vm').setFrames (.throwing q :: below), ?_, .threw q, X'.here.running, hend, Or.inr ⟨q, rfl, E, ce, locs, hx _ hT (X'.ends _).1.alike, hcell9, hv, hcl, (X'.ends _).1, (X'.ends _).2.mono hc hs, hf⟩⟩
  rw [X.pushThrowing_eq]
  exact st
/-- a thing of a world lies in the heap -/
theorem vx_lt {D : va_G} {cl : List vw_C} {ws : va_W} {H1 : Heap} (h : va_P D cl ws H1) {k : Nat} {q : Nat × va_E} (hk : ws[k]? = some q) : q.1 < H1.size := (h k q hk).lt
end VXS
/-! ===== END ===== -/
/-! ===== BEGIN methods with a table of their own: called by a name, returning or throwing ===== -/
section VXH
/-! vx_backW, vx_callVX, vx_callSX, vx_callVW, vx_runVW, vx_runVX, vx_runSX, vx_ofWH follow the same proofs as their sisters above (Free/Laws.lean, Shelf42/LK1.lean); vx_outP calls Shelf42/NT130.lean (outThrough). -/
section
variable {l : Launch} {R : Room} {p : Program} {e : Env} {below : List Frame} {s : State} {sargs : Array Value} {y : MethodName} {len W9 : Nat}
theorem vx_backW {ws : List Cond} {rm : Room} {Pc : Array Value → State → Prop} {Qc : Array Value → State → Outcome → State → Prop} {XC : String → State → State → Prop} {mc ms : Nat} {free : Addr → Prop} {bytes : ByteArray} {maxL : Nat} {ret : Option FieldType} {hh : List (Nat × Nat × Nat × Nat)}
    (hM : vx_Met l y ws rm Pc Qc XC mc ms free) (hblind : FrameBlind Pc) (hrc : rm.cells = mc) (hrs : rm.slots = ms)
    (hframes : rm.frames + 1 ≤ R.frames) (hlocals : W9 + (maxL + 11) + rm.locals ≤ R.locals)
    (hws : ∀ w ∈ ws, ∀ a' U, s.WarmedH U.vm → w.before a' U = true) (hcode : Cond.codeWith y bytes maxL ret hh ∈ ws) (hinit : ∀ a' U, s.WarmedH U.vm → (Cond.initialized y.cls).before a' U = true) :
    vx_Back l R p e below s sargs y len W9 (PreOf R mc ms Pc) (PostOf Qc mc ms free) (vx_Post XC mc ms free) := by
  intro m meth c A g ig mk a X hg hsize hdg hW hn hp
  have h1 : (headSpec ws rm).pre.before a A.U = true := atoms_intro fun w hw => hws w hw _ _ X.warmed
  have h2 : (Cond.codeWith y bytes maxL ret hh).before a A.U = true := hws _ hcode _ _ X.warmed
  have h3 : (Cond.initialized y.cls).before a A.U = true := hinit _ _ X.warmed
  have h4 : A.cells + (headSpec ws rm).room.cells ≤ R.cells := by rw [show (headSpec ws rm).room.cells = mc from hrc]; exact hp.1
  have h5 : A.slots + (headSpec ws rm).room.slots ≤ R.slots := by rw [show (headSpec ws rm).room.slots = ms from hrs]; exact hp.2.1
  have hPc : Pc a (A.U.calling g mk a) := hblind _ _ _ _ hp.2.2
  obtain ⟨U, Ls, c0, s0⟩ := A
  dsimp only [Pt.U, Pt.locs, Pt.cells, Pt.slots] at h1 h2 h3 h4 h5 X hn hPc ⊢
  obtain ⟨m9, methY, cY, hn9, hmY, hcY, -, hlY, -⟩ := Cond.codeWith_spec h2
  cases Option.some.inj (hn9.symm.trans hn)
  obtain ⟨kY, hkY, -⟩ := className_of_methodNamed hn
  have hinitY : kY.init = .initialized := Cond.initialized_spec (findClass_of_methodNamed hn) hkY h3
  have h : At U g.method c below := by rw [hg]; exact X.here
  have hlocals9 : W9 + (maxL + 11) + (headSpec ws rm).room.locals ≤ R.locals := hlocals
  have happ : (headSpec ws rm).appliesLoose y e.platform (U.calling g mk a) = true :=
    Spec.appliesLoose_calling (g := g) h hdg hn hkY hinitY
      (X.room_calling (g := g) (R' := (headSpec ws rm).room) hsize hmY hcY hframes (by rw [hlY]; omega) h4 h5) h1
  obtain ⟨mid, hmid⟩ := h.above
  have hfr : (U.setTop g).frames = (.java g :: mid) ++ below := by rw [State.frames_setTop' g h.top, hmid]; rfl
  obtain ⟨o, s₂, hsteps, -, hend, hq⟩ := Steps.callFree hM p X.admits X.cas X.clock (acts := []) hfr happ hPc trivial
  have hq' : vx_Q Qc XC mc ms free a (U.calling g mk a) o s₂ := hq
  rw [State.frames_setTop' g h.top] at hend
  obtain ⟨g₀, hg0⟩ := Option.isSome_iff_exists.mp h.top
  obtain ⟨r, hr⟩ := State.topJava?_eq_some.mp hg0
  have hr' : (({ U with heap := s₂.heap, slotsUsed := s₂.slotsUsed } : State).setVm s₂.vm).frames = .java g₀ :: r := hr
  rcases hq' with ⟨hqc, L, hfe, hL⟩ | ⟨q, rfl, E, ce, L, hx, hce, hcv, hcl, hW₂, hsm, hL⟩
  · obtain ⟨⟨v, rfl⟩, hW₂, e2, q2, q3, q4, q5, q6⟩ := id hfe
    have e3 : s₂ = ({ (U.calling g mk a).setFrames s₂.frames with heap := s₂.heap, slotsUsed := s₂.slotsUsed } : State).setVm s₂.vm := by
      have : s₂ = ({ s₂ with vm := (U.calling g mk a).vm } : State).setVm s₂.vm := rfl
      rw [e2] at this
      exact this
    obtain ⟨c₂, i₂, len₂, hc₂, hd₂, hf₂⟩ := hend
    have hW' : U.WarmedH s₂.vm := hW₂
    have hcc : c₂ = c := by
      have h1 : s₂.code? g.method = U.code? g.method := by
        rw [State.code?_eq, State.code?_eq, hW'.alike.method?]
      exact Option.some.inj (hc₂.symm.trans (h1.trans h.code))
    subst hcc
    have hlen : len₂ = len := by rw [hdg] at hd₂; cases hd₂; rfl
    subst hlen
    have hs₂ : s₂ = (({ U with heap := s₂.heap, slotsUsed := s₂.slotsUsed } : State).setVm s₂.vm).setTop { g with pc := g.pc + len₂, stack := v.toList ++ g.stack } := by
      refine e3.trans ?_
      rw [hf₂, State.calling_eq h.top, State.setFrames_setFrames, State.setTop_of_frames _ hr', hr]
      rfl
    have hsame : U.sameButNew ({ U with heap := s₂.heap, slotsUsed := s₂.slotsUsed } : State) L mc ms := by
      refine ⟨?_, q2, q3, q4, q5, q6⟩
      obtain ⟨t, ht, -⟩ := State.frames_cons hr
      show ({ U with heap := s₂.heap, slotsUsed := s₂.slotsUsed } : State) = { U.setFrames U.frames with heap := s₂.heap, slotsUsed := s₂.slotsUsed }
      rw [State.setFrames_self ht]
    subst hg
    refine Or.inl ⟨v, ⟨(({ U with heap := s₂.heap, slotsUsed := s₂.slotsUsed } : State).setVm s₂.vm), Ls ++ L, c0 + mc, s0 + ms⟩,
      ⟨X.admits, X.cas, X.clock, X.frames, X.room, X.hears, X.method, X.code, (X.here.setHeapUsed s₂.heap s₂.slotsUsed).setVm hW'.alike, X.tail, State.WarmedH.trans X.warmed hW', X.limits, X.bytes, X.same.trans (hsame.setVm s.vm)⟩,
      ⟨g, mk, s₂, L, rfl, rfl, hqc, rfl, hL, rfl, rfl⟩, ?_⟩
    show Steps p.tables e below _ ((({ U with heap := s₂.heap, slotsUsed := s₂.slotsUsed } : State).setVm s₂.vm).setTop { g with pc := g.pc + len₂, stack := v.toList ++ g.stack })
    rw [← hs₂]
    exact hsteps
  · obtain ⟨e2, q2, q3, q4, q5, q6⟩ := id hsm
    have e3 : s₂ = ({ (U.calling g mk a).setFrames s₂.frames with heap := s₂.heap, slotsUsed := s₂.slotsUsed } : State).setVm s₂.vm := by
      have : s₂ = ({ s₂ with vm := (U.calling g mk a).vm } : State).setVm s₂.vm := rfl
      rw [e2] at this
      exact this
    have hf₂ : s₂.frames = .throwing q :: .java g :: U.frames.tail := hend
    have hW' : U.WarmedH s₂.vm := hW₂
    have hs₂ : s₂ = ((({ U with heap := s₂.heap, slotsUsed := s₂.slotsUsed } : State).setVm s₂.vm).setTop g).pushFrame (.throwing q) := by
      refine e3.trans ?_
      rw [hf₂, State.calling_eq h.top, State.setFrames_setFrames, State.pushFrame, State.frames_setTop _ hr', State.setTop_of_frames _ hr', State.setFrames_setFrames, hr]
      rfl
    have hsame : U.sameButNew ({ U with heap := s₂.heap, slotsUsed := s₂.slotsUsed } : State) L mc ms := by
      refine ⟨?_, q2, q3, q4, q5, q6⟩
      obtain ⟨t, ht, -⟩ := State.frames_cons hr
      show ({ U with heap := s₂.heap, slotsUsed := s₂.slotsUsed } : State) = { U.setFrames U.frames with heap := s₂.heap, slotsUsed := s₂.slotsUsed }
      rw [State.setFrames_self ht]
    subst hg
    refine Or.inr ⟨q, ⟨(({ U with heap := s₂.heap, slotsUsed := s₂.slotsUsed } : State).setVm s₂.vm), Ls ++ L, c0 + mc, s0 + ms⟩,
      ⟨X.admits, X.cas, X.clock, X.frames, X.room, X.hears, X.method, X.code, (X.here.setHeapUsed s₂.heap s₂.slotsUsed).setVm hW'.alike, X.tail, State.WarmedH.trans X.warmed hW', X.limits, X.bytes, X.same.trans (hsame.setVm s.vm)⟩,
      ⟨g, mk, s₂, L, E, ce, rfl, rfl, hx, hce, hcv, hcl, rfl, hL, rfl, rfl⟩, ?_⟩
    show Steps p.tables e below _ (((({ U with heap := s₂.heap, slotsUsed := s₂.slotsUsed } : State).setVm s₂.vm).setTop g).pushFrame (.throwing q))
    rw [← hs₂]
    exact hsteps
end
variable {p : Program} {l : Launch} {e : Env} {R : Room} {s : State} {m : MethodId} {args : Array Value} {below : List Frame} {meth : Method} {c : Code} {T : State} {H : Heap} {locs : List Loc} {cells slots : Nat}
theorem vx_callVX (X : Stand p l e R s m args below meth c T locs cells slots) (hexec : p.tables.exec = Jvm.exec) {own C : String} {index : Nat} {y : MethodName} {bytes : ByteArray} {maxL : Nat} {ret : Option FieldType} {hh : List (Nat × Nat × Nat × Nat)}
    (hown : s.vm.findClass own = some m.cls) (hlink : (Cond.methodLink own index y).before args s = true) (hinst : (Cond.instanceMethod y).before args s = true) (hsel : (Cond.selects C y y).before args s = true)
    (hcode : (Cond.codeWith y bytes maxL ret hh).before args s = true) (hy : y.cls ≠ "java/lang/invoke/MethodHandle" ∧ y.cls ≠ "java/lang/invoke/VarHandle")
    {W9 : Nat} {Pre : Pt → Array Value → Prop} {Post : Pt → Array Value → Option Value → Pt → Prop} {PostX : Pt → Array Value → Addr → Pt → Prop} (hK : vx_Back l R p e below s args y 3 W9 Pre Post PostX)
    {b : Addr} {cellB : Cell} (hcell : T.heap[b]? = some cellB) (hobj : cellB.vm.isStatics = false) (hcls : s.vm.findClass C = some cellB.cls)
    {g : JFrame} (hg : g.method = m) (hsize : g.locals.size = c.maxLocals) {argsL rest : List Value} (hlen : ∀ sig, parseMethodDescriptor y.desc = some sig → argsL.length = sig.parameters.length)
    (hstack : g.stack = argsL.reverse ++ .ref b :: rest) (hW : 2 * g.monitorRoom + (rest.map fun v => v.category).sum ≤ W9) (hdg : decode c.code g.pc = .ok (.invokevirtual index, 3))
    (hpre : ∀ vm₁, s.WarmedH vm₁ → Pre ⟨T.setVm vm₁, locs, cells, slots⟩ (Value.ref b :: argsL).toArray) :
    (∃ (v : Option Value) (vm₁ : Vm) (B : Pt), s.WarmedH vm₁ ∧ Stand p l e R s m args below meth c B.U B.locs B.cells B.slots ∧ Post ⟨T.setVm vm₁, locs, cells, slots⟩ (Value.ref b :: argsL).toArray v B ∧
      ∀ target, Steps p.tables e below (B.U.setTop { g with pc := g.pc + 3, stack := v.toList ++ rest }) target → Steps p.tables e below (T.setTop g) target) ∨
    (∃ (q : Addr) (vm₁ : Vm) (B : Pt), s.WarmedH vm₁ ∧ Stand p l e R s m args below meth c B.U B.locs B.cells B.slots ∧ PostX ⟨T.setVm vm₁, locs, cells, slots⟩ (Value.ref b :: argsL).toArray q B ∧
      Steps p.tables e below (T.setTop g) ((B.U.setTop { g with stack := rest }).pushFrame (.throwing q))) := by
  obtain ⟨mk, methM, hnamed, hmethM, hstM, habM⟩ := Cond.instanceMethod_spec hinst
  obtain ⟨m8, methM', cM, hn8, hmethM', -, -, -, -, -, -, hsigM⟩ := Cond.codeWith_spec hcode
  cases Option.some.inj (hn8.symm.trans hnamed)
  cases hmethM.symm.trans hmethM'
  obtain ⟨c2, r2, m2, q1, q2, q3, q4, kP, hkP, hkPi⟩ := Cond.selects_spec hsel
  cases hcls.symm.trans q1
  cases (State.methodFound?_of_named hnamed hy).symm.trans q2
  cases hnamed.symm.trans q3
  have hselP : selectMethod e.platform s.vm cellB.cls mk = .method mk := by rw [Launch.admits_selectMethod X.admits]; exact q4
  obtain ⟨vm₁, X₁, hstep₁⟩ := X.invokevirtual hexec hown hlink hnamed hmethM hstM hkP hkPi hy (a := b) (cell := cellB) hcell
    (fun z h => by rw [h] at hobj; cases hobj) hselP hmethM habM hkP hkPi (g := g) hg (argsL := argsL) (rest := rest) (hlen _ hsigM) hstack hdg
  rcases hK m meth c ⟨T.setVm vm₁, locs, cells, slots⟩ { g with stack := rest } (.invokevirtual index) mk (Value.ref b :: argsL).toArray X₁ hg hsize hdg hW (X₁.named hnamed) (hpre vm₁ X₁.warmed) with ⟨v, B, X', hpost, hsteps⟩ | ⟨q, B, X', hpost, hsteps⟩
  · exact Or.inl ⟨v, vm₁, B, X₁.warmed, X', hpost, fun target h => hstep₁ _ fun acts => by rw [doInvoke_state]; exact hsteps.trans h⟩
  · exact Or.inr ⟨q, vm₁, B, X₁.warmed, X', hpost, hstep₁ _ fun acts => by rw [doInvoke_state]; exact hsteps⟩
theorem vx_callSX (X : Stand p l e R s m args below meth c T locs cells slots) (hexec : p.tables.exec = Jvm.exec) {own : String} {index : Nat} {y : MethodName} {bytes : ByteArray} {maxL : Nat} {ret : Option FieldType} {hh : List (Nat × Nat × Nat × Nat)}
    (hown : s.vm.findClass own = some m.cls) (hlink : (Cond.methodLink own index y).before args s = true) (hstat : (Cond.static y).before args s = true) (hinit : (Cond.initialized y.cls).before args s = true)
    (hcode : (Cond.codeWith y bytes maxL ret hh).before args s = true) (hy : y.cls ≠ "java/lang/invoke/MethodHandle" ∧ y.cls ≠ "java/lang/invoke/VarHandle")
    {W9 : Nat} {Pre : Pt → Array Value → Prop} {Post : Pt → Array Value → Option Value → Pt → Prop} {PostX : Pt → Array Value → Addr → Pt → Prop} (hK : vx_Back l R p e below s args y 3 W9 Pre Post PostX)
    {g : JFrame} (hg : g.method = m) (hsize : g.locals.size = c.maxLocals) {argsL rest : List Value} (hlen : ∀ sig, parseMethodDescriptor y.desc = some sig → argsL.length = sig.parameters.length)
    (hstack : g.stack = argsL.reverse ++ rest) (hW : 2 * g.monitorRoom + (rest.map fun v => v.category).sum ≤ W9) (hdg : decode c.code g.pc = .ok (.invokestatic index, 3))
    (hpre : ∀ vm₁, s.WarmedH vm₁ → Pre ⟨T.setVm vm₁, locs, cells, slots⟩ argsL.toArray) :
    (∃ (v : Option Value) (vm₁ : Vm) (B : Pt), s.WarmedH vm₁ ∧ Stand p l e R s m args below meth c B.U B.locs B.cells B.slots ∧ Post ⟨T.setVm vm₁, locs, cells, slots⟩ argsL.toArray v B ∧
      ∀ target, Steps p.tables e below (B.U.setTop { g with pc := g.pc + 3, stack := v.toList ++ rest }) target → Steps p.tables e below (T.setTop g) target) ∨
    (∃ (q : Addr) (vm₁ : Vm) (B : Pt), s.WarmedH vm₁ ∧ Stand p l e R s m args below meth c B.U B.locs B.cells B.slots ∧ PostX ⟨T.setVm vm₁, locs, cells, slots⟩ argsL.toArray q B ∧
      Steps p.tables e below (T.setTop g) ((B.U.setTop { g with stack := rest }).pushFrame (.throwing q))) := by
  obtain ⟨mk, methM, cM, hnamed, hmethM, -, -, -, -, -, -, hsigM⟩ := Cond.codeWith_spec hcode
  have hstatic : methM.isStatic = true := Cond.static_spec hnamed hmethM hstat
  obtain ⟨kP, hkP, -⟩ := className_of_methodNamed hnamed
  have hinitP : kP.init = .initialized := Cond.initialized_spec (findClass_of_methodNamed hnamed) hkP hinit
  obtain ⟨vm₁, X₁, hstep₁⟩ := X.invokestatic hexec hown hlink hnamed hmethM hstatic hkP hinitP hy (g := g) hg (argsL := argsL) (rest := rest) (hlen _ hsigM) hstack hdg
  rcases hK m meth c ⟨T.setVm vm₁, locs, cells, slots⟩ { g with stack := rest } (.invokestatic index) mk argsL.toArray X₁ hg hsize hdg hW (X₁.named hnamed) (hpre vm₁ X₁.warmed) with ⟨v, B, X', hpost, hsteps⟩ | ⟨q, B, X', hpost, hsteps⟩
  · exact Or.inl ⟨v, vm₁, B, X₁.warmed, X', hpost, fun target h => hstep₁ _ fun acts => by rw [doInvoke_state]; exact hsteps.trans h⟩
  · exact Or.inr ⟨q, vm₁, B, X₁.warmed, X', hpost, hstep₁ _ fun acts => by rw [doInvoke_state]; exact hsteps⟩
theorem vx_callVW (X : Stand p l e R s m args below meth c T locs cells slots) (hexec : p.tables.exec = Jvm.exec) {own C : String} {index : Nat} {y : MethodName} {bytes : ByteArray} {maxL : Nat} {ret : Option FieldType} {hh : List (Nat × Nat × Nat × Nat)}
    (hown : s.vm.findClass own = some m.cls) (hlink : (Cond.methodLink own index y).before args s = true) (hinst : (Cond.instanceMethod y).before args s = true) (hsel : (Cond.selects C y y).before args s = true)
    (hcode : (Cond.codeWith y bytes maxL ret hh).before args s = true) (hy : y.cls ≠ "java/lang/invoke/MethodHandle" ∧ y.cls ≠ "java/lang/invoke/VarHandle")
    {W9 : Nat} {Pre : Pt → Array Value → Prop} {Post : Pt → Array Value → Option Value → Pt → Prop} (hK : Back l R p e below s args y 3 W9 Pre Post)
    {b : Addr} {cellB : Cell} (hcell : T.heap[b]? = some cellB) (hobj : cellB.vm.isStatics = false) (hcls : s.vm.findClass C = some cellB.cls)
    {g : JFrame} (hg : g.method = m) (hsize : g.locals.size = c.maxLocals) {argsL rest : List Value} (hlen : ∀ sig, parseMethodDescriptor y.desc = some sig → argsL.length = sig.parameters.length)
    (hstack : g.stack = argsL.reverse ++ .ref b :: rest) (hW : 2 * g.monitorRoom + (rest.map fun v => v.category).sum ≤ W9) (hdg : decode c.code g.pc = .ok (.invokevirtual index, 3))
    (hpre : ∀ vm₁, s.WarmedH vm₁ → Pre ⟨T.setVm vm₁, locs, cells, slots⟩ (Value.ref b :: argsL).toArray) :
    ∃ (v : Option Value) (vm₁ : Vm) (B : Pt), s.WarmedH vm₁ ∧ Stand p l e R s m args below meth c B.U B.locs B.cells B.slots ∧ Post ⟨T.setVm vm₁, locs, cells, slots⟩ (Value.ref b :: argsL).toArray v B ∧
      ∀ target, Steps p.tables e below (B.U.setTop { g with pc := g.pc + 3, stack := v.toList ++ rest }) target → Steps p.tables e below (T.setTop g) target := by
  obtain ⟨mk, methM, hnamed, hmethM, hstM, habM⟩ := Cond.instanceMethod_spec hinst
  obtain ⟨m8, methM', cM, hn8, hmethM', -, -, -, -, -, -, hsigM⟩ := Cond.codeWith_spec hcode
  cases Option.some.inj (hn8.symm.trans hnamed)
  cases hmethM.symm.trans hmethM'
  obtain ⟨c2, r2, m2, q1, q2, q3, q4, kP, hkP, hkPi⟩ := Cond.selects_spec hsel
  cases hcls.symm.trans q1
  cases (State.methodFound?_of_named hnamed hy).symm.trans q2
  cases hnamed.symm.trans q3
  have hselP : selectMethod e.platform s.vm cellB.cls mk = .method mk := by rw [Launch.admits_selectMethod X.admits]; exact q4
  obtain ⟨vm₁, X₁, hstep₁⟩ := X.invokevirtual hexec hown hlink hnamed hmethM hstM hkP hkPi hy (a := b) (cell := cellB) hcell
    (fun z h => by rw [h] at hobj; cases hobj) hselP hmethM habM hkP hkPi (g := g) hg (argsL := argsL) (rest := rest) (hlen _ hsigM) hstack hdg
  obtain ⟨v, B, X', hpost, hsteps⟩ := hK m meth c ⟨T.setVm vm₁, locs, cells, slots⟩ { g with stack := rest } (.invokevirtual index) mk (Value.ref b :: argsL).toArray X₁ hg hsize hdg hW (X₁.named hnamed) (hpre vm₁ X₁.warmed)
  exact ⟨v, vm₁, B, X₁.warmed, X', hpost, fun target h => hstep₁ _ fun acts => by rw [doInvoke_state]; exact hsteps.trans h⟩
abbrev vx_CVW (R : Room) (s : State) (args : Array Value) (own C : String) (index : Nat) (y : MethodName) (bytes : ByteArray) (maxL : Nat) (ret : Option FieldType) (hh : List (Nat × Nat × Nat × Nat)) (ws : List Cond) (rm : Room) (mc ms n : Nat) : Prop :=
  (rm.cells = mc ∧ rm.slots = ms ∧ rm.frames + 1 ≤ R.frames ∧ 8 + (maxL + 11) + rm.locals ≤ R.locals ∧ (∀ w ∈ ws, ∀ (a' : Array Value) (U : State), s.WarmedH U.vm → w.before a' U = true) ∧ Cond.codeWith y bytes maxL ret hh ∈ ws) ∧
  (Cond.codeWith y bytes maxL ret hh).before args s = true ∧ (Cond.initialized y.cls).before args s = true ∧ (y.cls ≠ "java/lang/invoke/MethodHandle" ∧ y.cls ≠ "java/lang/invoke/VarHandle") ∧
  (∀ sig, parseMethodDescriptor y.desc = some sig → n = sig.parameters.length) ∧ (Cond.methodLink own index y).before args s = true ∧ (Cond.instanceMethod y).before args s = true ∧ (Cond.selects C y y).before args s = true
theorem vx_cwVW {own C : String} {index maxL mc ms : Nat} {y : MethodName} {bytes : ByteArray} {ret : Option FieldType} {hh : List (Nat × Nat × Nat × Nat)} {Ts ws ws' : List Cond} {rm : Room} (n : Nat) (ht : ∀ w ∈ Ts, w.before args s = true) (hT : GoodIn Ts (wsV own index C y ws)) (hw : ws = Cond.codeWith y bytes maxL ret hh :: ws') (hrc : rm.cells = mc) (hrs : rm.slots = ms)
    (hd : y.cls = C ∧ y.cls ≠ "java/lang/invoke/MethodHandle" ∧ y.cls ≠ "java/lang/invoke/VarHandle" ∧ (parseMethodDescriptor y.desc).map (fun d => d.parameters.length) = some n) (hR : rm.frames + 1 ≤ R.frames ∧ 8 + (maxL + 11) + rm.locals ≤ R.locals) :
    vx_CVW R s args own C index y bytes maxL ret hh ws rm mc ms n := by
  obtain ⟨hC, hd⟩ := hd
  subst hC
  have ok : ∀ w ∈ wsV own index y.cls y ws, w.before args s = true := fun w h => ht w (hT w h).1
  have hG : GoodIn Ts ws := fun w h => hT w (by unfold wsV; exact List.mem_append_right _ h)
  have hc : Cond.codeWith y bytes maxL ret hh ∈ ws := by rw [hw]; exact List.mem_cons_self
  refine ⟨⟨hrc, hrs, hR.1, hR.2, pay_in ht hG, hc⟩, ht _ (hG _ hc).1, ok _ (by simp [wsV]), ⟨hd.1, hd.2.1⟩, fun sig h => ?_, ok _ (by simp [wsV]), ok _ (by simp [wsV]), ok _ (by simp [wsV])⟩
  have h2 := hd.2.2
  rw [h] at h2
  exact (Option.some.inj h2).symm
theorem vx_runVW {y : MethodName} {bytes cc : ByteArray} {maxL nL mc ms n index : Nat} {ret : Option FieldType} {hh : List (Nat × Nat × Nat × Nat)} {ws : List Cond} {rm : Room} {Pc : Array Value → State → Prop} {Qc : Array Value → State → Outcome → State → Prop} {free : Addr → Prop} {Ts : List Cond} {own C : String} {b : Addr} {As rest : List Value} {g : JFrame}
    (S : CallFix p m c cc nL s args Ts own) (hM : Met l y ws rm Pc Qc mc ms free) (cw : vx_CVW R s args own C index y bytes maxL ret hh ws rm mc ms n) (hp : PreV s H C b Pc As)
    (hg : g.method = m) (hn : As.length = n) (hsize : g.locals.size = nL) (hstack : g.stack = As.reverse ++ .ref b :: rest) (hW : 2 * g.monitorRoom + (rest.map fun v => v.category).sum ≤ 8) (hdg : decode cc g.pc = .ok (.invokevirtual index, 3)) (hf : cells + mc ≤ R.cells ∧ slots + ms ≤ R.slots) :
    va_Run p l e R s m args below meth c H locs cells slots mc ms g rest (Qc (Value.ref b :: As).toArray) free := by
  obtain ⟨⟨hrc, hrs, hfr, hlo, hws, hcw⟩, hcode, hini, hy, hlen, hl, hin, hse⟩ := cw
  have hK : Back l R p e below s args y 3 8 (PreOf R mc ms Pc) (PostOf Qc mc ms free) := va_backW (hh := hh) (bytes := bytes) (maxL := maxL) (ret := ret) hM hp.1 hrc hrs hfr hlo hws hcw (fun a' U hW => word_at hW (Or.inl (by first | rfl | simp [Cond.onTables, Cond.keeps, Cond.steady])) hini)
  obtain ⟨hx, hb, hml, ho, -⟩ := S
  obtain ⟨-, ⟨cellB, hcB, hoB, hclB⟩, hPc⟩ := hp
  intro T hT X
  obtain ⟨v, vm₁, ⟨U', l2, c2, s2⟩, hW₁, X', ⟨g', mk, t, L, e1, e2, hq, h1, hL, h2, h3⟩, st⟩ := vx_callVW X hx (C := C) (hh := hh) (bytes := bytes) (maxL := maxL) (ret := ret) ho hl hin hse hcode hy hK (by rw [hT]; exact hcB) hoB hclB hg (hsize.trans hml.symm) (argsL := As) (rest := rest) (fun sig h => hn.trans (hlen sig h)) hstack hW (by rw [hb]; exact hdg)
    (fun vm₁ hW₁ => ⟨hf.1, hf.2, hPc (T.setVm vm₁) hT hW₁⟩)
  dsimp only [Pt.U, Pt.locs, Pt.cells, Pt.slots] at X' e1 e2 h1 h2 h3 st
  subst h1; subst h2; subst h3
  exact ⟨v, (T.setVm vm₁).calling g' mk (Value.ref b :: As).toArray, t, U', L, hT, X', hL, e1, e2, hq, st⟩
section
variable {y : MethodName} {bytes cc : ByteArray} {maxL nL mc ms n index : Nat} {ret : Option FieldType} {ws : List Cond} {rm : Room} {Pc : Array Value → State → Prop} {Qc : Array Value → State → Outcome → State → Prop} {XC : String → State → State → Prop} {free : Addr → Prop} {Ts : List Cond} {own C : String} {b : Addr} {As rest : List Value} {g : JFrame}
theorem vx_runVX {hh : List (Nat × Nat × Nat × Nat)} (S : CallFix p m c cc nL s args Ts own) (hM : vx_Met l y ws rm Pc Qc XC mc ms free) (cw : vx_CVW R s args own C index y bytes maxL ret hh ws rm mc ms n) (hp : PreV s H C b Pc As)
    (hg : g.method = m) (hn : As.length = n) (hsize : g.locals.size = nL) (hstack : g.stack = As.reverse ++ .ref b :: rest) (hW : 2 * g.monitorRoom + (rest.map fun v => v.category).sum ≤ 8) (hdg : decode cc g.pc = .ok (.invokevirtual index, 3)) (hf : cells + mc ≤ R.cells ∧ slots + ms ≤ R.slots) :
    vx_Run p l e R s m args below meth c H locs cells slots mc ms g rest (Qc (Value.ref b :: As).toArray) XC free := by
  obtain ⟨⟨hrc, hrs, hfr, hlo, hws, hcw⟩, hcode, hini, hy, hlen, hl, hin, hse⟩ := cw
  have hK : vx_Back l R p e below s args y 3 8 (PreOf R mc ms Pc) (PostOf Qc mc ms free) (vx_Post XC mc ms free) := vx_backW (hh := hh) (bytes := bytes) (maxL := maxL) (ret := ret) hM hp.1 hrc hrs hfr hlo hws hcw (fun a' U hW => word_at hW (Or.inl (by first | rfl | simp [Cond.onTables, Cond.keeps, Cond.steady])) hini)
  obtain ⟨hx, hb, hml, ho, -⟩ := S
  obtain ⟨-, ⟨cellB, hcB, hoB, hclB⟩, hPc⟩ := hp
  intro T hT X
  rcases vx_callVX X hx (C := C) (hh := hh) (bytes := bytes) (maxL := maxL) (ret := ret) ho hl hin hse hcode hy hK (by rw [hT]; exact hcB) hoB hclB hg (hsize.trans hml.symm) (argsL := As) (rest := rest) (fun sig h => hn.trans (hlen sig h)) hstack hW (by rw [hb]; exact hdg)
    (fun vm₁ hW₁ => ⟨hf.1, hf.2, hPc (T.setVm vm₁) hT hW₁⟩) with ⟨v, vm₁, ⟨U', l2, c2, s2⟩, hW₁, X', ⟨g', mk, t, L, e1, e2, hq, h1, hL, h2, h3⟩, st⟩ | ⟨q, vm₁, ⟨U', l2, c2, s2⟩, hW₁, X', ⟨g', mk, t, L, E, ce, e1, e2, hq, hce, hcv, hcl, h1, hL, h2, h3⟩, st⟩
  · dsimp only [Pt.U, Pt.locs, Pt.cells, Pt.slots] at X' e1 e2 h1 h2 h3 st
    subst h1; subst h2; subst h3
    exact Or.inl ⟨v, (T.setVm vm₁).calling g' mk (Value.ref b :: As).toArray, t, U', L, hT, X', hL, e1, e2, hq, st⟩
  · dsimp only [Pt.U, Pt.locs, Pt.cells, Pt.slots] at X' e1 e2 h1 h2 h3 st hcl
    subst h1; subst h2; subst h3
    exact Or.inr ⟨q, (T.setVm vm₁).calling g' mk (Value.ref b :: As).toArray, t, U', L, E, ce, hT, X', hL, e1, e2, hq, hce, hcv, vx_cls hW₁ hcl, st⟩
theorem vx_runSX {hh : List (Nat × Nat × Nat × Nat)} (S : CallFix p m c cc nL s args Ts own) (hM : vx_Met l y ws rm Pc Qc XC mc ms free) (cw : vx_CSW R s args own index y bytes maxL ret hh ws rm mc ms n) (hp : PreS s H Pc As)
    (hg : g.method = m) (hn : As.length = n) (hsize : g.locals.size = nL) (hstack : g.stack = As.reverse ++ rest) (hW : 2 * g.monitorRoom + (rest.map fun v => v.category).sum ≤ 8) (hdg : decode cc g.pc = .ok (.invokestatic index, 3)) (hf : cells + mc ≤ R.cells ∧ slots + ms ≤ R.slots) :
    vx_Run p l e R s m args below meth c H locs cells slots mc ms g rest (Qc As.toArray) XC free := by
  obtain ⟨⟨hrc, hrs, hfr, hlo, hws, hcw⟩, hcode, hini, hy, hlen, hl, hstt⟩ := cw
  have hK : vx_Back l R p e below s args y 3 8 (PreOf R mc ms Pc) (PostOf Qc mc ms free) (vx_Post XC mc ms free) := vx_backW (hh := hh) (bytes := bytes) (maxL := maxL) (ret := ret) hM hp.1 hrc hrs hfr hlo hws hcw (fun a' U hW => word_at hW (Or.inl (by first | rfl | simp [Cond.onTables, Cond.keeps, Cond.steady])) hini)
  obtain ⟨hx, hb, hml, ho, -⟩ := S
  intro T hT X
  rcases vx_callSX X hx (hh := hh) (bytes := bytes) (maxL := maxL) (ret := ret) ho hl hstt hini hcode hy hK hg (hsize.trans hml.symm) (argsL := As) (rest := rest) (fun sig h => hn.trans (hlen sig h)) hstack hW (by rw [hb]; exact hdg)
    (fun vm₁ hW₁ => ⟨hf.1, hf.2, hp.2 (T.setVm vm₁) hT hW₁⟩) with ⟨v, vm₁, ⟨U', l2, c2, s2⟩, hW₁, X', ⟨g', mk, t, L, e1, e2, hq, h1, hL, h2, h3⟩, st⟩ | ⟨q, vm₁, ⟨U', l2, c2, s2⟩, hW₁, X', ⟨g', mk, t, L, E, ce, e1, e2, hq, hce, hcv, hcl, h1, hL, h2, h3⟩, st⟩
  · dsimp only [Pt.U, Pt.locs, Pt.cells, Pt.slots] at X' e1 e2 h1 h2 h3 st
    subst h1; subst h2; subst h3
    exact Or.inl ⟨v, (T.setVm vm₁).calling g' mk As.toArray, t, U', L, hT, X', hL, e1, e2, hq, st⟩
  · dsimp only [Pt.U, Pt.locs, Pt.cells, Pt.slots] at X' e1 e2 h1 h2 h3 st hcl
    subst h1; subst h2; subst h3
    exact Or.inr ⟨q, (T.setVm vm₁).calling g' mk As.toArray, t, U', L, E, ce, hT, X', hL, e1, e2, hq, hce, hcv, vx_cls hW₁ hcl, st⟩
end
end VXH
theorem vx_ofWH {l : Launch} {y : MethodName} {ws ws' : List Cond} {rm : Room} {Pc : Array Value → State → Prop} {Qc : Array Value → State → Outcome → State → Prop} {XC : String → State → State → Prop} {mc ms : Nat} {free : Addr → Prop} {cc : ByteArray} {maxL : Nat} {ret : Option FieldType} {hh : List (Nat × Nat × Nat × Nat)}
    (hy : plainName y.cls = true) (hw : ws = Cond.codeWith y cc maxL ret hh :: ws')
    (body : ∀ p e s m args below meth c s₁, BodyLoose p l y (headSpec ws rm) cc maxL ret e s m args below meth c s₁ → c.maxLocals = maxL → Pc args s →
      W p l e (headSpec ws rm).room s m args below meth c s.heap [] 0 0 (vx_MQ below Qc XC args s mc ms free) (entryFrame m args maxL)) : vx_Met l y ws rm Pc Qc XC mc ms free := by
  refine MetFree.of_bodyS (code := cc) (maxLocals := maxL) (ret := ret) hy ?_ ?_
  · intro args s m h hn
    obtain ⟨m9, meth, c, hn9, h1, h2, h3, h4, -, h5, h6, -⟩ := Cond.codeWith_spec (atoms_spec (ws := ws) h _ (by rw [hw]; exact List.mem_cons_self))
    cases hn.symm.trans hn9
    exact ⟨meth, c, h1, h2, h3, h4, h5, h6⟩
  · intro p e s m args below meth c s₁ B hml hP _
    have hh0 : s₁.heap = s.heap := by rw [B.state]; rfl
    obtain ⟨t, a1, o, b1, b2, b3⟩ := body p e s m args below meth c s₁ B hml hP s₁ hh0 (Stand.of_body B)
    exact ⟨t, o, a1, b1, b2, b3⟩
/-! ===== END ===== -/

/-! ===== BEGIN what the machine throws by itself, no traces kept ===== -/
section VXM
set_option maxHeartbeats 1000000 in
/-- the machine throws cls with the message text, no traces kept: from its note over the frame g to 'throwing' over the same frame (follows the proofs of Stand.vmThrowsMessage, Shelf/KitTracedVmS.lean, and Stand.throwsMessageColdBareV, StandMessageColdV.lean, without the step out of the frame) -/
theorem vx_vmAt {p : Program} {l : Launch} {e : Env} {R : Room} {s : State} {m₀ : MethodId} {args : Array Value} {below : List Frame} {meth : Method} {c : Code} {W : State} {locs : List Loc} {cells slots : Nat}
    (X : Stand p l e R s m₀ args below meth c W locs cells slots) (hexec : p.tables.exec = Jvm.exec) (htr : e.platform.stackTraces = false) {cls : String} {names : List String} {text : String}
    (hcls : Bundle.fit cls = true) (hnames : ∀ n ∈ names, Bundle.fit n = true) (hsoe : (cls == "java/lang/StackOverflowError") = false) (hoom : (cls == "java/lang/OutOfMemoryError") = false)
    (h : ∀ a ∈ Bundle.messageArmAtoms cls names, a.before args s = true)
    (hlocs : ∀ x ∈ locs, ∀ cell, s.heap[x.base]? = some cell → cell.vm.isStatics = false)
    (htext : (text == notModelled) = false) (hlimit : ¬ (stringBytes (stringToUtf16 text)).size > e.platform.arrayLengthLimit) (hheap : ¬ (stringBytes (stringToUtf16 text)).size * componentBytes .byte > e.platform.maxHeapBytes)
    {g : JFrame} (hg : g.method = m₀) (hsize : g.locals.size = c.maxLocals)
    (hRframes : names.length + 4 < R.frames) (hRlocals : 2 * g.monitorRoom + (g.stack.map fun v => v.category).sum + 10240 ≤ R.locals) (hshort : 13 * names.length + 55 ≤ 10240)
    (hRcells : cells + 3 ≤ R.cells) (hRslots : slots + ((stringBytes (stringToUtf16 text)).size + 4 + 6) ≤ R.slots) (hlocks : meth.locks = false) :
    ∃ (S : State) (q : Addr) (ce : Cell), (∀ target, Steps p.tables e below ((S.setTop g).pushFrame (.throwing q)) target → Steps p.tables e below ((W.setTop g).pushFrame (.throwNew cls (some text) none)) target) ∧
      Stand p l e R s m₀ args below meth c S locs (cells + 3) (slots + ((stringBytes (stringToUtf16 text)).size + 4 + 6)) ∧ S.heap[q]? = some ce ∧ s.vm.findClass cls = some ce.cls ∧ ce.vm = .none := by
  have howns : e.platform.frameOwnsMonitors = true := by rw [X.admits.platform]
  have hfin : e.platform.finalization = false := by rw [X.admits.platform]
  have hpl : e.platform.magicAccessors = ({} : Platform).magicAccessors := by rw [X.admits.platform]
  have a : ∀ x, x ∈ Bundle.messageArmAtoms cls names → x.holds args s none s [] = true := fun x hx => h x hx
  obtain ⟨T, Z0, L, -, Y⟩ := ThrowableC.of_atoms (args := args) howns hfin hpl (fun x hx => h x (by simp [Bundle.messageArmAtoms, hx]))
  obtain ⟨Z, M, LZ, LM, hnZ⟩ := Init0T.ofS_atoms (args := args) hpl L Y (fun x hx => h x (by simp [Bundle.messageArmAtoms, hx]))
  obtain ⟨P1, Ps, hlen, L1, hL, hP1m, hlink1, hlink⟩ := Bundle.chainS (args := args) hpl hnZ names cls hcls hnames (fun x hx => h x (by simp [Bundle.messageArmAtoms, hx]))
  obtain ⟨Zs, LZs, hn4, hfitv, hfitc⟩ := StringT.of_atoms (args := args) (fun x hx => h x (by simp [Bundle.messageArmAtoms, hx]))
  have hfound : s.vm.findClass cls = some P1.m.cls := findClass_of_methodNamed hP1m
  obtain ⟨c1, kX, hc1, hk, hord, -, -, hn6⟩ := Cond.instantiable_spec (a (.instantiable cls 6) (by simp [Bundle.messageArmAtoms]))
  cases Option.some.inj (hc1.symm.trans hfound)
  have hinit := Cond.initialized_spec hfound hk (a (.initialized cls) (by simp [Bundle.messageArmAtoms]))
  have hctor : kX.findMethod "<init>" "(Ljava/lang/String;)V" = some P1.m.idx := findMethod_of_methodNamed hP1m hk
  have hsel0 : selectMethod e.platform s.vm P1.m.cls T.fill0 = .method T.fill0 := by
    obtain ⟨c2, r2, m2, q1, q2, q3, q4, -⟩ := Cond.selects_spec (a (.selects cls Bundle.tFill0 Bundle.tFill0) (by simp [Bundle.messageArmAtoms]))
    cases Option.some.inj (q1.symm.trans hfound)
    cases Option.some.inj (q2.symm.trans (State.methodFound?_of_named Y.fill0 (by decide)))
    cases Option.some.inj (q3.symm.trans Y.fill0)
    rw [Launch.admits_selectMethod X.admits]; exact q4
  have hselF : selectMethod e.platform s.vm P1.m.cls T.fill = .method T.fill := by
    obtain ⟨c2, r2, m2, q1, q2, q3, q4, -⟩ := Cond.selects_spec (a (.selects cls Bundle.tFill Bundle.tFill) (by simp [Bundle.messageArmAtoms]))
    cases Option.some.inj (q1.symm.trans hfound)
    cases Option.some.inj (q2.symm.trans (State.methodFound?_of_named Y.fill (by decide)))
    cases Option.some.inj (q3.symm.trans Y.fill)
    rw [Launch.admits_selectMethod X.admits]; exact q4
  obtain ⟨cellS0, hcS0, hiss⟩ := Y.statics
  obtain ⟨u0, hu0⟩ := Cond.staticRefV Y.unassigned L.unassignedStatic L.statics hcS0 hiss (a (.isRef (.static Bundle.tN "UNASSIGNED_STACK" Bundle.steD)) (by simp [Bundle.messageArmAtoms]))
  obtain ⟨sen, hsen⟩ := Cond.staticRefV Y.sentinel L.sentinelStatic L.statics hcS0 hiss (a (.isRef (.static Bundle.tN "SUPPRESSED_SENTINEL" Bundle.listD)) (by simp [Bundle.messageArmAtoms]))
  obtain ⟨ci198, i198, fB, hk198, hg198, ha198, hsB, -, hnB, htB, hffB⟩ := Cond.ownField (t := .object "java/lang/Object") Y.found L.cls (by decide +kernel) (a (.fieldLink Bundle.tN 198 Bundle.tN "backtrace" "Ljava/lang/Object;") (by simp [Bundle.messageArmAtoms])) (a (.lays Bundle.tN Bundle.tN "backtrace" "Ljava/lang/Object;") (by simp [Bundle.messageArmAtoms])) e.platform hpl
  obtain ⟨cellS, hcS', heS, -, hkeep⟩ := X.same.2.2.2.2.2 T.aS cellS0 hcS0
  have hcellS : W.heap[T.aS]? = some cellS := hcS'
  have hout' : ∀ i, (⟨T.aS, i⟩ : Loc) ∉ locs := fun i hmem => by
    have := hlocs _ hmem cellS0 hcS0
    rw [hiss] at this; cases this
  have hknownS : cellS.vm ≠ .unknown := by
    rw [heS]; intro hu
    rw [show cellS0.vm = .unknown from hu] at hiss
    cases hiss
  have hvU : cellS.slots[T.fUnassigned.slot]? = some u0.v := by rw [hkeep _ (hout' _)]; exact hu0
  have hvSen : cellS.slots[T.fSentinel.slot]? = some sen.v := by rw [hkeep _ (hout' _)]; exact hsen
  obtain ⟨iM, hffM⟩ := Y.msg
  obtain ⟨tyC, dC, hdC, hdnC⟩ := Cond.laysAt hfound hk Y.cause (a (.lays cls Bundle.tN "cause" "Ljava/lang/Throwable;") (by simp [Bundle.messageArmAtoms]))
  obtain ⟨tyS, dS, hdS, hdnS⟩ := Cond.laysAt hfound hk Y.stack (a (.lays cls Bundle.tN "stackTrace" Bundle.steD) (by simp [Bundle.messageArmAtoms]))
  obtain ⟨tyP, dP, hdP, hdnP⟩ := Cond.laysAt hfound hk Y.supp (a (.lays cls Bundle.tN "suppressedExceptions" Bundle.listD) (by simp [Bundle.messageArmAtoms]))
  obtain ⟨tyM, dM, hdM, hdnM⟩ := Cond.laysAt hfound hk hffM (a (.lays cls Bundle.tN "detailMessage" "Ljava/lang/String;") (by simp [Bundle.messageArmAtoms]))
  obtain ⟨tyB, dB, hdB, hdnB⟩ := Cond.laysAt hfound hk hffB (a (.lays cls Bundle.tN "backtrace" "Ljava/lang/Object;") (by simp [Bundle.messageArmAtoms]))
  have bC := Cond.laysApart hdB hdC hdnB hdnC (by rw [hnB, Y.causeName]; decide)
  have bS := Cond.laysApart hdB hdS hdnB hdnS (by rw [hnB, Y.stackName]; decide)
  have bP := Cond.laysApart hdB hdP hdnB hdnP (by rw [hnB, Y.suppName]; decide)
  have hbk : ((preparedCellV T.toThrowableT (freshCell P1.m.cls kX) (W.heap.size + 2) u0 sen).withEntry W.cur).slots[fB.slot]? = some .null := by
    have := fresh_default (c := P1.m.cls) tyB
    rw [htB] at this
    simpa [preparedCellV, Cell.setSlot, Cell.withEntry, Array.getElem?_setIfInBounds, bC, bS, bP, bC.symm, bS.symm, bP.symm, defaultValue] using this
  have tkC := Takes.of_laid (v := .ref (W.heap.size + 2)) hk hord tyC (by rw [Y.causeType]; rfl)
  have tkS := Takes.of_laid (v := u0.v) hk hord tyS (by rw [Y.stackType]; exact fits_refV_array _ u0)
  have tkP := Takes.of_laid (v := sen.v) hk hord tyP (by rw [Y.suppType]; exact fits_refV_object _ sen)
  have tkM := Takes.of_laid (v := .ref (W.heap.size + 1)) hk hord tyM (by rw [Y.msgType]; rfl)
  have hskip : SkipFacts T e.platform s (fun u => u) u0 ((preparedCellV T.toThrowableT (freshCell P1.m.cls kX) (W.heap.size + 2) u0 sen).withEntry W.cur) := ⟨{ ci198 := ci198, i198 := i198, fBack := fB }, ⟨hk198, hg198, ha198, hsB⟩, hbk, fun _ _ => rfl⟩
  have h0 : At W g.method c below := by rw [hg]; exact X.here
  obtain ⟨hbeyond, hfreeW⟩ := X.vmMayThrow hsize (.throwNew cls (some text) none) (fun f hf => by cases hf) rfl hRlocals
  have hfr' : W.frames.length + Ps.length + 4 < (e.platform.stackLimits W.me).1 := by have := X.framesAbove hRframes; omega
  have hwd' : (stackUse (.java g :: W.frames.tail)).2 + 13 * Ps.length + 55 ≤ (e.platform.stackLimits W.me).2 := by have := X.stackAbove hsize (K := 13 * Ps.length + 55) (by omega); omega
  have hslots : W.slotsUsed + (stringBytes (stringToUtf16 text)).size + Zs.kS.instanceTypes.size + kX.instanceTypes.size ≤ e.platform.maxSlots := by
    have := X.slotsAbove hRslots
    rw [hn4, hn6]
    omega
  obtain ⟨vm', hW', st⟩ := Steps.vmThrowsMessageColdByV p (s₀ := s) (S := W) (g := g) h0 hexec T L Z LZ M LM X.warmed (t := W.cur) rfl Zs LZs P1 L1 Ps hL hlink1 hlink hsoe hoom hfound hk hinit hord hctor
    (Launch.admits_hotImplicitExceptions X.admits) hbeyond hfreeW htext hlimit hheap (X.cellsAbove hRcells) hslots (hfitv _) (hfitc _)
    (Nn := fun u => u) heapOnly_id (fun _ _ => rfl) (fun _ => rfl) (fun u x y => setCell_twice _ _ _ _) (fun _ => Nat.le_refl _) (cN := ((preparedCellV T.toThrowableT (freshCell P1.m.cls kX) (W.heap.size + 2) u0 sen).withEntry W.cur))
    hsel0 hcellS hknownS hvU tkS (fun _ hu => hu) (fun _ hu => hu) rfl rfl rfl (by simp [preparedCellV, Cell.setSlot, Cell.withEntry]) hskip (fun _ _ hA hW _ hroom _ hrest => L.nativeOff p htr hA hW hroom hrest) hselF hvSen tkC tkP tkM Y.objLocals rfl hfr' hwd'
  rw [plainBareV_eq T.toThrowableT (W.heap.size + 2) u0 sen (.ref (W.heap.size + 1)) W.cur rfl rfl] at st
  obtain ⟨-, -, w3, w4, -, -, -⟩ := withThrown_facts e.platform W Zs text P1.m.cls kX
  have X3 := ((X.pushed (bytesOf Zs.cB (stringToUtf16 text))).pushed (stringAt Zs.cS Zs.kS Zs.fv Zs.fc (stringToUtf16 text) W.heap.size)).pushed (freshCell P1.m.cls kX)
  rw [← withString_eq] at X3
  have X4 := X3.noted hW'
  have ha : (W.heap.size + 2) < ((withThrown W Zs text P1.m.cls kX).setVm vm').heap.size := by show _ < (withThrown W Zs text P1.m.cls kX).heap.size; rw [w3]; omega
  have hcell : ((withThrown W Zs text P1.m.cls kX).setVm vm').heap[(W.heap.size + 2)]? = some (freshCell P1.m.cls kX) := w4
  have X5 := ((((X4.stored hcell T.fCause.slot (.ref (W.heap.size + 2))).storedAgain ha T.fStack.slot u0.v).storedAgain ha T.fSupp.slot sen.v).storedAgain ha T.fStack.slot u0.v).storedAgain ha T.fMsg.slot (.ref (W.heap.size + 1))
  obtain ⟨g₁, hfrM⟩ := X5.frames_eq
  have hU : ((((withThrown W Zs text P1.m.cls kX).setVm vm').setCell (W.heap.size + 2) (plainBareV T.toThrowableT (freshCell P1.m.cls kX) (W.heap.size + 2) u0 sen (.ref (W.heap.size + 1)))).setTop g).pushFrame (.throwing (W.heap.size + 2)) = (((withThrown W Zs text P1.m.cls kX).setVm vm').setCell (W.heap.size + 2) (plainBareV T.toThrowableT (freshCell P1.m.cls kX) (W.heap.size + 2) u0 sen (.ref (W.heap.size + 1)))).setFrames (.throwing (W.heap.size + 2) :: .java g :: below) := by
    rw [State.pushFrame, State.frames_setTop _ hfrM, State.setTop_of_frames _ hfrM, State.setFrames_setFrames]
  have b1 : (bytesOf Zs.cB (stringToUtf16 text)).slots.size = (stringBytes (stringToUtf16 text)).size := by
    rw [(Cell.writeAll_facts _ _).2.2]; simp [bytes0]
  have b2 : (stringAt Zs.cS Zs.kS Zs.fv Zs.fc (stringToUtf16 text) W.heap.size).slots.size = 4 := by simp [string0, Cell.setSlot, hn4]
  have b3 : (freshCell P1.m.cls kX).slots.size = 6 := by simp [hn6]
  rw [b1, b2, b3] at X5
  have e9 : slots + (stringBytes (stringToUtf16 text)).size + 4 + 6 = slots + ((stringBytes (stringToUtf16 text)).size + 4 + 6) := by omega
  rw [e9] at X5
  simp only [List.append_assoc, List.cons_append, List.nil_append] at X5
  refine ⟨((withThrown W Zs text P1.m.cls kX).setVm vm').setCell (W.heap.size + 2) (plainBareV T.toThrowableT (freshCell P1.m.cls kX) (W.heap.size + 2) u0 sen (.ref (W.heap.size + 1))), W.heap.size + 2, _, fun target ht => st _ (by rw [X.tail, ← hU]; exact ht),
    X5.forget (fun y hy => ?_), heapAt_setCell_self _ ha, hfound, rfl⟩
  simp only [List.mem_cons, List.not_mem_nil, or_false] at hy
  have hge : s.heap.size ≤ W.heap.size := X.same.2.1
  rcases hy with rfl | rfl | rfl | rfl | rfl <;> exact Nat.le_trans hge (Nat.le_add_right _ 2)
set_option maxHeartbeats 1000000 in
/-- the machine throws NullPointerException, no traces kept: from its note over the frame g to 'throwing' over the same frame (follows the proof of Stand.vmThrowsNpe, Shelf42/KT2.lean; throwsNpeColdBareVAt, Shelf42/NT91.lean, called) -/
theorem vx_npeAt {p : Program} {l : Launch} {e : Env} {R : Room} {s : State} {m₀ : MethodId} {args : Array Value} {below : List Frame} {meth : Method} {c : Code} {W : State} {locs : List Loc} {cells slots : Nat}
    (X : Stand p l e R s m₀ args below meth c W locs cells slots) (hexec : p.tables.exec = Jvm.exec) (htr : e.platform.stackTraces = false) {n : Nat}
    (h : ∀ a ∈ Bundle.npeArmAtoms n, a.before args s = true)
    (hlocs : ∀ x ∈ locs, ∀ cell, s.heap[x.base]? = some cell → cell.vm.isStatics = false)
    {g : JFrame} (hg : g.method = m₀) (hsize : g.locals.size = c.maxLocals)
    (hRframes : 7 < R.frames) (hRlocals : 2 * g.monitorRoom + (g.stack.map fun v => v.category).sum + 10240 ≤ R.locals)
    (hRcells : cells + 1 ≤ R.cells) (hRslots : slots + n ≤ R.slots) (hlocks : meth.locks = false) :
    ∃ (S : State) (q : Addr) (ce : Cell), (∀ target, Steps p.tables e below ((S.setTop g).pushFrame (.throwing q)) target → Steps p.tables e below ((W.setTop g).pushFrame (.throwNew "java/lang/NullPointerException" none none)) target) ∧
      Stand p l e R s m₀ args below meth c S locs (cells + 1) (slots + n) ∧ S.heap[q]? = some ce ∧ s.vm.findClass "java/lang/NullPointerException" = some ce.cls ∧ ce.vm = .none := by
  have howns : e.platform.frameOwnsMonitors = true := by rw [X.admits.platform]
  have hfin : e.platform.finalization = false := by rw [X.admits.platform]
  have hpl : e.platform.magicAccessors = ({} : Platform).magicAccessors := by rw [X.admits.platform]
  have hpl2 : e.platform.arrayCloneIsPublic = true := by rw [X.admits.platform]
  have a' : ∀ x, x ∈ Bundle.npeArmAtoms n → x.holds args s none s [] = true := fun x hx => h x hx
  obtain ⟨T, Z, L, LZ, Y⟩ := ThrowableC.of_atoms (args := args) howns hfin hpl (fun x hx => h x (by simp [Bundle.npeArmAtoms, hx]))
  obtain ⟨N, LN, hcN, hnNF, hordN, hffS⟩ := NpeC.of_atoms (args := args) hpl hpl2 L Y (fun x hx => h x (by simp [Bundle.npeArmAtoms, hx]))
  obtain ⟨P1, L1, hP1m, hP1s⟩ := PassC.of_atoms (args := args) (s := s) hpl (X := Bundle.nN) (Y := Bundle.rN) (by decide) (by decide) LibCode.NullPointerException.Init0.at_0 LibCode.NullPointerException.Init0.at_1 LibCode.NullPointerException.Init0.at_4 (fun x hx => h x (by simp [Bundle.npeArmAtoms, hx]))
  obtain ⟨PR, LR, hPRm, hPRs⟩ := PassC.of_atoms (args := args) (s := s) hpl (X := Bundle.rN) (Y := Bundle.eN) (by decide) (by decide) LibCode.RuntimeException.Init0.at_0 LibCode.RuntimeException.Init0.at_1 LibCode.RuntimeException.Init0.at_4 (fun x hx => h x (by simp [Bundle.npeArmAtoms, hx]))
  obtain ⟨PE, LEx, hPEm, hPEs⟩ := PassC.of_atoms (args := args) (s := s) hpl (X := Bundle.eN) (Y := Bundle.tN) (by decide) (by decide) LibCode.Exception.Init0.at_0 LibCode.Exception.Init0.at_1 LibCode.Exception.Init0.at_4 (fun x hx => h x (by simp [Bundle.npeArmAtoms, hx]))
  have hfound : s.vm.findClass Bundle.nN = some P1.m.cls := findClass_of_methodNamed hP1m
  have ecls : N.cN = P1.m.cls := Option.some.inj (hcN.symm.trans hfound)
  have hk : s.vm.classes[P1.m.cls]? = some N.kN := by rw [← ecls]; exact LN.cls
  have hinit := Cond.initialized_spec hfound hk (a' (.initialized Bundle.nN) (by simp [Bundle.npeArmAtoms]))
  have hctor : N.kN.findMethod "<init>" "()V" = some P1.m.idx := findMethod_of_methodNamed hP1m hk
  obtain ⟨c1, k1, hc1, hk1, -, -, -, hn⟩ := Cond.instantiable_spec (a' (.instantiable Bundle.nN n) (by simp [Bundle.npeArmAtoms]))
  cases Option.some.inj (hc1.symm.trans hfound)
  cases Option.some.inj (hk1.symm.trans hk)
  have hfsz : (freshCell P1.m.cls N.kN).slots.size = n := by simp [hn]
  have hlink1 : P1.sup = PR.m := Option.some.inj (hP1s.symm.trans hPRm)
  have hlinkR : PR.sup = PE.m := Option.some.inj (hPRs.symm.trans hPEm)
  have hlinkE : PE.sup = Z.m T.toThrowableT := Option.some.inj (hPEs.symm.trans Y.init0)
  have hLs : ∀ P, P ∈ [PR, PE] → P.Links0 e.platform s := fun P hP => by
    simp only [List.mem_cons, List.not_mem_nil, or_false] at hP
    rcases hP with rfl | rfl
    · exact LR
    · exact LEx
  have hsel0 : selectMethod e.platform s.vm P1.m.cls T.fill0 = .method T.fill0 := by
    obtain ⟨c2, r2, m2, q1, q2, q3, q4, -⟩ := Cond.selects_spec (a' (.selects Bundle.nN Bundle.tFill0 Bundle.tFill0) (by simp [Bundle.npeArmAtoms]))
    cases Option.some.inj (q1.symm.trans hfound)
    cases Option.some.inj (q2.symm.trans (State.methodFound?_of_named Y.fill0 (by decide)))
    cases Option.some.inj (q3.symm.trans Y.fill0)
    rw [Launch.admits_selectMethod X.admits]; exact q4
  have hselF : selectMethod e.platform s.vm P1.m.cls T.fill = .method N.fill := by
    obtain ⟨c2, r2, m2, q1, q2, q3, q4, -⟩ := Cond.selects_spec (a' (.selects Bundle.nN Bundle.tFill Bundle.nFill) (by simp [Bundle.npeArmAtoms]))
    cases Option.some.inj (q1.symm.trans hfound)
    cases Option.some.inj (q2.symm.trans (State.methodFound?_of_named Y.fill (by decide)))
    cases Option.some.inj (q3.symm.trans hnNF)
    rw [Launch.admits_selectMethod X.admits]; exact q4
  obtain ⟨cellS0, hcS0, hiss⟩ := Y.statics
  obtain ⟨u0, hu0⟩ := Cond.staticRefV Y.unassigned L.unassignedStatic L.statics hcS0 hiss (a' (.isRef (.static Bundle.tN "UNASSIGNED_STACK" Bundle.steD)) (by simp [Bundle.npeArmAtoms]))
  obtain ⟨sen, hsen⟩ := Cond.staticRefV Y.sentinel L.sentinelStatic L.statics hcS0 hiss (a' (.isRef (.static Bundle.tN "SUPPRESSED_SENTINEL" Bundle.listD)) (by simp [Bundle.npeArmAtoms]))
  obtain ⟨ci198, i198, fB, hk198, hg198, ha198, hsB, -, hnB, htB, hffB⟩ := Cond.ownField (t := .object "java/lang/Object") Y.found L.cls (by decide +kernel) (a' (.fieldLink Bundle.tN 198 Bundle.tN "backtrace" Bundle.objD) (by simp [Bundle.npeArmAtoms])) (a' (.lays Bundle.tN Bundle.tN "backtrace" Bundle.objD) (by simp [Bundle.npeArmAtoms])) e.platform hpl
  obtain ⟨cellS, hcS', heS, -, hkeep⟩ := X.same.2.2.2.2.2 T.aS cellS0 hcS0
  have hcellS : W.heap[T.aS]? = some cellS := hcS'
  have hout' : ∀ i, (⟨T.aS, i⟩ : Loc) ∉ locs := fun i hmem => by
    have := hlocs _ hmem cellS0 hcS0
    rw [hiss] at this; cases this
  have hknownS : cellS.vm ≠ .unknown := by
    rw [heS]; intro hu
    rw [show cellS0.vm = .unknown from hu] at hiss
    cases hiss
  have hvU : cellS.slots[T.fUnassigned.slot]? = some u0.v := by rw [hkeep _ (hout' _)]; exact hu0
  have hvSen : cellS.slots[T.fSentinel.slot]? = some sen.v := by rw [hkeep _ (hout' _)]; exact hsen
  obtain ⟨tyC, dC, hdC, hdnC⟩ := Cond.laysAt hfound hk Y.cause (a' (.lays Bundle.nN Bundle.tN "cause" "Ljava/lang/Throwable;") (by simp [Bundle.npeArmAtoms]))
  obtain ⟨tyS, dS, hdS, hdnS⟩ := Cond.laysAt hfound hk Y.stack (a' (.lays Bundle.nN Bundle.tN "stackTrace" Bundle.steD) (by simp [Bundle.npeArmAtoms]))
  obtain ⟨tyP, dP, hdP, hdnP⟩ := Cond.laysAt hfound hk Y.supp (a' (.lays Bundle.nN Bundle.tN "suppressedExceptions" Bundle.listD) (by simp [Bundle.npeArmAtoms]))
  obtain ⟨tyX, dX, hdX, hdnX⟩ := Cond.laysAt hfound hk hffS (a' (.lays Bundle.nN Bundle.nN "extendedMessageState" "I") (by simp [Bundle.npeArmAtoms, Bundle.npeAtoms]))
  obtain ⟨hnX, htX⟩ := State.fieldFound?_type hffS (t := .int) (by decide +kernel)
  have xC := Cond.laysApart hdC hdX hdnC hdnX (by rw [hnX, Y.causeName]; decide)
  have xS := Cond.laysApart hdS hdX hdnS hdnX (by rw [hnX, Y.stackName]; decide)
  have xP := Cond.laysApart hdP hdX hdnP hdnX (by rw [hnX, Y.suppName]; decide)
  have hv0 : (freshCell P1.m.cls N.kN).slots[N.fState.slot]? = some (.int 0) := by
    have := fresh_default (c := P1.m.cls) tyX
    rw [htX] at this; exact this
  obtain ⟨tyB, dB, hdB, hdnB⟩ := Cond.laysAt hfound hk hffB (a' (.lays Bundle.nN Bundle.tN "backtrace" Bundle.objD) (by simp [Bundle.npeArmAtoms]))
  have bC := Cond.laysApart hdB hdC hdnB hdnC (by rw [hnB, Y.causeName]; decide)
  have bS := Cond.laysApart hdB hdS hdnB hdnS (by rw [hnB, Y.stackName]; decide)
  have bP := Cond.laysApart hdB hdP hdnB hdnP (by rw [hnB, Y.suppName]; decide)
  have bX := Cond.laysApart hdB hdX hdnB hdnX (by rw [hnB, hnX]; decide)
  have hbk : ((npeCell N.toNpeT (preparedCellV T.toThrowableT (freshCell P1.m.cls N.kN) W.heap.size u0 sen) W.cur).withEntry W.cur).slots[fB.slot]? = some .null := by
    have := fresh_default (c := P1.m.cls) tyB
    rw [htB] at this
    simpa [npeCell, preparedCellV, Cell.setSlot, Cell.withEntry, Array.getElem?_setIfInBounds, bC, bS, bP, bX, bC.symm, bS.symm, bP.symm, bX.symm, defaultValue] using this
  have tkC := Takes.of_laid (v := .ref W.heap.size) hk hordN tyC (by rw [Y.causeType]; rfl)
  have tkS := Takes.of_laid (v := u0.v) hk hordN tyS (by rw [Y.stackType]; exact fits_refV_array _ u0)
  have tkP := Takes.of_laid (v := sen.v) hk hordN tyP (by rw [Y.suppType]; exact fits_refV_object _ sen)
  have tkX := Takes.of_laid (v := .int 1) hk hordN tyX (by rw [htX]; rfl)
  have hskip : SkipFacts T e.platform s (fun u => u) u0 ((npeCell N.toNpeT (preparedCellV T.toThrowableT (freshCell P1.m.cls N.kN) W.heap.size u0 sen) W.cur).withEntry W.cur) := ⟨{ ci198 := ci198, i198 := i198, fBack := fB }, ⟨hk198, hg198, ha198, hsB⟩, hbk, fun _ _ => rfl⟩
  obtain ⟨vm', X3, st, -⟩ := X.throwsNpeColdBareVAt hexec hg hsize T L Z LZ N LN P1 L1 [PR, PE] hLs hlink1 ⟨hlinkR, hlinkE, trivial⟩ hfound hk hinit hordN hctor hsel0 hselF hcellS hknownS hvU hvSen
    hv0 xC xS xP tkC tkS tkP tkX Y.objLocals hskip (fun _ _ hA hW _ hroom _ hrest => L.nativeOff p htr hA hW hroom hrest) (by simpa using hRframes) hRlocals (by simp) hRcells (by rw [hn]; exact hRslots)
  have hlt : W.heap.size < ((W.pushCell (freshCell P1.m.cls N.kN)).setVm vm').heap.size := by
    show W.heap.size < (W.pushCell (freshCell P1.m.cls N.kN)).heap.size
    rw [State.heap_size_pushCell]; omega
  rw [hfsz] at X3
  obtain ⟨g₁, hfrM⟩ := X3.frames_eq
  have hU : ((((W.pushCell (freshCell P1.m.cls N.kN)).setVm vm').setCell W.heap.size (npeBareV T.toThrowableT N.toNpeT (freshCell P1.m.cls N.kN) W.heap.size u0 sen)).setTop g).pushFrame (.throwing W.heap.size) = (((W.pushCell (freshCell P1.m.cls N.kN)).setVm vm').setCell W.heap.size (npeBareV T.toThrowableT N.toNpeT (freshCell P1.m.cls N.kN) W.heap.size u0 sen)).setFrames (.throwing W.heap.size :: .java g :: below) := by
    rw [State.pushFrame, State.frames_setTop _ hfrM, State.setTop_of_frames _ hfrM, State.setFrames_setFrames]
  refine ⟨_, W.heap.size, _, fun target ht => st.trans (by rw [← hU]; exact ht), X3.forget (fun y hy => ?_), heapAt_setCell_self _ hlt, hfound, rfl⟩
  simp only [List.mem_cons, List.not_mem_nil, or_false] at hy
  have hge : s.heap.size ≤ W.heap.size := X.same.2.1
  rcases hy with rfl | rfl | rfl | rfl | rfl <;> exact hge
/-- the words of a machine's NullPointerException, but the four that speak of the heap -/
def vx_atN (n : Nat) : List Cond := (Bundle.npeArmAtoms n).filter vx_no
/-- the words of a machine's throw with a message, but the four that speak of the heap -/
def vx_atM (X : String) (names : List String) : List Cond := (Bundle.messageArmAtoms X names).filter vx_no
section
variable {p : Program} {l : Launch} {e : Env} {R : Room} {s : State} {m : MethodId} {args : Array Value} {below : List Frame} {meth : Method} {c : Code} {H : Heap} {locs : List Loc} {cells slots : Nat}
/-- a frame seen from a rebased start, seen from the first start again -/
theorem vx_back9 {T S : State} {R' : Room} {k n : Nat} (X : Stand p l e R s m args below meth c T locs cells slots) (Y : Stand p l e R' ((T.setVm s.vm).setFrames (.invoking m args :: below)) m args below meth c T [] 0 0) (Z : Stand p l e R' ((T.setVm s.vm).setFrames (.invoking m args :: below)) m args below meth c S [] k n) :
    Stand p l e R s m args below meth c S locs (cells + k) (slots + n) := by
  have hW0 : s.WarmedH ((T.setVm s.vm).setFrames (.invoking m args :: below)).vm := State.WarmedH.refl s
  refine { admits := X.admits, cas := X.cas, clock := X.clock, frames := X.frames, room := X.room, hears := X.hears, method := X.method, code := X.code, here := Z.here, tail := Z.tail, warmed := State.WarmedH.trans hW0 Z.warmed, limits := Z.limits.trans (Y.limits.symm.trans X.limits), bytes := Z.bytes.trans (Y.bytes.symm.trans X.bytes), same := ?_ }
  obtain ⟨e1, e2⟩ := Z.same
  rw [State.setFrames_setFrames] at e1
  have h2 : (T.setVm s.vm).sameButNew (S.setVm s.vm) [] k n := ⟨e1, e2⟩
  have h3 := X.same.trans h2
  rw [List.append_nil] at h3
  exact h3
/-- from the machine's note that E is thrown here with this text -/
def vx_Note (p : Program) (l : Launch) (e : Env) (R : Room) (s : State) (m : MethodId) (args : Array Value) (below : List Frame) (meth : Method) (c : Code) (H : Heap) (locs : List Loc) (cells slots : Nat) (Q : State → Prop) (g : JFrame) (E text : String) : Prop :=
  ∀ T : State, T.heap = H → Stand p l e R s m args below meth c T locs cells slots → ∃ t, Steps p.tables e below ((T.setTop g).pushFrame (.throwNew E (some text) none)) t ∧ Q t
theorem vx_vm {pc : Nat} {ls : Array Slot} {rest : List Value} {Q : State → Prop} (hexec : p.tables.exec = Jvm.exec) (hl : l.stackTraces = false) {cls text : String} {names : List String} {nb : Nat} {A : Nat → Prop}
    (hcls : Bundle.fit cls = true) (hnames : ∀ n ∈ names, Bundle.fit n = true) (hsoe : (cls == "java/lang/StackOverflowError") = false) (hoom : (cls == "java/lang/OutOfMemoryError") = false)
    (hat : ∀ w ∈ vx_atM cls names, w.before args s = true) (hgood : ∀ w ∈ vx_atM cls names, vx_ot w = true)
    (hU : vx_Zq Bundle.tN "UNASSIGNED_STACK" Bundle.steD A s s.heap) (hN : vx_Zq Bundle.tN "SUPPRESSED_SENTINEL" Bundle.listD A s s.heap) (hS : va_S A s.heap H locs) (hsize : ls.size = c.maxLocals)
    (htext : (text == notModelled) = false) (hnb : (stringBytes (stringToUtf16 text)).size ≤ nb) (hnb1 : nb ≤ 1000)
    (hRframes : names.length + 4 < R.frames) (hRlocals : (rest.map fun v => v.category).sum + 10240 ≤ R.locals) (hshort : 13 * names.length + 55 ≤ 10240) (hRcells : cells + 3 ≤ R.cells) (hRslots : slots + (nb + 10) ≤ R.slots) (hlocks : meth.locks = false)
    (k : ∀ (H1 : Heap) (q9 : Addr) (ce : Cell), H.size ≤ H1.size → (∀ q : Nat, q < H.size → H1[q]? = H[q]?) → va_S A s.heap H1 locs → H1[q9]? = some ce → ce.vm = .none → s.vm.findClass cls = some ce.cls → vx_W p l e R s m args below meth c H1 locs (cells + 3) (slots + (nb + 10)) Q (F0 m pc ls rest) q9) :
    vx_Note p l e R s m args below meth c H locs cells slots Q (F0 m pc ls rest) cls text := by
  intro T hT X
  have htr : e.platform.stackTraces = false := (show e.platform.stackTraces = l.stackTraces by rw [X.admits.platform]).trans hl
  have Y := vx_rebase X (R' := { frames := R.frames, locals := R.locals, cells := 3, slots := nb + 10 }) (Nat.le_refl _) (Nat.le_refl _) hRcells hRslots
  have hhp : ((T.setVm s.vm).setFrames (.invoking m args :: below)).heap = H := hT
  have hW0 : s.WarmedH ((T.setVm s.vm).setFrames (.invoking m args :: below)).vm := State.WarmedH.refl s
  have hat' : ∀ w ∈ vx_atM cls names, w.before args ((T.setVm s.vm).setFrames (.invoking m args :: below)) = true := fun w hw => vx_ot_at hW0 rfl (hgood w hw) (hat w hw)
  have hU' : vx_Zq Bundle.tN "UNASSIGNED_STACK" Bundle.steD A ((T.setVm s.vm).setFrames (.invoking m args :: below)) ((T.setVm s.vm).setFrames (.invoking m args :: below)).heap := by rw [hhp]; exact vx_Zq.moved hW0.alike (hU.kept hS.2.1)
  have hN' : vx_Zq Bundle.tN "SUPPRESSED_SENTINEL" Bundle.listD A ((T.setVm s.vm).setFrames (.invoking m args :: below)) ((T.setVm s.vm).setFrames (.invoking m args :: below)).heap := by rw [hhp]; exact vx_Zq.moved hW0.alike (hN.kept hS.2.1)
  obtain ⟨S, q, ce, st, Z, hce, hcl', hv⟩ := vx_vmAt Y hexec htr (cls := cls) (names := names) (text := text) hcls hnames hsoe hoom (vx_own hat' (vx_isRefq hU'.1) (vx_isRefq hN'.1) hU'.2.word hN'.2.word) (fun x hx => nomatch hx) htext
    (by rw [Launch.admits_arrayLengthLimit X.admits]; omega) (by rw [Launch.admits_maxHeapBytes X.admits]; simp only [componentBytes]; omega)
    (g := F0 m pc ls rest) rfl hsize hRframes (by show 2 * 0 + (rest.map fun v => v.category).sum + 10240 ≤ R.locals; omega) hshort (by show 0 + 3 ≤ 3; omega) (by show 0 + (_ + 4 + 6) ≤ nb + 10; omega) hlocks
  obtain ⟨f1, f2⟩ := vx_frame Z.same
  have f1' : H.size ≤ S.heap.size := by rw [← hT]; exact f1
  have f2' : ∀ q : Nat, q < H.size → S.heap[q]? = H[q]? := fun q hq => by
    rw [← hT]
    exact f2 q (by rw [← hT] at hq; exact hq) (fun z hz => nomatch hz)
  have X5 := vx_back9 X Y Z
  have X6 : Stand p l e R s m args below meth c S locs (cells + 3) (slots + (nb + 10)) := { X5 with same := X5.same.mono (by omega) (by omega) }
  obtain ⟨t, a1, b1⟩ := k S.heap q ce f1' f2' ⟨Nat.le_trans hS.1 f1', fun q h1 h2 => (f2' q (Nat.lt_of_lt_of_le h1 hS.1)).trans (hS.2.1 q h1 h2), hS.2.2⟩ hce hv hcl' S rfl X6
  exact ⟨t, st t a1, b1⟩
/-- from the machine's note that NullPointerException is thrown here -/
def vx_NoteN (p : Program) (l : Launch) (e : Env) (R : Room) (s : State) (m : MethodId) (args : Array Value) (below : List Frame) (meth : Method) (c : Code) (H : Heap) (locs : List Loc) (cells slots : Nat) (Q : State → Prop) (g : JFrame) : Prop :=
  ∀ T : State, T.heap = H → Stand p l e R s m args below meth c T locs cells slots → ∃ t, Steps p.tables e below ((T.setTop g).pushFrame (.throwNew "java/lang/NullPointerException" none none)) t ∧ Q t
theorem vx_npe {pc : Nat} {ls : Array Slot} {rest : List Value} {Q : State → Prop} (hexec : p.tables.exec = Jvm.exec) (hl : l.stackTraces = false) {nb : Nat} {A : Nat → Prop}
    (hat : ∀ w ∈ vx_atN nb, w.before args s = true) (hgood : ∀ w ∈ vx_atN nb, vx_ot w = true)
    (hU : vx_Zq Bundle.tN "UNASSIGNED_STACK" Bundle.steD A s s.heap) (hN : vx_Zq Bundle.tN "SUPPRESSED_SENTINEL" Bundle.listD A s s.heap) (hS : va_S A s.heap H locs) (hsize : ls.size = c.maxLocals)
    (hRframes : 7 < R.frames) (hRlocals : (rest.map fun v => v.category).sum + 10240 ≤ R.locals) (hRcells : cells + 1 ≤ R.cells) (hRslots : slots + nb ≤ R.slots) (hlocks : meth.locks = false)
    (k : ∀ (H1 : Heap) (q9 : Addr) (ce : Cell), H.size ≤ H1.size → (∀ q : Nat, q < H.size → H1[q]? = H[q]?) → va_S A s.heap H1 locs → H1[q9]? = some ce → ce.vm = .none → s.vm.findClass "java/lang/NullPointerException" = some ce.cls → vx_W p l e R s m args below meth c H1 locs (cells + 1) (slots + nb) Q (F0 m pc ls rest) q9) :
    vx_NoteN p l e R s m args below meth c H locs cells slots Q (F0 m pc ls rest) := by
  intro T hT X
  have htr : e.platform.stackTraces = false := (show e.platform.stackTraces = l.stackTraces by rw [X.admits.platform]).trans hl
  have Y := vx_rebase X (R' := { frames := R.frames, locals := R.locals, cells := 1, slots := nb }) (Nat.le_refl _) (Nat.le_refl _) hRcells hRslots
  have hhp : ((T.setVm s.vm).setFrames (.invoking m args :: below)).heap = H := hT
  have hW0 : s.WarmedH ((T.setVm s.vm).setFrames (.invoking m args :: below)).vm := State.WarmedH.refl s
  have hat' : ∀ w ∈ vx_atN nb, w.before args ((T.setVm s.vm).setFrames (.invoking m args :: below)) = true := fun w hw => vx_ot_at hW0 rfl (hgood w hw) (hat w hw)
  have hU' : vx_Zq Bundle.tN "UNASSIGNED_STACK" Bundle.steD A ((T.setVm s.vm).setFrames (.invoking m args :: below)) ((T.setVm s.vm).setFrames (.invoking m args :: below)).heap := by rw [hhp]; exact vx_Zq.moved hW0.alike (hU.kept hS.2.1)
  have hN' : vx_Zq Bundle.tN "SUPPRESSED_SENTINEL" Bundle.listD A ((T.setVm s.vm).setFrames (.invoking m args :: below)) ((T.setVm s.vm).setFrames (.invoking m args :: below)).heap := by rw [hhp]; exact vx_Zq.moved hW0.alike (hN.kept hS.2.1)
  obtain ⟨S, q, ce, st, Z, hce, hcl', hv⟩ := vx_npeAt Y hexec htr (n := nb) (vx_own hat' (vx_isRefq hU'.1) (vx_isRefq hN'.1) hU'.2.word hN'.2.word) (fun x hx => nomatch hx)
    (g := F0 m pc ls rest) rfl hsize hRframes (by show 2 * 0 + (rest.map fun v => v.category).sum + 10240 ≤ R.locals; omega) (by show 0 + 1 ≤ 1; omega) (by show 0 + nb ≤ nb; omega) hlocks
  obtain ⟨f1, f2⟩ := vx_frame Z.same
  have f1' : H.size ≤ S.heap.size := by rw [← hT]; exact f1
  have f2' : ∀ q : Nat, q < H.size → S.heap[q]? = H[q]? := fun q hq => by
    rw [← hT]
    exact f2 q (by rw [← hT] at hq; exact hq) (fun z hz => nomatch hz)
  have X5 := vx_back9 X Y Z
  have X6 : Stand p l e R s m args below meth c S locs (cells + 1) (slots + nb) := { X5 with same := X5.same.mono (by omega) (by omega) }
  obtain ⟨t, a1, b1⟩ := k S.heap q ce f1' f2' ⟨Nat.le_trans hS.1 f1', fun q h1 h2 => (f2' q (Nat.lt_of_lt_of_le h1 hS.1)).trans (hS.2.1 q h1 h2), hS.2.2⟩ hce hv hcl' S rfl X6
  exact ⟨t, st t a1, b1⟩
variable {Q : State → Prop} {cc : ByteArray} {pc : Nat} {ls : Array Slot} {rest : List Value}
theorem vx_idivZ (hexec : p.tables.exec = Jvm.exec) (hb : c.code = cc) {a b : Int32} (h0 : b = 0) (d : decode cc pc = .ok (.idiv, 1)) (k : vx_Note p l e R s m args below meth c H locs cells slots Q (F0 m pc ls rest) "java/lang/ArithmeticException" "/ by zero") :
    W p l e R s m args below meth c H locs cells slots Q (F0 m pc ls (.int b :: .int a :: rest)) := by
  intro T hT X
  obtain ⟨t, st, q⟩ := k T hT X
  exact ⟨t, X.idivZero hexec (g := F0 m pc ls (.int b :: .int a :: rest)) rfl (a := a) (rest := rest) (by rw [h0]) (by rw [hb]; exact d) t st, q⟩
theorem vx_iremZ (hexec : p.tables.exec = Jvm.exec) (hb : c.code = cc) {a b : Int32} (h0 : b = 0) (d : decode cc pc = .ok (.irem, 1)) (k : vx_Note p l e R s m args below meth c H locs cells slots Q (F0 m pc ls rest) "java/lang/ArithmeticException" "/ by zero") :
    W p l e R s m args below meth c H locs cells slots Q (F0 m pc ls (.int b :: .int a :: rest)) := by
  intro T hT X
  obtain ⟨t, st, q⟩ := k T hT X
  exact ⟨t, X.iremZero hexec (g := F0 m pc ls (.int b :: .int a :: rest)) rfl (a := a) (rest := rest) (by rw [h0]) (by rw [hb]; exact d) t st, q⟩
theorem vx_ldivZ (hexec : p.tables.exec = Jvm.exec) (hb : c.code = cc) {a b : Int64} (h0 : b = 0) (d : decode cc pc = .ok (.ldiv, 1)) (k : vx_Note p l e R s m args below meth c H locs cells slots Q (F0 m pc ls rest) "java/lang/ArithmeticException" "/ by zero") :
    W p l e R s m args below meth c H locs cells slots Q (F0 m pc ls (.long b :: .long a :: rest)) := by
  intro T hT X
  obtain ⟨t, st, q⟩ := k T hT X
  exact ⟨t, X.ldivZero hexec (g := F0 m pc ls (.long b :: .long a :: rest)) rfl (a := a) (rest := rest) (by rw [h0]) (by rw [hb]; exact d) t st, q⟩
theorem vx_lremZ (hexec : p.tables.exec = Jvm.exec) (hb : c.code = cc) {a b : Int64} (h0 : b = 0) (d : decode cc pc = .ok (.lrem, 1)) (k : vx_Note p l e R s m args below meth c H locs cells slots Q (F0 m pc ls rest) "java/lang/ArithmeticException" "/ by zero") :
    W p l e R s m args below meth c H locs cells slots Q (F0 m pc ls (.long b :: .long a :: rest)) := by
  intro T hT X
  obtain ⟨t, st, q⟩ := k T hT X
  exact ⟨t, X.lremZero hexec (g := F0 m pc ls (.long b :: .long a :: rest)) rfl (a := a) (rest := rest) (by rw [h0]) (by rw [hb]; exact d) t st, q⟩
theorem vx_ialdZ {D : va_G} {cl : List vw_C} {ws : va_W} {tys : List (ClassId × FieldType)} {a : Nat} (hexec : p.tables.exec = Jvm.exec) (hb : c.code = cc) (hK : va_K D cl tys s) (hP : va_P D cl ws H) (q0 t0 : Nat) {cA : ClassId} {n : Nat} {f : Nat → Int32} (ha : ws[q0]? = some (a, .inl (cA, n, .inl f))) (ht : tys[t0]? = some (cA, .int)) {i : Int32} (hout : ¬ vp_in i n) (hdg : decode cc pc = .ok (.iaload, 1))
    (k : ∀ tx : String, tx = (toString "Index " ++ toString i ++ toString " out of bounds for length " ++ toString n : String) → vx_Note p l e R s m args below meth c H locs cells slots Q (F0 m pc ls rest) "java/lang/ArrayIndexOutOfBoundsException" tx) : W p l e R s m args below meth c H locs cells slots Q (F0 m pc ls (.int i :: .ref a :: rest)) := by
  intro T hT X
  obtain ⟨t, st, q⟩ := k _ rfl T hT X
  refine ⟨t, ?_, q⟩
  have h1 := X.ialoadOut hexec (by rw [hT]; exact hP q0 _ ha) ((hK.2 t0 _ ht).1 n (fun j => .int (f j))) (j := i) (by show (i < 0 ∨ (arrV _ _ _).slots.size ≤ _); rw [arrV_size]; exact Classical.byContradiction hout) (g := F0 m pc ls (.int i :: .ref a :: rest)) rfl (rest := rest) rfl (by rw [hb]; exact hdg) t
  simp only [arrV_size] at h1
  exact h1 st
theorem vx_iastZ {D : va_G} {cl : List vw_C} {ws : va_W} {tys : List (ClassId × FieldType)} {a : Nat} (hexec : p.tables.exec = Jvm.exec) (hb : c.code = cc) (hK : va_K D cl tys s) (hP : va_P D cl ws H) (q0 t0 : Nat) {cA : ClassId} {n : Nat} {f : Nat → Int32} (ha : ws[q0]? = some (a, .inl (cA, n, .inl f))) (ht : tys[t0]? = some (cA, .int)) {i : Int32} {x : Int32} (hout : ¬ vp_in i n) (hdg : decode cc pc = .ok (.iastore, 1))
    (k : ∀ tx : String, tx = (toString "Index " ++ toString i ++ toString " out of bounds for length " ++ toString n : String) → vx_Note p l e R s m args below meth c H locs cells slots Q (F0 m pc ls rest) "java/lang/ArrayIndexOutOfBoundsException" tx) : W p l e R s m args below meth c H locs cells slots Q (F0 m pc ls (.int x :: .int i :: .ref a :: rest)) := by
  intro T hT X
  obtain ⟨t, st, q⟩ := k _ rfl T hT X
  refine ⟨t, ?_, q⟩
  have h1 := X.iastoreOut hexec (by rw [hT]; exact hP q0 _ ha) ((hK.2 t0 _ ht).1 n (fun j => .int (f j))) (j := i) (by show (i < 0 ∨ (arrV _ _ _).slots.size ≤ _); rw [arrV_size]; exact Classical.byContradiction hout) (g := F0 m pc ls (.int x :: .int i :: .ref a :: rest)) rfl (rest := rest) rfl (by rw [hb]; exact hdg) t
  simp only [arrV_size] at h1
  exact h1 st
theorem vx_baldZ {D : va_G} {cl : List vw_C} {ws : va_W} {tys : List (ClassId × FieldType)} {a : Nat} (hexec : p.tables.exec = Jvm.exec) (hb : c.code = cc) (hK : va_K D cl tys s) (hP : va_P D cl ws H) (q0 t0 : Nat) {cA : ClassId} {n : Nat} {f : Nat → Int32} (ha : ws[q0]? = some (a, .inl (cA, n, .inl f))) (ht : tys[t0]? = some (cA, .byte)) {i : Int32} (hout : ¬ vp_in i n) (hdg : decode cc pc = .ok (.baload, 1))
    (k : ∀ tx : String, tx = (toString "Index " ++ toString i ++ toString " out of bounds for length " ++ toString n : String) → vx_Note p l e R s m args below meth c H locs cells slots Q (F0 m pc ls rest) "java/lang/ArrayIndexOutOfBoundsException" tx) : W p l e R s m args below meth c H locs cells slots Q (F0 m pc ls (.int i :: .ref a :: rest)) := by
  intro T hT X
  obtain ⟨t, st, q⟩ := k _ rfl T hT X
  refine ⟨t, ?_, q⟩
  have h1 := X.baloadOut hexec (by rw [hT]; exact hP q0 _ ha) ((hK.2 t0 _ ht).1 n (fun j => .int (f j))) (j := i) (by show (i < 0 ∨ (arrV _ _ _).slots.size ≤ _); rw [arrV_size]; exact Classical.byContradiction hout) (g := F0 m pc ls (.int i :: .ref a :: rest)) rfl (rest := rest) rfl (by rw [hb]; exact hdg) t
  simp only [arrV_size] at h1
  exact h1 st
theorem vx_bastZ {D : va_G} {cl : List vw_C} {ws : va_W} {tys : List (ClassId × FieldType)} {a : Nat} (hexec : p.tables.exec = Jvm.exec) (hb : c.code = cc) (hK : va_K D cl tys s) (hP : va_P D cl ws H) (q0 t0 : Nat) {cA : ClassId} {n : Nat} {f : Nat → Int32} (ha : ws[q0]? = some (a, .inl (cA, n, .inl f))) (ht : tys[t0]? = some (cA, .byte)) {i : Int32} {x : Int32} (hout : ¬ vp_in i n) (hdg : decode cc pc = .ok (.bastore, 1))
    (k : ∀ tx : String, tx = (toString "Index " ++ toString i ++ toString " out of bounds for length " ++ toString n : String) → vx_Note p l e R s m args below meth c H locs cells slots Q (F0 m pc ls rest) "java/lang/ArrayIndexOutOfBoundsException" tx) : W p l e R s m args below meth c H locs cells slots Q (F0 m pc ls (.int x :: .int i :: .ref a :: rest)) := by
  intro T hT X
  obtain ⟨t, st, q⟩ := k _ rfl T hT X
  refine ⟨t, ?_, q⟩
  have h1 := X.bastoreOut hexec (by rw [hT]; exact hP q0 _ ha) ((hK.2 t0 _ ht).1 n (fun j => .int (f j))) (j := i) (by show (i < 0 ∨ (arrV _ _ _).slots.size ≤ _); rw [arrV_size]; exact Classical.byContradiction hout) (g := F0 m pc ls (.int x :: .int i :: .ref a :: rest)) rfl (rest := rest) rfl (by rw [hb]; exact hdg) t
  simp only [arrV_size] at h1
  exact h1 st
theorem vx_zaldZ {D : va_G} {cl : List vw_C} {ws : va_W} {tys : List (ClassId × FieldType)} {a : Nat} (hexec : p.tables.exec = Jvm.exec) (hb : c.code = cc) (hK : va_K D cl tys s) (hP : va_P D cl ws H) (q0 t0 : Nat) {cA : ClassId} {n : Nat} {f : Nat → Int32} (ha : ws[q0]? = some (a, .inl (cA, n, .inl f))) (ht : tys[t0]? = some (cA, .boolean)) {i : Int32} (hout : ¬ vp_in i n) (hdg : decode cc pc = .ok (.baload, 1))
    (k : ∀ tx : String, tx = (toString "Index " ++ toString i ++ toString " out of bounds for length " ++ toString n : String) → vx_Note p l e R s m args below meth c H locs cells slots Q (F0 m pc ls rest) "java/lang/ArrayIndexOutOfBoundsException" tx) : W p l e R s m args below meth c H locs cells slots Q (F0 m pc ls (.int i :: .ref a :: rest)) := by
  intro T hT X
  obtain ⟨t, st, q⟩ := k _ rfl T hT X
  refine ⟨t, ?_, q⟩
  have h1 := X.baloadOut hexec (by rw [hT]; exact hP q0 _ ha) ((hK.2 t0 _ ht).1 n (fun j => .int (f j))) (j := i) (by show (i < 0 ∨ (arrV _ _ _).slots.size ≤ _); rw [arrV_size]; exact Classical.byContradiction hout) (g := F0 m pc ls (.int i :: .ref a :: rest)) rfl (rest := rest) rfl (by rw [hb]; exact hdg) t
  simp only [arrV_size] at h1
  exact h1 st
theorem vx_zastZ {D : va_G} {cl : List vw_C} {ws : va_W} {tys : List (ClassId × FieldType)} {a : Nat} (hexec : p.tables.exec = Jvm.exec) (hb : c.code = cc) (hK : va_K D cl tys s) (hP : va_P D cl ws H) (q0 t0 : Nat) {cA : ClassId} {n : Nat} {f : Nat → Int32} (ha : ws[q0]? = some (a, .inl (cA, n, .inl f))) (ht : tys[t0]? = some (cA, .boolean)) {i : Int32} {x : Int32} (hout : ¬ vp_in i n) (hdg : decode cc pc = .ok (.bastore, 1))
    (k : ∀ tx : String, tx = (toString "Index " ++ toString i ++ toString " out of bounds for length " ++ toString n : String) → vx_Note p l e R s m args below meth c H locs cells slots Q (F0 m pc ls rest) "java/lang/ArrayIndexOutOfBoundsException" tx) : W p l e R s m args below meth c H locs cells slots Q (F0 m pc ls (.int x :: .int i :: .ref a :: rest)) := by
  intro T hT X
  obtain ⟨t, st, q⟩ := k _ rfl T hT X
  refine ⟨t, ?_, q⟩
  have h1 := X.bastoreOut hexec (by rw [hT]; exact hP q0 _ ha) ((hK.2 t0 _ ht).1 n (fun j => .int (f j))) (j := i) (by show (i < 0 ∨ (arrV _ _ _).slots.size ≤ _); rw [arrV_size]; exact Classical.byContradiction hout) (g := F0 m pc ls (.int x :: .int i :: .ref a :: rest)) rfl (rest := rest) rfl (by rw [hb]; exact hdg) t
  simp only [arrV_size] at h1
  exact h1 st
theorem vx_caldZ {D : va_G} {cl : List vw_C} {ws : va_W} {tys : List (ClassId × FieldType)} {a : Nat} (hexec : p.tables.exec = Jvm.exec) (hb : c.code = cc) (hK : va_K D cl tys s) (hP : va_P D cl ws H) (q0 t0 : Nat) {cA : ClassId} {n : Nat} {f : Nat → Int32} (ha : ws[q0]? = some (a, .inl (cA, n, .inl f))) (ht : tys[t0]? = some (cA, .char)) {i : Int32} (hout : ¬ vp_in i n) (hdg : decode cc pc = .ok (.caload, 1))
    (k : ∀ tx : String, tx = (toString "Index " ++ toString i ++ toString " out of bounds for length " ++ toString n : String) → vx_Note p l e R s m args below meth c H locs cells slots Q (F0 m pc ls rest) "java/lang/ArrayIndexOutOfBoundsException" tx) : W p l e R s m args below meth c H locs cells slots Q (F0 m pc ls (.int i :: .ref a :: rest)) := by
  intro T hT X
  obtain ⟨t, st, q⟩ := k _ rfl T hT X
  refine ⟨t, ?_, q⟩
  have h1 := X.caloadOut hexec (by rw [hT]; exact hP q0 _ ha) ((hK.2 t0 _ ht).1 n (fun j => .int (f j))) (j := i) (by show (i < 0 ∨ (arrV _ _ _).slots.size ≤ _); rw [arrV_size]; exact Classical.byContradiction hout) (g := F0 m pc ls (.int i :: .ref a :: rest)) rfl (rest := rest) rfl (by rw [hb]; exact hdg) t
  simp only [arrV_size] at h1
  exact h1 st
theorem vx_castZ {D : va_G} {cl : List vw_C} {ws : va_W} {tys : List (ClassId × FieldType)} {a : Nat} (hexec : p.tables.exec = Jvm.exec) (hb : c.code = cc) (hK : va_K D cl tys s) (hP : va_P D cl ws H) (q0 t0 : Nat) {cA : ClassId} {n : Nat} {f : Nat → Int32} (ha : ws[q0]? = some (a, .inl (cA, n, .inl f))) (ht : tys[t0]? = some (cA, .char)) {i : Int32} {x : Int32} (hout : ¬ vp_in i n) (hdg : decode cc pc = .ok (.castore, 1))
    (k : ∀ tx : String, tx = (toString "Index " ++ toString i ++ toString " out of bounds for length " ++ toString n : String) → vx_Note p l e R s m args below meth c H locs cells slots Q (F0 m pc ls rest) "java/lang/ArrayIndexOutOfBoundsException" tx) : W p l e R s m args below meth c H locs cells slots Q (F0 m pc ls (.int x :: .int i :: .ref a :: rest)) := by
  intro T hT X
  obtain ⟨t, st, q⟩ := k _ rfl T hT X
  refine ⟨t, ?_, q⟩
  have h1 := X.castoreOut hexec (by rw [hT]; exact hP q0 _ ha) ((hK.2 t0 _ ht).1 n (fun j => .int (f j))) (j := i) (by show (i < 0 ∨ (arrV _ _ _).slots.size ≤ _); rw [arrV_size]; exact Classical.byContradiction hout) (g := F0 m pc ls (.int x :: .int i :: .ref a :: rest)) rfl (rest := rest) rfl (by rw [hb]; exact hdg) t
  simp only [arrV_size] at h1
  exact h1 st
theorem vx_saldZ {D : va_G} {cl : List vw_C} {ws : va_W} {tys : List (ClassId × FieldType)} {a : Nat} (hexec : p.tables.exec = Jvm.exec) (hb : c.code = cc) (hK : va_K D cl tys s) (hP : va_P D cl ws H) (q0 t0 : Nat) {cA : ClassId} {n : Nat} {f : Nat → Int32} (ha : ws[q0]? = some (a, .inl (cA, n, .inl f))) (ht : tys[t0]? = some (cA, .short)) {i : Int32} (hout : ¬ vp_in i n) (hdg : decode cc pc = .ok (.saload, 1))
    (k : ∀ tx : String, tx = (toString "Index " ++ toString i ++ toString " out of bounds for length " ++ toString n : String) → vx_Note p l e R s m args below meth c H locs cells slots Q (F0 m pc ls rest) "java/lang/ArrayIndexOutOfBoundsException" tx) : W p l e R s m args below meth c H locs cells slots Q (F0 m pc ls (.int i :: .ref a :: rest)) := by
  intro T hT X
  obtain ⟨t, st, q⟩ := k _ rfl T hT X
  refine ⟨t, ?_, q⟩
  have h1 := X.saloadOut hexec (by rw [hT]; exact hP q0 _ ha) ((hK.2 t0 _ ht).1 n (fun j => .int (f j))) (j := i) (by show (i < 0 ∨ (arrV _ _ _).slots.size ≤ _); rw [arrV_size]; exact Classical.byContradiction hout) (g := F0 m pc ls (.int i :: .ref a :: rest)) rfl (rest := rest) rfl (by rw [hb]; exact hdg) t
  simp only [arrV_size] at h1
  exact h1 st
theorem vx_sastZ {D : va_G} {cl : List vw_C} {ws : va_W} {tys : List (ClassId × FieldType)} {a : Nat} (hexec : p.tables.exec = Jvm.exec) (hb : c.code = cc) (hK : va_K D cl tys s) (hP : va_P D cl ws H) (q0 t0 : Nat) {cA : ClassId} {n : Nat} {f : Nat → Int32} (ha : ws[q0]? = some (a, .inl (cA, n, .inl f))) (ht : tys[t0]? = some (cA, .short)) {i : Int32} {x : Int32} (hout : ¬ vp_in i n) (hdg : decode cc pc = .ok (.sastore, 1))
    (k : ∀ tx : String, tx = (toString "Index " ++ toString i ++ toString " out of bounds for length " ++ toString n : String) → vx_Note p l e R s m args below meth c H locs cells slots Q (F0 m pc ls rest) "java/lang/ArrayIndexOutOfBoundsException" tx) : W p l e R s m args below meth c H locs cells slots Q (F0 m pc ls (.int x :: .int i :: .ref a :: rest)) := by
  intro T hT X
  obtain ⟨t, st, q⟩ := k _ rfl T hT X
  refine ⟨t, ?_, q⟩
  have h1 := X.sastoreOut hexec (by rw [hT]; exact hP q0 _ ha) ((hK.2 t0 _ ht).1 n (fun j => .int (f j))) (j := i) (by show (i < 0 ∨ (arrV _ _ _).slots.size ≤ _); rw [arrV_size]; exact Classical.byContradiction hout) (g := F0 m pc ls (.int x :: .int i :: .ref a :: rest)) rfl (rest := rest) rfl (by rw [hb]; exact hdg) t
  simp only [arrV_size] at h1
  exact h1 st
theorem vx_laldZ {D : va_G} {cl : List vw_C} {ws : va_W} {tys : List (ClassId × FieldType)} {a : Nat} (hexec : p.tables.exec = Jvm.exec) (hb : c.code = cc) (hK : va_K D cl tys s) (hP : va_P D cl ws H) (q0 t0 : Nat) {cA : ClassId} {n : Nat} {f : Nat → Int64} (ha : ws[q0]? = some (a, .inl (cA, n, .inr (.inl f)))) (ht : tys[t0]? = some (cA, .long)) {i : Int32} (hout : ¬ vp_in i n) (hdg : decode cc pc = .ok (.laload, 1))
    (k : ∀ tx : String, tx = (toString "Index " ++ toString i ++ toString " out of bounds for length " ++ toString n : String) → vx_Note p l e R s m args below meth c H locs cells slots Q (F0 m pc ls rest) "java/lang/ArrayIndexOutOfBoundsException" tx) : W p l e R s m args below meth c H locs cells slots Q (F0 m pc ls (.int i :: .ref a :: rest)) := by
  intro T hT X
  obtain ⟨t, st, q⟩ := k _ rfl T hT X
  refine ⟨t, ?_, q⟩
  have h1 := X.laloadOut hexec (by rw [hT]; exact hP q0 _ ha) ((hK.2 t0 _ ht).1 n (fun j => .long (f j))) (j := i) (by show (i < 0 ∨ (arrV _ _ _).slots.size ≤ _); rw [arrV_size]; exact Classical.byContradiction hout) (g := F0 m pc ls (.int i :: .ref a :: rest)) rfl (rest := rest) rfl (by rw [hb]; exact hdg) t
  simp only [arrV_size] at h1
  exact h1 st
theorem vx_lastZ {D : va_G} {cl : List vw_C} {ws : va_W} {tys : List (ClassId × FieldType)} {a : Nat} (hexec : p.tables.exec = Jvm.exec) (hb : c.code = cc) (hK : va_K D cl tys s) (hP : va_P D cl ws H) (q0 t0 : Nat) {cA : ClassId} {n : Nat} {f : Nat → Int64} (ha : ws[q0]? = some (a, .inl (cA, n, .inr (.inl f)))) (ht : tys[t0]? = some (cA, .long)) {i : Int32} {x : Int64} (hout : ¬ vp_in i n) (hdg : decode cc pc = .ok (.lastore, 1))
    (k : ∀ tx : String, tx = (toString "Index " ++ toString i ++ toString " out of bounds for length " ++ toString n : String) → vx_Note p l e R s m args below meth c H locs cells slots Q (F0 m pc ls rest) "java/lang/ArrayIndexOutOfBoundsException" tx) : W p l e R s m args below meth c H locs cells slots Q (F0 m pc ls (.long x :: .int i :: .ref a :: rest)) := by
  intro T hT X
  obtain ⟨t, st, q⟩ := k _ rfl T hT X
  refine ⟨t, ?_, q⟩
  have h1 := X.lastoreOut hexec (by rw [hT]; exact hP q0 _ ha) ((hK.2 t0 _ ht).1 n (fun j => .long (f j))) (j := i) (by show (i < 0 ∨ (arrV _ _ _).slots.size ≤ _); rw [arrV_size]; exact Classical.byContradiction hout) (g := F0 m pc ls (.long x :: .int i :: .ref a :: rest)) rfl (rest := rest) rfl (by rw [hb]; exact hdg) t
  simp only [arrV_size] at h1
  exact h1 st
theorem vx_faldZ {D : va_G} {cl : List vw_C} {ws : va_W} {tys : List (ClassId × FieldType)} {a : Nat} (hexec : p.tables.exec = Jvm.exec) (hb : c.code = cc) (hK : va_K D cl tys s) (hP : va_P D cl ws H) (q0 t0 : Nat) {cA : ClassId} {n : Nat} {f : Nat → UInt32} (ha : ws[q0]? = some (a, .inl (cA, n, .inr (.inr (.inl f))))) (ht : tys[t0]? = some (cA, .float)) {i : Int32} (hout : ¬ vp_in i n) (hdg : decode cc pc = .ok (.faload, 1))
    (k : ∀ tx : String, tx = (toString "Index " ++ toString i ++ toString " out of bounds for length " ++ toString n : String) → vx_Note p l e R s m args below meth c H locs cells slots Q (F0 m pc ls rest) "java/lang/ArrayIndexOutOfBoundsException" tx) : W p l e R s m args below meth c H locs cells slots Q (F0 m pc ls (.int i :: .ref a :: rest)) := by
  intro T hT X
  obtain ⟨t, st, q⟩ := k _ rfl T hT X
  refine ⟨t, ?_, q⟩
  have h1 := X.faloadOut hexec (by rw [hT]; exact hP q0 _ ha) ((hK.2 t0 _ ht).1 n (fun j => .float (f j))) (j := i) (by show (i < 0 ∨ (arrV _ _ _).slots.size ≤ _); rw [arrV_size]; exact Classical.byContradiction hout) (g := F0 m pc ls (.int i :: .ref a :: rest)) rfl (rest := rest) rfl (by rw [hb]; exact hdg) t
  simp only [arrV_size] at h1
  exact h1 st
theorem vx_fastZ {D : va_G} {cl : List vw_C} {ws : va_W} {tys : List (ClassId × FieldType)} {a : Nat} (hexec : p.tables.exec = Jvm.exec) (hb : c.code = cc) (hK : va_K D cl tys s) (hP : va_P D cl ws H) (q0 t0 : Nat) {cA : ClassId} {n : Nat} {f : Nat → UInt32} (ha : ws[q0]? = some (a, .inl (cA, n, .inr (.inr (.inl f))))) (ht : tys[t0]? = some (cA, .float)) {i : Int32} {x : UInt32} (hout : ¬ vp_in i n) (hdg : decode cc pc = .ok (.fastore, 1))
    (k : ∀ tx : String, tx = (toString "Index " ++ toString i ++ toString " out of bounds for length " ++ toString n : String) → vx_Note p l e R s m args below meth c H locs cells slots Q (F0 m pc ls rest) "java/lang/ArrayIndexOutOfBoundsException" tx) : W p l e R s m args below meth c H locs cells slots Q (F0 m pc ls (.float x :: .int i :: .ref a :: rest)) := by
  intro T hT X
  obtain ⟨t, st, q⟩ := k _ rfl T hT X
  refine ⟨t, ?_, q⟩
  have h1 := X.fastoreOut hexec (by rw [hT]; exact hP q0 _ ha) ((hK.2 t0 _ ht).1 n (fun j => .float (f j))) (j := i) (by show (i < 0 ∨ (arrV _ _ _).slots.size ≤ _); rw [arrV_size]; exact Classical.byContradiction hout) (g := F0 m pc ls (.float x :: .int i :: .ref a :: rest)) rfl (rest := rest) rfl (by rw [hb]; exact hdg) t
  simp only [arrV_size] at h1
  exact h1 st
theorem vx_daldZ {D : va_G} {cl : List vw_C} {ws : va_W} {tys : List (ClassId × FieldType)} {a : Nat} (hexec : p.tables.exec = Jvm.exec) (hb : c.code = cc) (hK : va_K D cl tys s) (hP : va_P D cl ws H) (q0 t0 : Nat) {cA : ClassId} {n : Nat} {f : Nat → UInt64} (ha : ws[q0]? = some (a, .inl (cA, n, .inr (.inr (.inr (.inl f)))))) (ht : tys[t0]? = some (cA, .double)) {i : Int32} (hout : ¬ vp_in i n) (hdg : decode cc pc = .ok (.daload, 1))
    (k : ∀ tx : String, tx = (toString "Index " ++ toString i ++ toString " out of bounds for length " ++ toString n : String) → vx_Note p l e R s m args below meth c H locs cells slots Q (F0 m pc ls rest) "java/lang/ArrayIndexOutOfBoundsException" tx) : W p l e R s m args below meth c H locs cells slots Q (F0 m pc ls (.int i :: .ref a :: rest)) := by
  intro T hT X
  obtain ⟨t, st, q⟩ := k _ rfl T hT X
  refine ⟨t, ?_, q⟩
  have h1 := X.daloadOut hexec (by rw [hT]; exact hP q0 _ ha) ((hK.2 t0 _ ht).1 n (fun j => .double (f j))) (j := i) (by show (i < 0 ∨ (arrV _ _ _).slots.size ≤ _); rw [arrV_size]; exact Classical.byContradiction hout) (g := F0 m pc ls (.int i :: .ref a :: rest)) rfl (rest := rest) rfl (by rw [hb]; exact hdg) t
  simp only [arrV_size] at h1
  exact h1 st
theorem vx_dastZ {D : va_G} {cl : List vw_C} {ws : va_W} {tys : List (ClassId × FieldType)} {a : Nat} (hexec : p.tables.exec = Jvm.exec) (hb : c.code = cc) (hK : va_K D cl tys s) (hP : va_P D cl ws H) (q0 t0 : Nat) {cA : ClassId} {n : Nat} {f : Nat → UInt64} (ha : ws[q0]? = some (a, .inl (cA, n, .inr (.inr (.inr (.inl f)))))) (ht : tys[t0]? = some (cA, .double)) {i : Int32} {x : UInt64} (hout : ¬ vp_in i n) (hdg : decode cc pc = .ok (.dastore, 1))
    (k : ∀ tx : String, tx = (toString "Index " ++ toString i ++ toString " out of bounds for length " ++ toString n : String) → vx_Note p l e R s m args below meth c H locs cells slots Q (F0 m pc ls rest) "java/lang/ArrayIndexOutOfBoundsException" tx) : W p l e R s m args below meth c H locs cells slots Q (F0 m pc ls (.double x :: .int i :: .ref a :: rest)) := by
  intro T hT X
  obtain ⟨t, st, q⟩ := k _ rfl T hT X
  refine ⟨t, ?_, q⟩
  have h1 := X.dastoreOut hexec (by rw [hT]; exact hP q0 _ ha) ((hK.2 t0 _ ht).1 n (fun j => .double (f j))) (j := i) (by show (i < 0 ∨ (arrV _ _ _).slots.size ≤ _); rw [arrV_size]; exact Classical.byContradiction hout) (g := F0 m pc ls (.double x :: .int i :: .ref a :: rest)) rfl (rest := rest) rfl (by rw [hb]; exact hdg) t
  simp only [arrV_size] at h1
  exact h1 st
theorem vx_arraylengthN (hexec : p.tables.exec = Jvm.exec) (hb : c.code = cc) (hdg : decode cc pc = .ok (.arraylength, 1)) (k : vx_NoteN p l e R s m args below meth c H locs cells slots Q (F0 m pc ls rest)) : W p l e R s m args below meth c H locs cells slots Q (F0 m pc ls (.null :: rest)) := by
  intro T hT X
  obtain ⟨t, st, q⟩ := k T hT X
  exact ⟨t, X.arraylengthNull hexec (g := F0 m pc ls (.null :: rest)) rfl (rest := rest) rfl (by rw [hb]; exact hdg) t st, q⟩
theorem vx_ialoadN (hexec : p.tables.exec = Jvm.exec) (hb : c.code = cc) {i : Int32} (hdg : decode cc pc = .ok (.iaload, 1)) (k : vx_NoteN p l e R s m args below meth c H locs cells slots Q (F0 m pc ls rest)) : W p l e R s m args below meth c H locs cells slots Q (F0 m pc ls (.int i :: .null :: rest)) := by
  intro T hT X
  obtain ⟨t, st, q⟩ := k T hT X
  exact ⟨t, X.ialoadNull hexec (g := F0 m pc ls (.int i :: .null :: rest)) rfl (rest := rest) rfl (by rw [hb]; exact hdg) t st, q⟩
theorem vx_laloadN (hexec : p.tables.exec = Jvm.exec) (hb : c.code = cc) {i : Int32} (hdg : decode cc pc = .ok (.laload, 1)) (k : vx_NoteN p l e R s m args below meth c H locs cells slots Q (F0 m pc ls rest)) : W p l e R s m args below meth c H locs cells slots Q (F0 m pc ls (.int i :: .null :: rest)) := by
  intro T hT X
  obtain ⟨t, st, q⟩ := k T hT X
  exact ⟨t, X.laloadNull hexec (g := F0 m pc ls (.int i :: .null :: rest)) rfl (rest := rest) rfl (by rw [hb]; exact hdg) t st, q⟩
theorem vx_faloadN (hexec : p.tables.exec = Jvm.exec) (hb : c.code = cc) {i : Int32} (hdg : decode cc pc = .ok (.faload, 1)) (k : vx_NoteN p l e R s m args below meth c H locs cells slots Q (F0 m pc ls rest)) : W p l e R s m args below meth c H locs cells slots Q (F0 m pc ls (.int i :: .null :: rest)) := by
  intro T hT X
  obtain ⟨t, st, q⟩ := k T hT X
  exact ⟨t, X.faloadNull hexec (g := F0 m pc ls (.int i :: .null :: rest)) rfl (rest := rest) rfl (by rw [hb]; exact hdg) t st, q⟩
theorem vx_daloadN (hexec : p.tables.exec = Jvm.exec) (hb : c.code = cc) {i : Int32} (hdg : decode cc pc = .ok (.daload, 1)) (k : vx_NoteN p l e R s m args below meth c H locs cells slots Q (F0 m pc ls rest)) : W p l e R s m args below meth c H locs cells slots Q (F0 m pc ls (.int i :: .null :: rest)) := by
  intro T hT X
  obtain ⟨t, st, q⟩ := k T hT X
  exact ⟨t, X.daloadNull hexec (g := F0 m pc ls (.int i :: .null :: rest)) rfl (rest := rest) rfl (by rw [hb]; exact hdg) t st, q⟩
theorem vx_aaloadN (hexec : p.tables.exec = Jvm.exec) (hb : c.code = cc) {i : Int32} (hdg : decode cc pc = .ok (.aaload, 1)) (k : vx_NoteN p l e R s m args below meth c H locs cells slots Q (F0 m pc ls rest)) : W p l e R s m args below meth c H locs cells slots Q (F0 m pc ls (.int i :: .null :: rest)) := by
  intro T hT X
  obtain ⟨t, st, q⟩ := k T hT X
  exact ⟨t, X.aaloadNull hexec (g := F0 m pc ls (.int i :: .null :: rest)) rfl (rest := rest) rfl (by rw [hb]; exact hdg) t st, q⟩
theorem vx_baloadN (hexec : p.tables.exec = Jvm.exec) (hb : c.code = cc) {i : Int32} (hdg : decode cc pc = .ok (.baload, 1)) (k : vx_NoteN p l e R s m args below meth c H locs cells slots Q (F0 m pc ls rest)) : W p l e R s m args below meth c H locs cells slots Q (F0 m pc ls (.int i :: .null :: rest)) := by
  intro T hT X
  obtain ⟨t, st, q⟩ := k T hT X
  exact ⟨t, X.baloadNull hexec (g := F0 m pc ls (.int i :: .null :: rest)) rfl (rest := rest) rfl (by rw [hb]; exact hdg) t st, q⟩
theorem vx_caloadN (hexec : p.tables.exec = Jvm.exec) (hb : c.code = cc) {i : Int32} (hdg : decode cc pc = .ok (.caload, 1)) (k : vx_NoteN p l e R s m args below meth c H locs cells slots Q (F0 m pc ls rest)) : W p l e R s m args below meth c H locs cells slots Q (F0 m pc ls (.int i :: .null :: rest)) := by
  intro T hT X
  obtain ⟨t, st, q⟩ := k T hT X
  exact ⟨t, X.caloadNull hexec (g := F0 m pc ls (.int i :: .null :: rest)) rfl (rest := rest) rfl (by rw [hb]; exact hdg) t st, q⟩
theorem vx_saloadN (hexec : p.tables.exec = Jvm.exec) (hb : c.code = cc) {i : Int32} (hdg : decode cc pc = .ok (.saload, 1)) (k : vx_NoteN p l e R s m args below meth c H locs cells slots Q (F0 m pc ls rest)) : W p l e R s m args below meth c H locs cells slots Q (F0 m pc ls (.int i :: .null :: rest)) := by
  intro T hT X
  obtain ⟨t, st, q⟩ := k T hT X
  exact ⟨t, X.saloadNull hexec (g := F0 m pc ls (.int i :: .null :: rest)) rfl (rest := rest) rfl (by rw [hb]; exact hdg) t st, q⟩
theorem vx_iastoreN (hexec : p.tables.exec = Jvm.exec) (hb : c.code = cc) {x : Int32} {i : Int32} (hdg : decode cc pc = .ok (.iastore, 1)) (k : vx_NoteN p l e R s m args below meth c H locs cells slots Q (F0 m pc ls rest)) : W p l e R s m args below meth c H locs cells slots Q (F0 m pc ls (.int x :: .int i :: .null :: rest)) := by
  intro T hT X
  obtain ⟨t, st, q⟩ := k T hT X
  exact ⟨t, X.iastoreNull hexec (g := F0 m pc ls (.int x :: .int i :: .null :: rest)) rfl (rest := rest) rfl (by rw [hb]; exact hdg) t st, q⟩
theorem vx_lastoreN (hexec : p.tables.exec = Jvm.exec) (hb : c.code = cc) {x : Int64} {i : Int32} (hdg : decode cc pc = .ok (.lastore, 1)) (k : vx_NoteN p l e R s m args below meth c H locs cells slots Q (F0 m pc ls rest)) : W p l e R s m args below meth c H locs cells slots Q (F0 m pc ls (.long x :: .int i :: .null :: rest)) := by
  intro T hT X
  obtain ⟨t, st, q⟩ := k T hT X
  exact ⟨t, X.lastoreNull hexec (g := F0 m pc ls (.long x :: .int i :: .null :: rest)) rfl (rest := rest) rfl (by rw [hb]; exact hdg) t st, q⟩
theorem vx_fastoreN (hexec : p.tables.exec = Jvm.exec) (hb : c.code = cc) {x : UInt32} {i : Int32} (hdg : decode cc pc = .ok (.fastore, 1)) (k : vx_NoteN p l e R s m args below meth c H locs cells slots Q (F0 m pc ls rest)) : W p l e R s m args below meth c H locs cells slots Q (F0 m pc ls (.float x :: .int i :: .null :: rest)) := by
  intro T hT X
  obtain ⟨t, st, q⟩ := k T hT X
  exact ⟨t, X.fastoreNull hexec (g := F0 m pc ls (.float x :: .int i :: .null :: rest)) rfl (rest := rest) rfl (by rw [hb]; exact hdg) t st, q⟩
theorem vx_dastoreN (hexec : p.tables.exec = Jvm.exec) (hb : c.code = cc) {x : UInt64} {i : Int32} (hdg : decode cc pc = .ok (.dastore, 1)) (k : vx_NoteN p l e R s m args below meth c H locs cells slots Q (F0 m pc ls rest)) : W p l e R s m args below meth c H locs cells slots Q (F0 m pc ls (.double x :: .int i :: .null :: rest)) := by
  intro T hT X
  obtain ⟨t, st, q⟩ := k T hT X
  exact ⟨t, X.dastoreNull hexec (g := F0 m pc ls (.double x :: .int i :: .null :: rest)) rfl (rest := rest) rfl (by rw [hb]; exact hdg) t st, q⟩
theorem vx_bastoreN (hexec : p.tables.exec = Jvm.exec) (hb : c.code = cc) {x : Int32} {i : Int32} (hdg : decode cc pc = .ok (.bastore, 1)) (k : vx_NoteN p l e R s m args below meth c H locs cells slots Q (F0 m pc ls rest)) : W p l e R s m args below meth c H locs cells slots Q (F0 m pc ls (.int x :: .int i :: .null :: rest)) := by
  intro T hT X
  obtain ⟨t, st, q⟩ := k T hT X
  exact ⟨t, X.bastoreNull hexec (g := F0 m pc ls (.int x :: .int i :: .null :: rest)) rfl (rest := rest) rfl (by rw [hb]; exact hdg) t st, q⟩
theorem vx_castoreN (hexec : p.tables.exec = Jvm.exec) (hb : c.code = cc) {x : Int32} {i : Int32} (hdg : decode cc pc = .ok (.castore, 1)) (k : vx_NoteN p l e R s m args below meth c H locs cells slots Q (F0 m pc ls rest)) : W p l e R s m args below meth c H locs cells slots Q (F0 m pc ls (.int x :: .int i :: .null :: rest)) := by
  intro T hT X
  obtain ⟨t, st, q⟩ := k T hT X
  exact ⟨t, X.castoreNull hexec (g := F0 m pc ls (.int x :: .int i :: .null :: rest)) rfl (rest := rest) rfl (by rw [hb]; exact hdg) t st, q⟩
theorem vx_sastoreN (hexec : p.tables.exec = Jvm.exec) (hb : c.code = cc) {x : Int32} {i : Int32} (hdg : decode cc pc = .ok (.sastore, 1)) (k : vx_NoteN p l e R s m args below meth c H locs cells slots Q (F0 m pc ls rest)) : W p l e R s m args below meth c H locs cells slots Q (F0 m pc ls (.int x :: .int i :: .null :: rest)) := by
  intro T hT X
  obtain ⟨t, st, q⟩ := k T hT X
  exact ⟨t, X.sastoreNull hexec (g := F0 m pc ls (.int x :: .int i :: .null :: rest)) rfl (rest := rest) rfl (by rw [hb]; exact hdg) t st, q⟩
theorem vx_invokeN {own C : String} {index maxL : Nat} {y : MethodName} {bytes : ByteArray} {ret : Option FieldType} (hexec : p.tables.exec = Jvm.exec) (hb : c.code = cc) (hown : s.vm.findClass own = some m.cls) (hlink : (Cond.methodLink own index y).before args s = true) (hinst : (Cond.instanceMethod y).before args s = true) (hcode : (Cond.code y bytes maxL ret).before args s = true) (hsel : (Cond.selects C y y).before args s = true)
    (hx : y.cls ≠ "java/lang/invoke/MethodHandle" ∧ y.cls ≠ "java/lang/invoke/VarHandle") {As : List Value} (hlen : (parseMethodDescriptor y.desc).map (fun d => d.parameters.length) = some As.length) (hdg : decode cc pc = .ok (.invokevirtual index, 3))
    (k : vx_NoteN p l e R s m args below meth c H locs cells slots Q (F0 m pc ls rest)) {st0 : List Value} (hst : st0 = As.reverse ++ .null :: rest) : W p l e R s m args below meth c H locs cells slots Q (F0 m pc ls st0) := by
  intro T hT X
  obtain ⟨r0, r, hn, hrm, hstR, hsigR⟩ := va_Decl.of hinst hcode
  obtain ⟨c2, r2, m2, q1, q2, q3, q4, kP, hkP, hkPi⟩ := Cond.selects_spec hsel
  cases hn.symm.trans q3
  have hl9 : As.length = r.sig.parameters.length := by
    rw [hsigR] at hlen
    exact (Option.some.inj hlen).symm
  obtain ⟨vm', X1, st1⟩ := X.invokevirtualNull hexec hown hlink hn hrm hstR hkP hkPi hx (g := F0 m pc ls st0) rfl (argsL := As) (rest := rest) hl9 hst (by rw [hb]; exact hdg)
  obtain ⟨t, st, q⟩ := k (T.setVm vm') hT X1
  exact ⟨t, st1 t st, q⟩
theorem vx_newarrayZ {atype : ArrayType} (hexec : p.tables.exec = Jvm.exec) (hb : c.code = cc) {n : Int32} (h0 : n < 0) (hdg : decode cc pc = .ok (.newarray atype, 2)) (k : ∀ tx : String, tx = toString n → vx_Note p l e R s m args below meth c H locs cells slots Q (F0 m pc ls rest) "java/lang/NegativeArraySizeException" tx) : W p l e R s m args below meth c H locs cells slots Q (F0 m pc ls (.int n :: rest)) := by
  intro T hT X
  obtain ⟨t, st, q⟩ := k _ rfl T hT X
  exact ⟨t, X.newarrayNegative hexec (g := F0 m pc ls (.int n :: rest)) rfl h0 (rest := rest) rfl (by rw [hb]; exact hdg) t st, q⟩
end
end VXM
/-! ===== END ===== -/
end
section
/-! ===== BEGIN printed: names, fields, word lists, decode rows ===== -/
def RX0 : String := "RightsSteps$GivenSeeds"
def TX0 : u_T := fun k => match k with
  | 0 => ("RightsSteps$GivenSeeds", "seeds", "[I", true)
  | _ => ("RightsSteps$GivenSeeds", "size", "I", false)
def tyX0 : Nat → FieldType := fun k => match k with
  | 0 => .array .int
  | _ => .int
abbrev wsX00 : List Cond := u_ws RX0 TX0 2
theorem nmX0 : ∀ a, a < 2 → ∀ b, b < 2 → a ≠ b → (TX0 a).2.1 ≠ (TX0 b).2.1 := by decide +kernel
theorem tyX0_ok : ∀ k, k < 2 → parseFieldDescriptor (TX0 k).2.2.1 = some (tyX0 k) := by decide +kernel
abbrev cX0_init : ByteArray := prog_2_method_1_code
def yX0_init : MethodName := ⟨RX0, "<init>", "()V"⟩
abbrev cX0_has : ByteArray := prog_2_method_2_code
def yX0_has : MethodName := ⟨RX0, "has", "(I)Z"⟩
abbrev cX0_add : ByteArray := prog_2_method_3_code
def yX0_add : MethodName := ⟨RX0, "add", "(I)V"⟩
abbrev cX0_forgetAll : ByteArray := prog_2_method_4_code
def yX0_forgetAll : MethodName := ⟨RX0, "forgetAll", "()V"⟩
def RX1 : String := "RightsSteps$Level"
def TX1 : u_T := fun k => match k with
  | 0 => ("RightsSteps$Level", "number", "I", true)
  | 1 => ("RightsSteps$Level", "kind", "I", true)
  | 2 => ("RightsSteps$Level", "tries", "I", true)
  | _ => ("RightsSteps$Level", "delay", "J", true)
def tyX1 : Nat → FieldType := fun k => match k with
  | 0 => .int
  | 1 => .int
  | 2 => .int
  | _ => .long
abbrev wsX10 : List Cond := u_ws RX1 TX1 4
theorem nmX1 : ∀ a, a < 4 → ∀ b, b < 4 → a ≠ b → (TX1 a).2.1 ≠ (TX1 b).2.1 := by decide +kernel
theorem tyX1_ok : ∀ k, k < 4 → parseFieldDescriptor (TX1 k).2.2.1 = some (tyX1 k) := by decide +kernel
abbrev cX1_init : ByteArray := prog_3_method_1_code
def yX1_init : MethodName := ⟨RX1, "<init>", "(IIIJ)V"⟩
abbrev cX1_needsRole : ByteArray := prog_3_method_2_code
def yX1_needsRole : MethodName := ⟨RX1, "needsRole", "()Z"⟩
abbrev cX1_isForSession : ByteArray := prog_3_method_3_code
def yX1_isForSession : MethodName := ⟨RX1, "isForSession", "(I)Z"⟩
abbrev cX1_keyTo : ByteArray := prog_3_method_4_code
def yX1_keyTo : MethodName := ⟨RX1, "keyTo", "(I)I"⟩
abbrev cX1_shiftedKeyTo : ByteArray := prog_3_method_5_code
def yX1_shiftedKeyTo : MethodName := ⟨RX1, "shiftedKeyTo", "(I)I"⟩
def RX2 : String := "RightsSteps$Tape"
def TX2 : u_T := fun k => match k with
  | 0 => ("RightsSteps$Tape", "numbers", "[I", true)
  | 1 => ("RightsSteps$Tape", "first", "I", false)
  | _ => ("RightsSteps$Tape", "size", "I", false)
def tyX2 : Nat → FieldType := fun k => match k with
  | 0 => .array .int
  | 1 => .int
  | _ => .int
abbrev wsX20 : List Cond := u_ws RX2 TX2 3
theorem nmX2 : ∀ a, a < 3 → ∀ b, b < 3 → a ≠ b → (TX2 a).2.1 ≠ (TX2 b).2.1 := by decide +kernel
theorem tyX2_ok : ∀ k, k < 3 → parseFieldDescriptor (TX2 k).2.2.1 = some (tyX2 k) := by decide +kernel
abbrev cX2_init : ByteArray := prog_4_method_1_code
def yX2_init : MethodName := ⟨RX2, "<init>", "()V"⟩
abbrev cX2_add : ByteArray := prog_4_method_2_code
def yX2_add : MethodName := ⟨RX2, "add", "(I)V"⟩
abbrev cX2_takeSeed : ByteArray := prog_4_method_3_code
def yX2_takeSeed : MethodName := ⟨RX2, "takeSeed", "(LRightsSteps$GivenSeeds;)I"⟩
abbrev cX2_takeFirst : ByteArray := prog_4_method_4_code
def yX2_takeFirst : MethodName := ⟨RX2, "takeFirst", "()I"⟩
def RX3 : String := "RightsSteps$Tester"
def TX3 : u_T := fun k => match k with
  | 0 => ("RightsSteps$Tester", "number", "I", true)
  | 1 => ("RightsSteps$Tester", "session", "I", false)
  | 2 => ("RightsSteps$Tester", "roleUntil", "J", false)
  | 3 => ("RightsSteps$Tester", "openLevel", "I", false)
  | 4 => ("RightsSteps$Tester", "awaitedLevel", "I", false)
  | 5 => ("RightsSteps$Tester", "awaitedSeed", "I", false)
  | 6 => ("RightsSteps$Tester", "octets", "I", false)
  | 7 => ("RightsSteps$Tester", "keySoFar", "I", false)
  | 8 => ("RightsSteps$Tester", "out", "I", false)
  | 9 => ("RightsSteps$Tester", "usedTries", "[I", true)
  | _ => ("RightsSteps$Tester", "lockedUntil", "[J", true)
def tyX3 : Nat → FieldType := fun k => match k with
  | 0 => .int
  | 1 => .int
  | 2 => .long
  | 3 => .int
  | 4 => .int
  | 5 => .int
  | 6 => .int
  | 7 => .int
  | 8 => .int
  | 9 => .array .int
  | _ => .array .long
abbrev wsX30 : List Cond := u_ws RX3 TX3 11
theorem nmX3 : ∀ a, a < 11 → ∀ b, b < 11 → a ≠ b → (TX3 a).2.1 ≠ (TX3 b).2.1 := by decide +kernel
theorem tyX3_ok : ∀ k, k < 11 → parseFieldDescriptor (TX3 k).2.2.1 = some (tyX3 k) := by decide +kernel
abbrev cX3_init : ByteArray := prog_5_method_1_code
def yX3_init : MethodName := ⟨RX3, "<init>", "(I)V"⟩
abbrev cX3_startSession : ByteArray := prog_5_method_2_code
def yX3_startSession : MethodName := ⟨RX3, "startSession", "(I)V"⟩
abbrev cX3_awaitKey : ByteArray := prog_5_method_3_code
def yX3_awaitKey : MethodName := ⟨RX3, "awaitKey", "(II)V"⟩
abbrev cX3_addOctet : ByteArray := prog_5_method_4_code
def yX3_addOctet : MethodName := ⟨RX3, "addOctet", "(B)V"⟩
abbrev cX3_dropOctets : ByteArray := prog_5_method_5_code
def yX3_dropOctets : MethodName := ⟨RX3, "dropOctets", "()V"⟩
abbrev cX3_usedTries : ByteArray := prog_5_method_6_code
def yX3_usedTries : MethodName := ⟨RX3, "usedTries", "(I)I"⟩
abbrev cX3_setUsedTries : ByteArray := prog_5_method_7_code
def yX3_setUsedTries : MethodName := ⟨RX3, "setUsedTries", "(II)V"⟩
abbrev cX3_lockedUntil : ByteArray := prog_5_method_8_code
def yX3_lockedUntil : MethodName := ⟨RX3, "lockedUntil", "(I)J"⟩
abbrev cX3_lock : ByteArray := prog_5_method_9_code
def yX3_lock : MethodName := ⟨RX3, "lock", "(IJ)V"⟩
def RX4 : String := "RightsSteps$UseLog"
def TX4 : u_T := fun k => match k with
  | 0 => ("RightsSteps$UseLog", "parts", "[I", true)
  | 1 => ("RightsSteps$UseLog", "kept", "I", false)
  | _ => ("RightsSteps$UseLog", "count", "I", false)
def tyX4 : Nat → FieldType := fun k => match k with
  | 0 => .array .int
  | 1 => .int
  | _ => .int
abbrev wsX40 : List Cond := u_ws RX4 TX4 3
theorem nmX4 : ∀ a, a < 3 → ∀ b, b < 3 → a ≠ b → (TX4 a).2.1 ≠ (TX4 b).2.1 := by decide +kernel
theorem tyX4_ok : ∀ k, k < 3 → parseFieldDescriptor (TX4 k).2.2.1 = some (tyX4 k) := by decide +kernel
abbrev cX4_init : ByteArray := prog_6_method_1_code
def yX4_init : MethodName := ⟨RX4, "<init>", "()V"⟩
abbrev cX4_add : ByteArray := prog_6_method_2_code
def yX4_add : MethodName := ⟨RX4, "add", "(III)V"⟩
abbrev cX4_has : ByteArray := prog_6_method_3_code
def yX4_has : MethodName := ⟨RX4, "has", "(I)Z"⟩
abbrev cX4_part : ByteArray := prog_6_method_4_code
def yX4_part : MethodName := ⟨RX4, "part", "(II)I"⟩
def RX5 : String := "RightsSteps"
def TX5 : u_T := fun k => match k with
  | 0 => ("RightsSteps", "levels", "[LRightsSteps$Level;", true)
  | 1 => ("RightsSteps", "tape", "LRightsSteps$Tape;", true)
  | 2 => ("RightsSteps", "given", "LRightsSteps$GivenSeeds;", true)
  | 3 => ("RightsSteps", "uses", "LRightsSteps$UseLog;", true)
  | 4 => ("RightsSteps", "testers", "[LRightsSteps$Tester;", true)
  | 5 => ("RightsSteps", "atHand", "LRightsSteps$Tester;", false)
  | 6 => ("RightsSteps", "levelsMade", "I", false)
  | _ => ("RightsSteps", "time", "J", false)
def tyX5 : Nat → FieldType := fun k => match k with
  | 0 => .array (.object "RightsSteps$Level")
  | 1 => .object "RightsSteps$Tape"
  | 2 => .object "RightsSteps$GivenSeeds"
  | 3 => .object "RightsSteps$UseLog"
  | 4 => .array (.object "RightsSteps$Tester")
  | 5 => .object "RightsSteps$Tester"
  | 6 => .int
  | _ => .long
abbrev wsX50 : List Cond := u_ws RX5 TX5 8
theorem nmX5 : ∀ a, a < 8 → ∀ b, b < 8 → a ≠ b → (TX5 a).2.1 ≠ (TX5 b).2.1 := by decide +kernel
theorem tyX5_ok : ∀ k, k < 8 → parseFieldDescriptor (TX5 k).2.2.1 = some (tyX5 k) := by decide +kernel
abbrev cX5_init : ByteArray := prog_1_method_1_code
def yX5_init : MethodName := ⟨RX5, "<init>", "()V"⟩
abbrev cX5_level : ByteArray := prog_1_method_2_code
def yX5_level : MethodName := ⟨RX5, "level", "(IIIJ)I"⟩
abbrev cX5_tape : ByteArray := prog_1_method_3_code
def yX5_tape : MethodName := ⟨RX5, "tape", "(I)V"⟩
abbrev cX5_seed : ByteArray := prog_1_method_4_code
def yX5_seed : MethodName := ⟨RX5, "seed", "(IJ)I"⟩
abbrev cX5_out : ByteArray := prog_1_method_5_code
def yX5_out : MethodName := ⟨RX5, "out", "(I)B"⟩
abbrev cX5_key : ByteArray := prog_1_method_6_code
def yX5_key : MethodName := ⟨RX5, "key", "(IBZ)I"⟩
abbrev cX5_open : ByteArray := prog_1_method_7_code
def yX5_open : MethodName := ⟨RX5, "open", "(I)I"⟩
abbrev cX5_session : ByteArray := prog_1_method_8_code
def yX5_session : MethodName := ⟨RX5, "session", "(I)I"⟩
abbrev cX5_reset : ByteArray := prog_1_method_9_code
def yX5_reset : MethodName := ⟨RX5, "reset", "()I"⟩
abbrev cX5_role : ByteArray := prog_1_method_10_code
def yX5_role : MethodName := ⟨RX5, "role", "(IZJ)I"⟩
abbrev cX5_left : ByteArray := prog_1_method_11_code
def yX5_left : MethodName := ⟨RX5, "left", "(IJ)I"⟩
abbrev cX5_log : ByteArray := prog_1_method_12_code
def yX5_log : MethodName := ⟨RX5, "log", "(II)I"⟩
abbrev cX5_digit : ByteArray := prog_1_method_13_code
def yX5_digit : MethodName := ⟨RX5, "digit", "(I)I"⟩
abbrev cX5_tester : ByteArray := prog_1_method_14_code
def yX5_tester : MethodName := ⟨RX5, "tester", "(I)I"⟩
abbrev cX5_madeLevel : ByteArray := prog_1_method_15_code
def yX5_madeLevel : MethodName := ⟨RX5, "madeLevel", "(I)LRightsSteps$Level;"⟩
abbrev cX5_askForSeed : ByteArray := prog_1_method_16_code
def yX5_askForSeed : MethodName := ⟨RX5, "askForSeed", "(LRightsSteps$Level;)I"⟩
abbrev cX5_tryKey : ByteArray := prog_1_method_17_code
def yX5_tryKey : MethodName := ⟨RX5, "tryKey", "(LRightsSteps$Level;I)I"⟩
abbrev cX5_countDigits : ByteArray := prog_1_method_18_code
def yX5_countDigits : MethodName := ⟨RX5, "countDigits", "(J)I"⟩
abbrev cX5_isPlain : ByteArray := prog_1_method_19_code
def yX5_isPlain : MethodName := ⟨RX5, "isPlain", "(I)Z"⟩
def RX6 : String := "RightsStepsModel"
def TX6 : u_T := fun k => match k with
  | 0 => ("RightsStepsModel", "code", "I", false)
  | 1 => ("RightsStepsModel", "time", "J", false)
  | 2 => ("RightsStepsModel", "hand", "I", false)
  | 3 => ("RightsStepsModel", "made", "I", false)
  | 4 => ("RightsStepsModel", "kind", "[I", true)
  | 5 => ("RightsStepsModel", "tries", "[I", true)
  | 6 => ("RightsStepsModel", "delay", "[J", true)
  | 7 => ("RightsStepsModel", "typed", "I", false)
  | 8 => ("RightsStepsModel", "read", "I", false)
  | 9 => ("RightsStepsModel", "tape", "[I", true)
  | 10 => ("RightsStepsModel", "givens", "I", false)
  | 11 => ("RightsStepsModel", "given", "[I", true)
  | 12 => ("RightsStepsModel", "session", "[I", true)
  | 13 => ("RightsStepsModel", "roleUntil", "[J", true)
  | 14 => ("RightsStepsModel", "open", "[I", true)
  | 15 => ("RightsStepsModel", "awaited", "[I", true)
  | 16 => ("RightsStepsModel", "awaitedSeed", "[I", true)
  | 17 => ("RightsStepsModel", "out", "[I", true)
  | 18 => ("RightsStepsModel", "octets", "[I", true)
  | 19 => ("RightsStepsModel", "octetRow", "[I", true)
  | 20 => ("RightsStepsModel", "used", "[I", true)
  | 21 => ("RightsStepsModel", "locked", "[J", true)
  | 22 => ("RightsStepsModel", "wasLocked", "[Z", true)
  | 23 => ("RightsStepsModel", "uses", "I", false)
  | 24 => ("RightsStepsModel", "useBy", "[I", true)
  | 25 => ("RightsStepsModel", "useLevel", "[I", true)
  | _ => ("RightsStepsModel", "useAnswer", "[I", true)
def tyX6 : Nat → FieldType := fun k => match k with
  | 0 => .int
  | 1 => .long
  | 2 => .int
  | 3 => .int
  | 4 => .array .int
  | 5 => .array .int
  | 6 => .array .long
  | 7 => .int
  | 8 => .int
  | 9 => .array .int
  | 10 => .int
  | 11 => .array .int
  | 12 => .array .int
  | 13 => .array .long
  | 14 => .array .int
  | 15 => .array .int
  | 16 => .array .int
  | 17 => .array .int
  | 18 => .array .int
  | 19 => .array .int
  | 20 => .array .int
  | 21 => .array .long
  | 22 => .array .boolean
  | 23 => .int
  | 24 => .array .int
  | 25 => .array .int
  | _ => .array .int
abbrev wsX60 : List Cond := u_ws RX6 TX6 27
theorem nmX6 : ∀ a, a < 27 → ∀ b, b < 27 → a ≠ b → (TX6 a).2.1 ≠ (TX6 b).2.1 := by decide +kernel
theorem tyX6_ok : ∀ k, k < 27 → parseFieldDescriptor (TX6 k).2.2.1 = some (tyX6 k) := by decide +kernel
abbrev cX6_init : ByteArray := prog_8_method_1_code
def yX6_init : MethodName := ⟨RX6, "<init>", "()V"⟩
abbrev cX6_thrown : ByteArray := prog_8_method_2_code
def yX6_thrown : MethodName := ⟨RX6, "thrown", "()I"⟩
abbrev cX6_isMade : ByteArray := prog_8_method_3_code
def yX6_isMade : MethodName := ⟨RX6, "isMade", "(I)Z"⟩
abbrev cX6_level : ByteArray := prog_8_method_4_code
def yX6_level : MethodName := ⟨RX6, "level", "(IIIJ)I"⟩
abbrev cX6_tape : ByteArray := prog_8_method_5_code
def yX6_tape : MethodName := ⟨RX6, "tape", "(I)V"⟩
abbrev cX6_isPlain : ByteArray := prog_8_method_6_code
def yX6_isPlain : MethodName := ⟨RX6, "isPlain", "(I)Z"⟩
abbrev cX6_wasGiven : ByteArray := prog_8_method_7_code
def yX6_wasGiven : MethodName := ⟨RX6, "wasGiven", "(I)Z"⟩
abbrev cX6_note : ByteArray := prog_8_method_8_code
def yX6_note : MethodName := ⟨RX6, "note", "(II)I"⟩
abbrev cX6_asked : ByteArray := prog_8_method_9_code
def yX6_asked : MethodName := ⟨RX6, "asked", "(I)I"⟩
abbrev cX6_seed : ByteArray := prog_8_method_10_code
def yX6_seed : MethodName := ⟨RX6, "seed", "(IJ)I"⟩
abbrev cX6_keyTo : ByteArray := prog_8_method_11_code
def yX6_keyTo : MethodName := ⟨RX6, "keyTo", "(II)I"⟩
abbrev cX6_came : ByteArray := prog_8_method_12_code
def yX6_came : MethodName := ⟨RX6, "came", "(III)I"⟩
abbrev cX6_key : ByteArray := prog_8_method_13_code
def yX6_key : MethodName := ⟨RX6, "key", "(IBZ)I"⟩
abbrev cX6_out : ByteArray := prog_8_method_14_code
def yX6_out : MethodName := ⟨RX6, "out", "(I)B"⟩
abbrev cX6_open : ByteArray := prog_8_method_15_code
def yX6_open : MethodName := ⟨RX6, "open", "(I)I"⟩
abbrev cX6_begin : ByteArray := prog_8_method_16_code
def yX6_begin : MethodName := ⟨RX6, "begin", "(II)V"⟩
abbrev cX6_session : ByteArray := prog_8_method_17_code
def yX6_session : MethodName := ⟨RX6, "session", "(I)I"⟩
abbrev cX6_reset : ByteArray := prog_8_method_18_code
def yX6_reset : MethodName := ⟨RX6, "reset", "()I"⟩
abbrev cX6_role : ByteArray := prog_8_method_19_code
def yX6_role : MethodName := ⟨RX6, "role", "(IZJ)I"⟩
abbrev cX6_left : ByteArray := prog_8_method_20_code
def yX6_left : MethodName := ⟨RX6, "left", "(IJ)I"⟩
abbrev cX6_log : ByteArray := prog_8_method_21_code
def yX6_log : MethodName := ⟨RX6, "log", "(II)I"⟩
abbrev cX6_digit : ByteArray := prog_8_method_22_code
def yX6_digit : MethodName := ⟨RX6, "digit", "(I)I"⟩
abbrev cX6_tester : ByteArray := prog_8_method_23_code
def yX6_tester : MethodName := ⟨RX6, "tester", "(I)I"⟩
def RJx145de : String := "java/io/Serializable"
def TJx145de : u_T := fun k => match k with
  | _ => ("", "", "", false)
def tyJx145de : Nat → FieldType := fun k => match k with
  | _ => .int
abbrev wsJx145de0 : List Cond := u_ws RJx145de TJx145de 0
theorem nmJx145de : ∀ a, a < 0 → ∀ b, b < 0 → a ≠ b → (TJx145de a).2.1 ≠ (TJx145de b).2.1 := by decide +kernel
theorem tyJx145de_ok : ∀ k, k < 0 → parseFieldDescriptor (TJx145de k).2.2.1 = some (tyJx145de k) := by decide +kernel
def RJx00060 : String := "java/lang/ArrayIndexOutOfBoundsException"
def TJx00060 : u_T := fun k => match k with
  | 0 => ("java/lang/Throwable", "backtrace", "Ljava/lang/Object;", false)
  | 1 => ("java/lang/Throwable", "detailMessage", "Ljava/lang/String;", false)
  | 2 => ("java/lang/Throwable", "cause", "Ljava/lang/Throwable;", false)
  | 3 => ("java/lang/Throwable", "stackTrace", "[Ljava/lang/StackTraceElement;", false)
  | 4 => ("java/lang/Throwable", "depth", "I", false)
  | _ => ("java/lang/Throwable", "suppressedExceptions", "Ljava/util/List;", false)
def tyJx00060 : Nat → FieldType := fun k => match k with
  | 0 => .object "java/lang/Object"
  | 1 => .object "java/lang/String"
  | 2 => .object "java/lang/Throwable"
  | 3 => .array (.object "java/lang/StackTraceElement")
  | 4 => .int
  | _ => .object "java/util/List"
abbrev wsJx000600 : List Cond := u_ws RJx00060 TJx00060 6
theorem nmJx00060 : ∀ a, a < 6 → ∀ b, b < 6 → a ≠ b → (TJx00060 a).2.1 ≠ (TJx00060 b).2.1 := by decide +kernel
theorem tyJx00060_ok : ∀ k, k < 6 → parseFieldDescriptor (TJx00060 k).2.2.1 = some (tyJx00060 k) := by decide +kernel
abbrev cJx00060_init_da8c8 : ByteArray := prog_9_method_1_code
def yJx00060_init_da8c8 : MethodName := ⟨RJx00060, "<init>", "()V"⟩
abbrev cJx00060_init_a7421 : ByteArray := prog_9_method_2_code
def yJx00060_init_a7421 : MethodName := ⟨RJx00060, "<init>", "(Ljava/lang/String;)V"⟩
def RJ0 : String := "java/lang/String"
def TJ0 : u_T := fun k => match k with
  | 0 => ("java/lang/String", "value", "[B", true)
  | _ => ("java/lang/String", "coder", "B", true)
def tyJ0 : Nat → FieldType := fun k => match k with
  | 0 => .array .byte
  | _ => .byte
abbrev wsJ00 : List Cond := u_ws RJ0 TJ0 2
theorem nmJ0 : ∀ a, a < 2 → ∀ b, b < 2 → a ≠ b → (TJ0 a).2.1 ≠ (TJ0 b).2.1 := by decide +kernel
theorem tyJ0_ok : ∀ k, k < 2 → parseFieldDescriptor (TJ0 k).2.2.1 = some (tyJ0 k) := by decide +kernel
def RJ7 : String := "java/util/Arrays"
def TJ7 : u_T := fun k => match k with
  | _ => ("", "", "", false)
def tyJ7 : Nat → FieldType := fun k => match k with
  | _ => .int
abbrev wsJ70 : List Cond := u_ws RJ7 TJ7 0
theorem nmJ7 : ∀ a, a < 0 → ∀ b, b < 0 → a ≠ b → (TJ7 a).2.1 ≠ (TJ7 b).2.1 := by decide +kernel
theorem tyJ7_ok : ∀ k, k < 0 → parseFieldDescriptor (TJ7 k).2.2.1 = some (tyJ7 k) := by decide +kernel
abbrev cJ7_fill_d0a16 : ByteArray := prog_15_method_101_code
def yJ7_fill_d0a16 : MethodName := ⟨RJ7, "fill", "([JJ)V"⟩
def RL : String := "RightsStepsLaw"
abbrev cL_out : ByteArray := method_3_code
def yL_out : MethodName := ⟨RL, "out", "(LRightsSteps;I[J)I"⟩
abbrev cL_digit : ByteArray := method_4_code
def yL_digit : MethodName := ⟨RL, "digit", "(LRightsSteps;I[J)I"⟩
abbrev cL_law : ByteArray := code
def yL_law : MethodName := ⟨RL, "law", "([I)Z"⟩
def wsX0_init : List Cond := .code yX0_init cX0_init 1 none :: ([.methodLink RX0 1 objectInit, .instanceMethod objectInit, .code objectInit ⟨#[0xb1]⟩ 1 none, .arrayClass .int, .fieldLink RX0 9 "RightsSteps$GivenSeeds" "seeds" "[I"] ++ wsX00)
def wsX0_has : List Cond := .code yX0_has cX0_has 3 (some .boolean) :: ([.fieldLink RX0 13 "RightsSteps$GivenSeeds" "size" "I", .fieldLink RX0 9 "RightsSteps$GivenSeeds" "seeds" "[I"] ++ wsX00 ++ (vx_atM "java/lang/ArrayIndexOutOfBoundsException" ["java/lang/IndexOutOfBoundsException", "java/lang/RuntimeException", "java/lang/Exception"]).filter goodWord)
def wsX0_add : List Cond := .code yX0_add cX0_add 2 none :: ([.fieldLink RX0 13 "RightsSteps$GivenSeeds" "size" "I", .fieldLink RX0 9 "RightsSteps$GivenSeeds" "seeds" "[I"] ++ wsX00 ++ (vx_atM "java/lang/ArrayIndexOutOfBoundsException" ["java/lang/IndexOutOfBoundsException", "java/lang/RuntimeException", "java/lang/Exception"]).filter goodWord)
def wsX0_forgetAll : List Cond := .code yX0_forgetAll cX0_forgetAll 1 none :: ([.fieldLink RX0 13 "RightsSteps$GivenSeeds" "size" "I"] ++ wsX00)
def wsX1_init : List Cond := .code yX1_init cX1_init 6 none :: ([.methodLink RX1 3 objectInit, .instanceMethod objectInit, .code objectInit ⟨#[0xb1]⟩ 1 none, .fieldLink RX1 9 "RightsSteps$Level" "number" "I", .fieldLink RX1 15 "RightsSteps$Level" "kind" "I", .fieldLink RX1 18 "RightsSteps$Level" "tries" "I", .fieldLink RX1 21 "RightsSteps$Level" "delay" "J"] ++ wsX10)
def wsX1_needsRole : List Cond := .code yX1_needsRole cX1_needsRole 1 (some .boolean) :: ([.fieldLink RX1 9 "RightsSteps$Level" "number" "I"] ++ wsX10)
def wsX1_isForSession : List Cond := .code yX1_isForSession cX1_isForSession 2 (some .boolean) :: ([.fieldLink RX1 9 "RightsSteps$Level" "number" "I"] ++ wsX10)
def wsX1_shiftedKeyTo : List Cond := .code yX1_shiftedKeyTo cX1_shiftedKeyTo 5 (some .int) :: ([.fieldLink RX1 9 "RightsSteps$Level" "number" "I", .constant RX1 31 (-306674912)] ++ wsX10)
def wsX1_keyTo : List Cond := .code yX1_keyTo cX1_keyTo 2 (some .int) :: ([.fieldLink RX1 15 "RightsSteps$Level" "kind" "I", .constant RX1 25 (1515870810), .constant RX1 26 (-1640531535), .fieldLink RX1 9 "RightsSteps$Level" "number" "I", .methodLink RX1 27 yX1_shiftedKeyTo, .instanceMethod yX1_shiftedKeyTo, .selects RX1 yX1_shiftedKeyTo yX1_shiftedKeyTo, .initialized RX1, .code yX1_shiftedKeyTo cX1_shiftedKeyTo 5 (some .int), .constant RX1 31 (-306674912)] ++ wsX10)
def wsX2_init : List Cond := .code yX2_init cX2_init 1 none :: ([.methodLink RX2 3 objectInit, .instanceMethod objectInit, .code objectInit ⟨#[0xb1]⟩ 1 none, .arrayClass .int, .fieldLink RX2 11 "RightsSteps$Tape" "numbers" "[I"] ++ wsX20)
def wsX2_add : List Cond := .code yX2_add cX2_add 3 none :: ([.fieldLink RX2 15 "RightsSteps$Tape" "size" "I", .fieldLink RX2 11 "RightsSteps$Tape" "numbers" "[I", .fieldLink RX2 19 "RightsSteps$Tape" "first" "I"] ++ wsX20 ++ (vx_atM "java/lang/ArrayIndexOutOfBoundsException" ["java/lang/IndexOutOfBoundsException", "java/lang/RuntimeException", "java/lang/Exception"]).filter goodWord)
def wsX2_takeFirst : List Cond := .code yX2_takeFirst cX2_takeFirst 2 (some .int) :: ([.fieldLink RX2 19 "RightsSteps$Tape" "first" "I", .fieldLink RX2 11 "RightsSteps$Tape" "numbers" "[I", .fieldLink RX2 15 "RightsSteps$Tape" "size" "I"] ++ wsX20 ++ (vx_atM "java/lang/ArrayIndexOutOfBoundsException" ["java/lang/IndexOutOfBoundsException", "java/lang/RuntimeException", "java/lang/Exception"]).filter goodWord)
def wsX5_isPlain : List Cond := .code yX5_isPlain cX5_isPlain 1 (some .boolean) :: ([.constant RX5 190 (16843009)])
def wsX2_takeSeed : List Cond := .code yX2_takeSeed cX2_takeSeed 4 (some .int) :: ([.fieldLink RX2 15 "RightsSteps$Tape" "size" "I", .methodLink RX2 22 yX2_takeFirst, .instanceMethod yX2_takeFirst, .selects RX2 yX2_takeFirst yX2_takeFirst, .initialized RX2, .code yX2_takeFirst cX2_takeFirst 2 (some .int), .fieldLink RX2 19 "RightsSteps$Tape" "first" "I", .fieldLink RX2 11 "RightsSteps$Tape" "numbers" "[I", .static yX5_isPlain, .initialized RX5, .code yX5_isPlain cX5_isPlain 1 (some .boolean), .constant RX5 190 (16843009), .methodLink RX2 30 yX0_has, .instanceMethod yX0_has, .selects RX0 yX0_has yX0_has, .initialized RX0, .code yX0_has cX0_has 3 (some .boolean), .fieldLink RX0 13 "RightsSteps$GivenSeeds" "size" "I", .fieldLink RX0 9 "RightsSteps$GivenSeeds" "seeds" "[I"] ++ wsX20 ++ wsX00 ++ (vx_atM "java/lang/ArrayIndexOutOfBoundsException" ["java/lang/IndexOutOfBoundsException", "java/lang/RuntimeException", "java/lang/Exception"]).filter goodWord)
def wsJ7_fill_d0a16 : List Cond := .code yJ7_fill_d0a16 cJ7_fill_d0a16 5 none :: ([])
def wsX3_init : List Cond := .code yX3_init cX3_init 2 none :: ([.methodLink RX3 3 objectInit, .instanceMethod objectInit, .code objectInit ⟨#[0xb1]⟩ 1 none, .fieldLink RX3 9 "RightsSteps$Tester" "session" "I", .constantLong RX3 15 (-9223372036854775808), .fieldLink RX3 17 "RightsSteps$Tester" "roleUntil" "J", .fieldLink RX3 21 "RightsSteps$Tester" "openLevel" "I", .fieldLink RX3 24 "RightsSteps$Tester" "awaitedLevel" "I", .arrayClass .int, .fieldLink RX3 27 "RightsSteps$Tester" "usedTries" "[I", .arrayClass .long, .fieldLink RX3 31 "RightsSteps$Tester" "lockedUntil" "[J", .fieldLink RX3 35 "RightsSteps$Tester" "number" "I", .methodLink RX3 38 yJ7_fill_d0a16, .static yJ7_fill_d0a16, .initialized RJ7, .code yJ7_fill_d0a16 cJ7_fill_d0a16 5 none] ++ wsX30)
def wsX3_startSession : List Cond := .code yX3_startSession cX3_startSession 2 none :: ([.fieldLink RX3 9 "RightsSteps$Tester" "session" "I", .fieldLink RX3 24 "RightsSteps$Tester" "awaitedLevel" "I", .fieldLink RX3 21 "RightsSteps$Tester" "openLevel" "I", .constantLong RX3 15 (-9223372036854775808), .fieldLink RX3 17 "RightsSteps$Tester" "roleUntil" "J"] ++ wsX30)
def wsX3_awaitKey : List Cond := .code yX3_awaitKey cX3_awaitKey 3 none :: ([.fieldLink RX3 44 "RightsSteps$Tester" "out" "I", .fieldLink RX3 24 "RightsSteps$Tester" "awaitedLevel" "I", .fieldLink RX3 47 "RightsSteps$Tester" "awaitedSeed" "I"] ++ wsX30)
def wsX3_addOctet : List Cond := .code yX3_addOctet cX3_addOctet 2 none :: ([.fieldLink RX3 50 "RightsSteps$Tester" "octets" "I", .fieldLink RX3 53 "RightsSteps$Tester" "keySoFar" "I"] ++ wsX30)
def wsX3_dropOctets : List Cond := .code yX3_dropOctets cX3_dropOctets 1 none :: ([.fieldLink RX3 50 "RightsSteps$Tester" "octets" "I", .fieldLink RX3 53 "RightsSteps$Tester" "keySoFar" "I"] ++ wsX30)
def wsX3_usedTries : List Cond := .code yX3_usedTries cX3_usedTries 2 (some .int) :: ([.fieldLink RX3 27 "RightsSteps$Tester" "usedTries" "[I"] ++ wsX30 ++ (vx_atM "java/lang/ArrayIndexOutOfBoundsException" ["java/lang/IndexOutOfBoundsException", "java/lang/RuntimeException", "java/lang/Exception"]).filter goodWord)
def wsX3_setUsedTries : List Cond := .code yX3_setUsedTries cX3_setUsedTries 3 none :: ([.fieldLink RX3 27 "RightsSteps$Tester" "usedTries" "[I"] ++ wsX30 ++ (vx_atM "java/lang/ArrayIndexOutOfBoundsException" ["java/lang/IndexOutOfBoundsException", "java/lang/RuntimeException", "java/lang/Exception"]).filter goodWord)
def wsX3_lockedUntil : List Cond := .code yX3_lockedUntil cX3_lockedUntil 2 (some .long) :: ([.fieldLink RX3 31 "RightsSteps$Tester" "lockedUntil" "[J", .constantLong RX3 15 (-9223372036854775808)] ++ wsX30 ++ (vx_atM "java/lang/ArrayIndexOutOfBoundsException" ["java/lang/IndexOutOfBoundsException", "java/lang/RuntimeException", "java/lang/Exception"]).filter goodWord)
def wsX3_lock : List Cond := .code yX3_lock cX3_lock 4 none :: ([.fieldLink RX3 31 "RightsSteps$Tester" "lockedUntil" "[J"] ++ wsX30 ++ (vx_atM "java/lang/ArrayIndexOutOfBoundsException" ["java/lang/IndexOutOfBoundsException", "java/lang/RuntimeException", "java/lang/Exception"]).filter goodWord)
def wsX4_init : List Cond := .code yX4_init cX4_init 1 none :: ([.methodLink RX4 1 objectInit, .instanceMethod objectInit, .code objectInit ⟨#[0xb1]⟩ 1 none, .arrayClass .int, .fieldLink RX4 9 "RightsSteps$UseLog" "parts" "[I"] ++ wsX40)
def wsX4_add : List Cond := .code yX4_add cX4_add 5 none :: ([.fieldLink RX4 13 "RightsSteps$UseLog" "count" "I", .fieldLink RX4 17 "RightsSteps$UseLog" "kept" "I", .fieldLink RX4 9 "RightsSteps$UseLog" "parts" "[I"] ++ wsX40 ++ (vx_atM "java/lang/ArrayIndexOutOfBoundsException" ["java/lang/IndexOutOfBoundsException", "java/lang/RuntimeException", "java/lang/Exception"]).filter goodWord)
def wsX4_has : List Cond := .code yX4_has cX4_has 2 (some .boolean) :: ([.fieldLink RX4 17 "RightsSteps$UseLog" "kept" "I"] ++ wsX40)
def wsX4_part : List Cond := .code yX4_part cX4_part 3 (some .int) :: ([.fieldLink RX4 9 "RightsSteps$UseLog" "parts" "[I", .methodLink RX4 20 yX4_has, .instanceMethod yX4_has, .selects RX4 yX4_has yX4_has, .initialized RX4, .code yX4_has cX4_has 2 (some .boolean), .fieldLink RX4 17 "RightsSteps$UseLog" "kept" "I"] ++ wsX40 ++ (vx_atM "java/lang/ArrayIndexOutOfBoundsException" ["java/lang/IndexOutOfBoundsException", "java/lang/RuntimeException", "java/lang/Exception"]).filter goodWord)
def wsX5_init_r1 : List Cond := [Cond.methodLink RX5 3 objectInit, Cond.instanceMethod objectInit, Cond.code objectInit ⟨#[0xb1]⟩ 1 none, Cond.classLink RX5 11 RX1, Cond.fieldLink RX5 13 "RightsSteps" "levels" "[LRightsSteps$Level;", Cond.classLink RX5 17 RX2, Cond.instantiable RX2 3, Cond.initialized RX2, Cond.fieldLink RX5 20 "RightsSteps" "tape" "LRightsSteps$Tape;", Cond.classLink RX5 24 RX0, Cond.instantiable RX0 2, Cond.initialized RX0, Cond.fieldLink RX5 27 "RightsSteps" "given" "LRightsSteps$GivenSeeds;", Cond.classLink RX5 31 RX4, Cond.instantiable RX4 3, Cond.initialized RX4, Cond.fieldLink RX5 34 "RightsSteps" "uses" "LRightsSteps$UseLog;", Cond.classLink RX5 38 RX3, Cond.fieldLink RX5 40 "RightsSteps" "testers" "[LRightsSteps$Tester;", Cond.instantiable RX3 11, Cond.initialized RX3, Cond.fieldLink RX5 47 "RightsSteps" "atHand" "LRightsSteps$Tester;", Cond.instanceMethod yX2_init, Cond.code yX2_init cX2_init 1 none]
def wsX5_init_r2 : List Cond := [Cond.methodLink RX2 3 objectInit, Cond.arrayClass .int, Cond.fieldLink RX2 11 "RightsSteps$Tape" "numbers" "[I", Cond.instanceMethod yX0_init, Cond.code yX0_init cX0_init 1 none, Cond.methodLink RX0 1 objectInit, Cond.fieldLink RX0 9 "RightsSteps$GivenSeeds" "seeds" "[I", Cond.instanceMethod yX4_init, Cond.code yX4_init cX4_init 1 none, Cond.methodLink RX4 1 objectInit, Cond.fieldLink RX4 9 "RightsSteps$UseLog" "parts" "[I", Cond.methodLink RX5 44 yX3_init, Cond.instanceMethod yX3_init, Cond.code yX3_init cX3_init 2 none, Cond.methodLink RX3 3 objectInit, Cond.fieldLink RX3 9 "RightsSteps$Tester" "session" "I", Cond.constantLong RX3 15 (-9223372036854775808), Cond.fieldLink RX3 17 "RightsSteps$Tester" "roleUntil" "J", Cond.fieldLink RX3 21 "RightsSteps$Tester" "openLevel" "I", Cond.fieldLink RX3 24 "RightsSteps$Tester" "awaitedLevel" "I", Cond.fieldLink RX3 27 "RightsSteps$Tester" "usedTries" "[I", Cond.arrayClass .long, Cond.fieldLink RX3 31 "RightsSteps$Tester" "lockedUntil" "[J", Cond.fieldLink RX3 35 "RightsSteps$Tester" "number" "I"]
def wsX5_init_r3 : List Cond := [Cond.methodLink RX3 38 yJ7_fill_d0a16, Cond.static yJ7_fill_d0a16, Cond.initialized RJ7, Cond.code yJ7_fill_d0a16 cJ7_fill_d0a16 5 none]
def wsX5_init : List Cond := .code yX5_init cX5_init 2 none :: ((wsX5_init_r1 ++ (wsX5_init_r2 ++ wsX5_init_r3)) ++ wsX50 ++ wsX20 ++ wsX00 ++ wsX40 ++ wsX30)
def wsX5_level : List Cond := .code yX5_level cX5_level 6 (some .int) :: ([.constantLong RX5 51 (100000), .fieldLink RX5 13 "RightsSteps" "levels" "[LRightsSteps$Level;", .classLink RX5 11 RX1, .instantiable RX1 4, .initialized RX1, .fieldLink RX5 56 "RightsSteps" "levelsMade" "I", .methodLink RX5 53 yX1_init, .instanceMethod yX1_init, .code yX1_init cX1_init 6 none, .methodLink RX1 3 objectInit, .instanceMethod objectInit, .code objectInit ⟨#[0xb1]⟩ 1 none, .fieldLink RX1 9 "RightsSteps$Level" "number" "I", .fieldLink RX1 15 "RightsSteps$Level" "kind" "I", .fieldLink RX1 18 "RightsSteps$Level" "tries" "I", .fieldLink RX1 21 "RightsSteps$Level" "delay" "J"] ++ wsX50 ++ wsX10)
def wsX5_tape : List Cond := .code yX5_tape cX5_tape 2 none :: ([.fieldLink RX5 20 "RightsSteps" "tape" "LRightsSteps$Tape;", .methodLink RX5 60 yX2_add, .instanceMethod yX2_add, .selects RX2 yX2_add yX2_add, .initialized RX2, .code yX2_add cX2_add 3 none, .fieldLink RX2 15 "RightsSteps$Tape" "size" "I", .fieldLink RX2 11 "RightsSteps$Tape" "numbers" "[I", .fieldLink RX2 19 "RightsSteps$Tape" "first" "I"] ++ wsX50 ++ wsX20 ++ (vx_atM "java/lang/ArrayIndexOutOfBoundsException" ["java/lang/IndexOutOfBoundsException", "java/lang/RuntimeException", "java/lang/Exception"]).filter goodWord)
def wsX5_madeLevel : List Cond := .code yX5_madeLevel cX5_madeLevel 2 (some (.object "RightsSteps$Level")) :: ([.fieldLink RX5 13 "RightsSteps" "levels" "[LRightsSteps$Level;"] ++ wsX50)
def wsX5_askForSeed_r1 : List Cond := [Cond.fieldLink RX5 47 "RightsSteps" "atHand" "LRightsSteps$Tester;", Cond.fieldLink RX5 67 "RightsSteps" "time" "J", Cond.fieldLink RX5 20 "RightsSteps" "tape" "LRightsSteps$Tape;", Cond.fieldLink RX5 27 "RightsSteps" "given" "LRightsSteps$GivenSeeds;", Cond.methodLink RX5 147 yX1_isForSession, Cond.instanceMethod yX1_isForSession, Cond.selects RX1 yX1_isForSession yX1_isForSession, Cond.initialized RX1, Cond.code yX1_isForSession cX1_isForSession 2 (some .boolean), Cond.fieldLink RX1 9 "RightsSteps$Level" "number" "I", Cond.methodLink RX5 150 yX1_needsRole, Cond.instanceMethod yX1_needsRole, Cond.selects RX1 yX1_needsRole yX1_needsRole, Cond.code yX1_needsRole cX1_needsRole 1 (some .boolean), Cond.methodLink RX5 121 yX3_lockedUntil, Cond.instanceMethod yX3_lockedUntil, Cond.selects RX3 yX3_lockedUntil yX3_lockedUntil, Cond.initialized RX3, Cond.code yX3_lockedUntil cX3_lockedUntil 2 (some .long), Cond.fieldLink RX3 31 "RightsSteps$Tester" "lockedUntil" "[J", Cond.constantLong RX3 15 (-9223372036854775808), Cond.methodLink RX5 155 yX2_takeSeed, Cond.instanceMethod yX2_takeSeed, Cond.selects RX2 yX2_takeSeed yX2_takeSeed]
def wsX5_askForSeed_r2 : List Cond := [Cond.initialized RX2, Cond.code yX2_takeSeed cX2_takeSeed 4 (some .int), Cond.fieldLink RX2 15 "RightsSteps$Tape" "size" "I", Cond.methodLink RX2 22 yX2_takeFirst, Cond.instanceMethod yX2_takeFirst, Cond.selects RX2 yX2_takeFirst yX2_takeFirst, Cond.code yX2_takeFirst cX2_takeFirst 2 (some .int), Cond.fieldLink RX2 19 "RightsSteps$Tape" "first" "I", Cond.fieldLink RX2 11 "RightsSteps$Tape" "numbers" "[I", Cond.static yX5_isPlain, Cond.initialized RX5, Cond.code yX5_isPlain cX5_isPlain 1 (some .boolean), Cond.constant RX5 190 (16843009), Cond.methodLink RX2 30 yX0_has, Cond.instanceMethod yX0_has, Cond.selects RX0 yX0_has yX0_has, Cond.initialized RX0, Cond.code yX0_has cX0_has 3 (some .boolean), Cond.fieldLink RX0 13 "RightsSteps$GivenSeeds" "size" "I", Cond.fieldLink RX0 9 "RightsSteps$GivenSeeds" "seeds" "[I", Cond.methodLink RX5 159 yX0_add, Cond.instanceMethod yX0_add, Cond.selects RX0 yX0_add yX0_add, Cond.code yX0_add cX0_add 2 none]
def wsX5_askForSeed_r3 : List Cond := [Cond.methodLink RX5 160 yX3_awaitKey, Cond.instanceMethod yX3_awaitKey, Cond.selects RX3 yX3_awaitKey yX3_awaitKey, Cond.code yX3_awaitKey cX3_awaitKey 3 none, Cond.fieldLink RX3 44 "RightsSteps$Tester" "out" "I", Cond.fieldLink RX3 24 "RightsSteps$Tester" "awaitedLevel" "I", Cond.fieldLink RX3 47 "RightsSteps$Tester" "awaitedSeed" "I"]
def wsX5_askForSeed : List Cond := .code yX5_askForSeed cX5_askForSeed 3 (some .int) :: ((wsX5_askForSeed_r1 ++ (wsX5_askForSeed_r2 ++ wsX5_askForSeed_r3)) ++ wsX50 ++ wsX30 ++ wsX10 ++ wsX20 ++ wsX00 ++ (vx_atM "java/lang/ArrayIndexOutOfBoundsException" ["java/lang/IndexOutOfBoundsException", "java/lang/RuntimeException", "java/lang/Exception"]).filter goodWord)
def wsX5_seed_r1 : List Cond := [Cond.fieldLink RX5 67 "RightsSteps" "time" "J", Cond.constantLong RX5 71 (1152921504606846976), Cond.fieldLink RX5 34 "RightsSteps" "uses" "LRightsSteps$UseLog;", Cond.fieldLink RX5 47 "RightsSteps" "atHand" "LRightsSteps$Tester;", Cond.methodLink RX5 63 yX5_madeLevel, Cond.instanceMethod yX5_madeLevel, Cond.selects RX5 yX5_madeLevel yX5_madeLevel, Cond.initialized RX5, Cond.code yX5_madeLevel cX5_madeLevel 2 (some (.object "RightsSteps$Level")), Cond.fieldLink RX5 13 "RightsSteps" "levels" "[LRightsSteps$Level;", Cond.methodLink RX5 73 yX5_askForSeed, Cond.instanceMethod yX5_askForSeed, Cond.selects RX5 yX5_askForSeed yX5_askForSeed, Cond.code yX5_askForSeed cX5_askForSeed 3 (some .int), Cond.fieldLink RX5 20 "RightsSteps" "tape" "LRightsSteps$Tape;", Cond.fieldLink RX5 27 "RightsSteps" "given" "LRightsSteps$GivenSeeds;", Cond.methodLink RX5 147 yX1_isForSession, Cond.instanceMethod yX1_isForSession, Cond.selects RX1 yX1_isForSession yX1_isForSession, Cond.initialized RX1, Cond.code yX1_isForSession cX1_isForSession 2 (some .boolean), Cond.fieldLink RX1 9 "RightsSteps$Level" "number" "I", Cond.methodLink RX5 150 yX1_needsRole, Cond.instanceMethod yX1_needsRole]
def wsX5_seed_r2 : List Cond := [Cond.selects RX1 yX1_needsRole yX1_needsRole, Cond.code yX1_needsRole cX1_needsRole 1 (some .boolean), Cond.methodLink RX5 121 yX3_lockedUntil, Cond.instanceMethod yX3_lockedUntil, Cond.selects RX3 yX3_lockedUntil yX3_lockedUntil, Cond.initialized RX3, Cond.code yX3_lockedUntil cX3_lockedUntil 2 (some .long), Cond.fieldLink RX3 31 "RightsSteps$Tester" "lockedUntil" "[J", Cond.constantLong RX3 15 (-9223372036854775808), Cond.methodLink RX5 155 yX2_takeSeed, Cond.instanceMethod yX2_takeSeed, Cond.selects RX2 yX2_takeSeed yX2_takeSeed, Cond.initialized RX2, Cond.code yX2_takeSeed cX2_takeSeed 4 (some .int), Cond.fieldLink RX2 15 "RightsSteps$Tape" "size" "I", Cond.methodLink RX2 22 yX2_takeFirst, Cond.instanceMethod yX2_takeFirst, Cond.selects RX2 yX2_takeFirst yX2_takeFirst, Cond.code yX2_takeFirst cX2_takeFirst 2 (some .int), Cond.fieldLink RX2 19 "RightsSteps$Tape" "first" "I", Cond.fieldLink RX2 11 "RightsSteps$Tape" "numbers" "[I", Cond.static yX5_isPlain, Cond.code yX5_isPlain cX5_isPlain 1 (some .boolean), Cond.constant RX5 190 (16843009)]
def wsX5_seed_r3 : List Cond := [Cond.methodLink RX2 30 yX0_has, Cond.instanceMethod yX0_has, Cond.selects RX0 yX0_has yX0_has, Cond.initialized RX0, Cond.code yX0_has cX0_has 3 (some .boolean), Cond.fieldLink RX0 13 "RightsSteps$GivenSeeds" "size" "I", Cond.fieldLink RX0 9 "RightsSteps$GivenSeeds" "seeds" "[I", Cond.methodLink RX5 159 yX0_add, Cond.instanceMethod yX0_add, Cond.selects RX0 yX0_add yX0_add, Cond.code yX0_add cX0_add 2 none, Cond.methodLink RX5 160 yX3_awaitKey, Cond.instanceMethod yX3_awaitKey, Cond.selects RX3 yX3_awaitKey yX3_awaitKey, Cond.code yX3_awaitKey cX3_awaitKey 3 none, Cond.fieldLink RX3 44 "RightsSteps$Tester" "out" "I", Cond.fieldLink RX3 24 "RightsSteps$Tester" "awaitedLevel" "I", Cond.fieldLink RX3 47 "RightsSteps$Tester" "awaitedSeed" "I", Cond.methodLink RX5 80 yX4_add, Cond.instanceMethod yX4_add, Cond.selects RX4 yX4_add yX4_add, Cond.initialized RX4, Cond.code yX4_add cX4_add 5 none, Cond.fieldLink RX4 13 "RightsSteps$UseLog" "count" "I"]
def wsX5_seed_r4 : List Cond := [Cond.fieldLink RX4 17 "RightsSteps$UseLog" "kept" "I", Cond.fieldLink RX4 9 "RightsSteps$UseLog" "parts" "[I"]
def wsX5_seed : List Cond := .code yX5_seed cX5_seed 6 (some .int) :: ((wsX5_seed_r1 ++ (wsX5_seed_r2 ++ (wsX5_seed_r3 ++ wsX5_seed_r4))) ++ wsX50 ++ wsX30 ++ wsX10 ++ wsX20 ++ wsX00 ++ wsX40 ++ (vx_atM "java/lang/ArrayIndexOutOfBoundsException" ["java/lang/IndexOutOfBoundsException", "java/lang/RuntimeException", "java/lang/Exception"]).filter goodWord)
def wsX5_out : List Cond := .code yX5_out cX5_out 2 (some .byte) :: ([.classLink RX5 83 RJx00060, .instantiable RJx00060 6, .initialized RJx00060, .fieldLink RX5 47 "RightsSteps" "atHand" "LRightsSteps$Tester;"] ++ wsJx000600 ++ wsX50 ++ wsX30)
def wsX5_tryKey_r1 : List Cond := [Cond.fieldLink RX5 47 "RightsSteps" "atHand" "LRightsSteps$Tester;", Cond.fieldLink RX5 67 "RightsSteps" "time" "J", Cond.methodLink RX5 170 yX1_keyTo, Cond.instanceMethod yX1_keyTo, Cond.selects RX1 yX1_keyTo yX1_keyTo, Cond.initialized RX1, Cond.code yX1_keyTo cX1_keyTo 2 (some .int), Cond.fieldLink RX1 15 "RightsSteps$Level" "kind" "I", Cond.constant RX1 25 (1515870810), Cond.constant RX1 26 (-1640531535), Cond.fieldLink RX1 9 "RightsSteps$Level" "number" "I", Cond.methodLink RX1 27 yX1_shiftedKeyTo, Cond.instanceMethod yX1_shiftedKeyTo, Cond.selects RX1 yX1_shiftedKeyTo yX1_shiftedKeyTo, Cond.code yX1_shiftedKeyTo cX1_shiftedKeyTo 5 (some .int), Cond.constant RX1 31 (-306674912), Cond.methodLink RX5 174 yX3_setUsedTries, Cond.instanceMethod yX3_setUsedTries, Cond.selects RX3 yX3_setUsedTries yX3_setUsedTries, Cond.initialized RX3, Cond.code yX3_setUsedTries cX3_setUsedTries 3 none, Cond.fieldLink RX3 27 "RightsSteps$Tester" "usedTries" "[I", Cond.methodLink RX5 177 yX3_usedTries, Cond.instanceMethod yX3_usedTries]
def wsX5_tryKey_r2 : List Cond := [Cond.selects RX3 yX3_usedTries yX3_usedTries, Cond.code yX3_usedTries cX3_usedTries 2 (some .int), Cond.methodLink RX5 186 yX3_lock, Cond.instanceMethod yX3_lock, Cond.selects RX3 yX3_lock yX3_lock, Cond.code yX3_lock cX3_lock 4 none, Cond.fieldLink RX3 31 "RightsSteps$Tester" "lockedUntil" "[J"]
def wsX5_tryKey : List Cond := .code yX5_tryKey cX5_tryKey 4 (some .int) :: ((wsX5_tryKey_r1 ++ wsX5_tryKey_r2) ++ wsX50 ++ wsX30 ++ wsX10 ++ (vx_atM "java/lang/ArrayIndexOutOfBoundsException" ["java/lang/IndexOutOfBoundsException", "java/lang/RuntimeException", "java/lang/Exception"]).filter goodWord)
def wsX5_key_r1 : List Cond := [Cond.fieldLink RX5 47 "RightsSteps" "atHand" "LRightsSteps$Tester;", Cond.fieldLink RX5 34 "RightsSteps" "uses" "LRightsSteps$UseLog;", Cond.methodLink RX5 89 yX3_addOctet, Cond.instanceMethod yX3_addOctet, Cond.selects RX3 yX3_addOctet yX3_addOctet, Cond.initialized RX3, Cond.code yX3_addOctet cX3_addOctet 2 none, Cond.fieldLink RX3 50 "RightsSteps$Tester" "octets" "I", Cond.fieldLink RX3 53 "RightsSteps$Tester" "keySoFar" "I", Cond.methodLink RX5 99 yX3_dropOctets, Cond.instanceMethod yX3_dropOctets, Cond.selects RX3 yX3_dropOctets yX3_dropOctets, Cond.code yX3_dropOctets cX3_dropOctets 1 none, Cond.methodLink RX5 63 yX5_madeLevel, Cond.instanceMethod yX5_madeLevel, Cond.selects RX5 yX5_madeLevel yX5_madeLevel, Cond.initialized RX5, Cond.code yX5_madeLevel cX5_madeLevel 2 (some (.object "RightsSteps$Level")), Cond.fieldLink RX5 13 "RightsSteps" "levels" "[LRightsSteps$Level;", Cond.methodLink RX5 102 yX5_tryKey, Cond.instanceMethod yX5_tryKey, Cond.selects RX5 yX5_tryKey yX5_tryKey, Cond.code yX5_tryKey cX5_tryKey 4 (some .int), Cond.fieldLink RX5 67 "RightsSteps" "time" "J"]
def wsX5_key_r2 : List Cond := [Cond.methodLink RX5 170 yX1_keyTo, Cond.instanceMethod yX1_keyTo, Cond.selects RX1 yX1_keyTo yX1_keyTo, Cond.initialized RX1, Cond.code yX1_keyTo cX1_keyTo 2 (some .int), Cond.fieldLink RX1 15 "RightsSteps$Level" "kind" "I", Cond.constant RX1 25 (1515870810), Cond.constant RX1 26 (-1640531535), Cond.fieldLink RX1 9 "RightsSteps$Level" "number" "I", Cond.methodLink RX1 27 yX1_shiftedKeyTo, Cond.instanceMethod yX1_shiftedKeyTo, Cond.selects RX1 yX1_shiftedKeyTo yX1_shiftedKeyTo, Cond.code yX1_shiftedKeyTo cX1_shiftedKeyTo 5 (some .int), Cond.constant RX1 31 (-306674912), Cond.methodLink RX5 174 yX3_setUsedTries, Cond.instanceMethod yX3_setUsedTries, Cond.selects RX3 yX3_setUsedTries yX3_setUsedTries, Cond.code yX3_setUsedTries cX3_setUsedTries 3 none, Cond.fieldLink RX3 27 "RightsSteps$Tester" "usedTries" "[I", Cond.methodLink RX5 177 yX3_usedTries, Cond.instanceMethod yX3_usedTries, Cond.selects RX3 yX3_usedTries yX3_usedTries, Cond.code yX3_usedTries cX3_usedTries 2 (some .int), Cond.methodLink RX5 186 yX3_lock]
def wsX5_key_r3 : List Cond := [Cond.instanceMethod yX3_lock, Cond.selects RX3 yX3_lock yX3_lock, Cond.code yX3_lock cX3_lock 4 none, Cond.fieldLink RX3 31 "RightsSteps$Tester" "lockedUntil" "[J", Cond.methodLink RX5 80 yX4_add, Cond.instanceMethod yX4_add, Cond.selects RX4 yX4_add yX4_add, Cond.initialized RX4, Cond.code yX4_add cX4_add 5 none, Cond.fieldLink RX4 13 "RightsSteps$UseLog" "count" "I", Cond.fieldLink RX4 17 "RightsSteps$UseLog" "kept" "I", Cond.fieldLink RX4 9 "RightsSteps$UseLog" "parts" "[I"]
def wsX5_key : List Cond := .code yX5_key cX5_key 8 (some .int) :: ((wsX5_key_r1 ++ (wsX5_key_r2 ++ wsX5_key_r3)) ++ wsX50 ++ wsX30 ++ wsX10 ++ wsX40 ++ (vx_atM "java/lang/ArrayIndexOutOfBoundsException" ["java/lang/IndexOutOfBoundsException", "java/lang/RuntimeException", "java/lang/Exception"]).filter goodWord)
def wsX5_open : List Cond := .code yX5_open cX5_open 2 (some .int) :: ([.fieldLink RX5 47 "RightsSteps" "atHand" "LRightsSteps$Tester;", .methodLink RX5 63 yX5_madeLevel, .instanceMethod yX5_madeLevel, .selects RX5 yX5_madeLevel yX5_madeLevel, .initialized RX5, .code yX5_madeLevel cX5_madeLevel 2 (some (.object "RightsSteps$Level")), .fieldLink RX5 13 "RightsSteps" "levels" "[LRightsSteps$Level;"] ++ wsX50 ++ wsX30)
def wsX5_session : List Cond := .code yX5_session cX5_session 3 (some .int) :: ([.fieldLink RX5 47 "RightsSteps" "atHand" "LRightsSteps$Tester;", .methodLink RX5 112 yX3_startSession, .instanceMethod yX3_startSession, .selects RX3 yX3_startSession yX3_startSession, .initialized RX3, .code yX3_startSession cX3_startSession 2 none, .fieldLink RX3 9 "RightsSteps$Tester" "session" "I", .fieldLink RX3 24 "RightsSteps$Tester" "awaitedLevel" "I", .fieldLink RX3 21 "RightsSteps$Tester" "openLevel" "I", .constantLong RX3 15 (-9223372036854775808), .fieldLink RX3 17 "RightsSteps$Tester" "roleUntil" "J"] ++ wsX50 ++ wsX30)
def wsX5_reset : List Cond := .code yX5_reset cX5_reset 4 (some .int) :: ([.fieldLink RX5 40 "RightsSteps" "testers" "[LRightsSteps$Tester;", .fieldLink RX5 27 "RightsSteps" "given" "LRightsSteps$GivenSeeds;", .methodLink RX5 112 yX3_startSession, .instanceMethod yX3_startSession, .selects RX3 yX3_startSession yX3_startSession, .initialized RX3, .code yX3_startSession cX3_startSession 2 none, .fieldLink RX3 9 "RightsSteps$Tester" "session" "I", .fieldLink RX3 24 "RightsSteps$Tester" "awaitedLevel" "I", .fieldLink RX3 21 "RightsSteps$Tester" "openLevel" "I", .constantLong RX3 15 (-9223372036854775808), .fieldLink RX3 17 "RightsSteps$Tester" "roleUntil" "J", .methodLink RX5 99 yX3_dropOctets, .instanceMethod yX3_dropOctets, .selects RX3 yX3_dropOctets yX3_dropOctets, .code yX3_dropOctets cX3_dropOctets 1 none, .fieldLink RX3 50 "RightsSteps$Tester" "octets" "I", .fieldLink RX3 53 "RightsSteps$Tester" "keySoFar" "I", .methodLink RX5 115 yX0_forgetAll, .instanceMethod yX0_forgetAll, .selects RX0 yX0_forgetAll yX0_forgetAll, .initialized RX0, .code yX0_forgetAll cX0_forgetAll 1 none, .fieldLink RX0 13 "RightsSteps$GivenSeeds" "size" "I"] ++ wsX50 ++ wsX30 ++ wsX00)
def wsX5_role : List Cond := .code yX5_role cX5_role 5 (some .int) :: ([.fieldLink RX5 67 "RightsSteps" "time" "J", .fieldLink RX5 47 "RightsSteps" "atHand" "LRightsSteps$Tester;"] ++ wsX50 ++ wsX30)
def wsX5_left : List Cond := .code yX5_left cX5_left 6 (some .int) :: ([.fieldLink RX5 47 "RightsSteps" "atHand" "LRightsSteps$Tester;", .constantLong RX5 125 (1000000), .constant RX5 127 (1000000), .methodLink RX5 63 yX5_madeLevel, .instanceMethod yX5_madeLevel, .selects RX5 yX5_madeLevel yX5_madeLevel, .initialized RX5, .code yX5_madeLevel cX5_madeLevel 2 (some (.object "RightsSteps$Level")), .fieldLink RX5 13 "RightsSteps" "levels" "[LRightsSteps$Level;", .methodLink RX5 121 yX3_lockedUntil, .instanceMethod yX3_lockedUntil, .selects RX3 yX3_lockedUntil yX3_lockedUntil, .initialized RX3, .code yX3_lockedUntil cX3_lockedUntil 2 (some .long), .fieldLink RX3 31 "RightsSteps$Tester" "lockedUntil" "[J", .constantLong RX3 15 (-9223372036854775808)] ++ wsX50 ++ wsX30 ++ (vx_atM "java/lang/ArrayIndexOutOfBoundsException" ["java/lang/IndexOutOfBoundsException", "java/lang/RuntimeException", "java/lang/Exception"]).filter goodWord)
def wsX5_log : List Cond := .code yX5_log cX5_log 3 (some .int) :: ([.fieldLink RX5 34 "RightsSteps" "uses" "LRightsSteps$UseLog;", .methodLink RX5 131 yX4_has, .instanceMethod yX4_has, .selects RX4 yX4_has yX4_has, .initialized RX4, .code yX4_has cX4_has 2 (some .boolean), .fieldLink RX4 17 "RightsSteps$UseLog" "kept" "I", .methodLink RX5 135 yX4_part, .instanceMethod yX4_part, .selects RX4 yX4_part yX4_part, .code yX4_part cX4_part 3 (some .int), .fieldLink RX4 9 "RightsSteps$UseLog" "parts" "[I", .methodLink RX4 20 yX4_has] ++ wsX50 ++ wsX40 ++ (vx_atM "java/lang/ArrayIndexOutOfBoundsException" ["java/lang/IndexOutOfBoundsException", "java/lang/RuntimeException", "java/lang/Exception"]).filter goodWord)
def wsX5_countDigits : List Cond := .code yX5_countDigits cX5_countDigits 5 (some .int) :: ([.constantLong RX5 145 (10)])
def wsX5_digit : List Cond := .code yX5_digit cX5_digit 6 (some .int) :: ([.fieldLink RX5 47 "RightsSteps" "atHand" "LRightsSteps$Tester;", .constantLong RX5 139 (4294967295), .classLink RX5 83 RJx00060, .instantiable RJx00060 6, .initialized RJx00060, .constantLong RX5 145 (10), .methodLink RX5 141 yX5_countDigits, .static yX5_countDigits, .initialized RX5, .code yX5_countDigits cX5_countDigits 5 (some .int)] ++ wsX50 ++ wsX30 ++ wsJx000600)
def wsX5_tester : List Cond := .code yX5_tester cX5_tester 3 (some .int) :: ([.fieldLink RX5 47 "RightsSteps" "atHand" "LRightsSteps$Tester;", .fieldLink RX5 40 "RightsSteps" "testers" "[LRightsSteps$Tester;"] ++ wsX50 ++ wsX30)
def wsX6_init_r1 : List Cond := [Cond.methodLink RX6 1 objectInit, Cond.instanceMethod objectInit, Cond.code objectInit ⟨#[0xb1]⟩ 1 none, Cond.arrayClass .int, Cond.fieldLink RX6 7 "RightsStepsModel" "kind" "[I", Cond.fieldLink RX6 13 "RightsStepsModel" "tries" "[I", Cond.arrayClass .long, Cond.fieldLink RX6 16 "RightsStepsModel" "delay" "[J", Cond.fieldLink RX6 20 "RightsStepsModel" "tape" "[I", Cond.fieldLink RX6 23 "RightsStepsModel" "given" "[I", Cond.fieldLink RX6 26 "RightsStepsModel" "session" "[I", Cond.constantLong RX6 29 (-1), Cond.fieldLink RX6 31 "RightsStepsModel" "roleUntil" "[J", Cond.fieldLink RX6 34 "RightsStepsModel" "open" "[I", Cond.fieldLink RX6 37 "RightsStepsModel" "awaited" "[I", Cond.fieldLink RX6 40 "RightsStepsModel" "awaitedSeed" "[I", Cond.fieldLink RX6 43 "RightsStepsModel" "out" "[I", Cond.fieldLink RX6 46 "RightsStepsModel" "octets" "[I", Cond.fieldLink RX6 49 "RightsStepsModel" "octetRow" "[I", Cond.fieldLink RX6 52 "RightsStepsModel" "used" "[I", Cond.fieldLink RX6 55 "RightsStepsModel" "locked" "[J", Cond.arrayClass .boolean, Cond.fieldLink RX6 58 "RightsStepsModel" "wasLocked" "[Z", Cond.fieldLink RX6 62 "RightsStepsModel" "useBy" "[I"]
def wsX6_init_r2 : List Cond := [Cond.fieldLink RX6 65 "RightsStepsModel" "useLevel" "[I", Cond.fieldLink RX6 68 "RightsStepsModel" "useAnswer" "[I"]
def wsX6_init : List Cond := .code yX6_init cX6_init 1 none :: ((wsX6_init_r1 ++ wsX6_init_r2) ++ wsX60 ++ (vx_atM "java/lang/ArrayIndexOutOfBoundsException" ["java/lang/IndexOutOfBoundsException", "java/lang/RuntimeException", "java/lang/Exception"]).filter goodWord)
def wsX6_thrown : List Cond := .code yX6_thrown cX6_thrown 1 (some .int) :: ([.fieldLink RX6 71 "RightsStepsModel" "code" "I"] ++ wsX60)
def wsX6_isMade : List Cond := .code yX6_isMade cX6_isMade 2 (some .boolean) :: ([.fieldLink RX6 13 "RightsStepsModel" "tries" "[I"] ++ wsX60 ++ (vx_atM "java/lang/ArrayIndexOutOfBoundsException" ["java/lang/IndexOutOfBoundsException", "java/lang/RuntimeException", "java/lang/Exception"]).filter goodWord)
def wsX6_level : List Cond := .code yX6_level cX6_level 6 (some .int) :: ([.fieldLink RX6 71 "RightsStepsModel" "code" "I", .constantLong RX6 75 (100000), .fieldLink RX6 7 "RightsStepsModel" "kind" "[I", .fieldLink RX6 13 "RightsStepsModel" "tries" "[I", .fieldLink RX6 16 "RightsStepsModel" "delay" "[J", .fieldLink RX6 81 "RightsStepsModel" "made" "I", .methodLink RX6 77 yX6_isMade, .instanceMethod yX6_isMade, .selects RX6 yX6_isMade yX6_isMade, .initialized RX6, .code yX6_isMade cX6_isMade 2 (some .boolean)] ++ wsX60 ++ (vx_atM "java/lang/ArrayIndexOutOfBoundsException" ["java/lang/IndexOutOfBoundsException", "java/lang/RuntimeException", "java/lang/Exception"]).filter goodWord)
def wsX6_tape : List Cond := .code yX6_tape cX6_tape 2 none :: ([.fieldLink RX6 71 "RightsStepsModel" "code" "I", .fieldLink RX6 84 "RightsStepsModel" "typed" "I", .fieldLink RX6 87 "RightsStepsModel" "read" "I", .fieldLink RX6 20 "RightsStepsModel" "tape" "[I"] ++ wsX60 ++ (vx_atM "java/lang/ArrayIndexOutOfBoundsException" ["java/lang/IndexOutOfBoundsException", "java/lang/RuntimeException", "java/lang/Exception"]).filter goodWord)
def wsX6_isPlain : List Cond := .code yX6_isPlain cX6_isPlain 2 (some .boolean) :: ([])
def wsX6_wasGiven : List Cond := .code yX6_wasGiven cX6_wasGiven 3 (some .boolean) :: ([.fieldLink RX6 90 "RightsStepsModel" "givens" "I", .fieldLink RX6 23 "RightsStepsModel" "given" "[I"] ++ wsX60 ++ (vx_atM "java/lang/ArrayIndexOutOfBoundsException" ["java/lang/IndexOutOfBoundsException", "java/lang/RuntimeException", "java/lang/Exception"]).filter goodWord)
def wsX6_note : List Cond := .code yX6_note cX6_note 3 (some .int) :: ([.fieldLink RX6 93 "RightsStepsModel" "uses" "I", .fieldLink RX6 62 "RightsStepsModel" "useBy" "[I", .fieldLink RX6 96 "RightsStepsModel" "hand" "I", .fieldLink RX6 65 "RightsStepsModel" "useLevel" "[I", .fieldLink RX6 68 "RightsStepsModel" "useAnswer" "[I"] ++ wsX60 ++ (vx_atM "java/lang/ArrayIndexOutOfBoundsException" ["java/lang/IndexOutOfBoundsException", "java/lang/RuntimeException", "java/lang/Exception"]).filter goodWord)
def wsX6_asked : List Cond := .code yX6_asked cX6_asked 4 (some .int) :: ([.fieldLink RX6 26 "RightsStepsModel" "session" "[I", .fieldLink RX6 96 "RightsStepsModel" "hand" "I", .fieldLink RX6 99 "RightsStepsModel" "time" "J", .fieldLink RX6 31 "RightsStepsModel" "roleUntil" "[J", .fieldLink RX6 34 "RightsStepsModel" "open" "[I", .fieldLink RX6 43 "RightsStepsModel" "out" "[I", .fieldLink RX6 55 "RightsStepsModel" "locked" "[J", .fieldLink RX6 87 "RightsStepsModel" "read" "I", .fieldLink RX6 84 "RightsStepsModel" "typed" "I", .fieldLink RX6 20 "RightsStepsModel" "tape" "[I", .fieldLink RX6 23 "RightsStepsModel" "given" "[I", .fieldLink RX6 90 "RightsStepsModel" "givens" "I", .fieldLink RX6 37 "RightsStepsModel" "awaited" "[I", .fieldLink RX6 40 "RightsStepsModel" "awaitedSeed" "[I", .methodLink RX6 103 yX6_isPlain, .static yX6_isPlain, .initialized RX6, .code yX6_isPlain cX6_isPlain 2 (some .boolean), .methodLink RX6 106 yX6_wasGiven, .instanceMethod yX6_wasGiven, .selects RX6 yX6_wasGiven yX6_wasGiven, .code yX6_wasGiven cX6_wasGiven 3 (some .boolean)] ++ wsX60 ++ (vx_atM "java/lang/ArrayIndexOutOfBoundsException" ["java/lang/IndexOutOfBoundsException", "java/lang/RuntimeException", "java/lang/Exception"]).filter goodWord)
def wsX6_seed_r1 : List Cond := [Cond.fieldLink RX6 71 "RightsStepsModel" "code" "I", Cond.fieldLink RX6 99 "RightsStepsModel" "time" "J", Cond.constantLong RX6 109 (1152921504606846976), Cond.methodLink RX6 77 yX6_isMade, Cond.instanceMethod yX6_isMade, Cond.selects RX6 yX6_isMade yX6_isMade, Cond.initialized RX6, Cond.code yX6_isMade cX6_isMade 2 (some .boolean), Cond.fieldLink RX6 13 "RightsStepsModel" "tries" "[I", Cond.methodLink RX6 111 yX6_asked, Cond.instanceMethod yX6_asked, Cond.selects RX6 yX6_asked yX6_asked, Cond.code yX6_asked cX6_asked 4 (some .int), Cond.fieldLink RX6 26 "RightsStepsModel" "session" "[I", Cond.fieldLink RX6 96 "RightsStepsModel" "hand" "I", Cond.fieldLink RX6 31 "RightsStepsModel" "roleUntil" "[J", Cond.fieldLink RX6 34 "RightsStepsModel" "open" "[I", Cond.fieldLink RX6 43 "RightsStepsModel" "out" "[I", Cond.fieldLink RX6 55 "RightsStepsModel" "locked" "[J", Cond.fieldLink RX6 87 "RightsStepsModel" "read" "I", Cond.fieldLink RX6 84 "RightsStepsModel" "typed" "I", Cond.fieldLink RX6 20 "RightsStepsModel" "tape" "[I", Cond.fieldLink RX6 23 "RightsStepsModel" "given" "[I", Cond.fieldLink RX6 90 "RightsStepsModel" "givens" "I"]
def wsX6_seed_r2 : List Cond := [Cond.fieldLink RX6 37 "RightsStepsModel" "awaited" "[I", Cond.fieldLink RX6 40 "RightsStepsModel" "awaitedSeed" "[I", Cond.methodLink RX6 103 yX6_isPlain, Cond.static yX6_isPlain, Cond.code yX6_isPlain cX6_isPlain 2 (some .boolean), Cond.methodLink RX6 106 yX6_wasGiven, Cond.instanceMethod yX6_wasGiven, Cond.selects RX6 yX6_wasGiven yX6_wasGiven, Cond.code yX6_wasGiven cX6_wasGiven 3 (some .boolean), Cond.methodLink RX6 115 yX6_note, Cond.instanceMethod yX6_note, Cond.selects RX6 yX6_note yX6_note, Cond.code yX6_note cX6_note 3 (some .int), Cond.fieldLink RX6 93 "RightsStepsModel" "uses" "I", Cond.fieldLink RX6 62 "RightsStepsModel" "useBy" "[I", Cond.fieldLink RX6 65 "RightsStepsModel" "useLevel" "[I", Cond.fieldLink RX6 68 "RightsStepsModel" "useAnswer" "[I"]
def wsX6_seed : List Cond := .code yX6_seed cX6_seed 4 (some .int) :: ((wsX6_seed_r1 ++ wsX6_seed_r2) ++ wsX60 ++ (vx_atM "java/lang/ArrayIndexOutOfBoundsException" ["java/lang/IndexOutOfBoundsException", "java/lang/RuntimeException", "java/lang/Exception"]).filter goodWord)
def wsX6_keyTo : List Cond := .code yX6_keyTo cX6_keyTo 5 (some .int) :: ([.fieldLink RX6 7 "RightsStepsModel" "kind" "[I", .constant RX6 119 (1515870810), .constant RX6 120 (-1640531535), .constant RX6 121 (-306674912)] ++ wsX60 ++ (vx_atM "java/lang/ArrayIndexOutOfBoundsException" ["java/lang/IndexOutOfBoundsException", "java/lang/RuntimeException", "java/lang/Exception"]).filter goodWord)
def wsX6_came : List Cond := .code yX6_came cX6_came 5 (some .int) :: ([.fieldLink RX6 37 "RightsStepsModel" "awaited" "[I", .fieldLink RX6 96 "RightsStepsModel" "hand" "I", .fieldLink RX6 40 "RightsStepsModel" "awaitedSeed" "[I", .fieldLink RX6 34 "RightsStepsModel" "open" "[I", .fieldLink RX6 52 "RightsStepsModel" "used" "[I", .fieldLink RX6 13 "RightsStepsModel" "tries" "[I", .fieldLink RX6 55 "RightsStepsModel" "locked" "[J", .fieldLink RX6 99 "RightsStepsModel" "time" "J", .fieldLink RX6 16 "RightsStepsModel" "delay" "[J", .fieldLink RX6 58 "RightsStepsModel" "wasLocked" "[Z", .methodLink RX6 122 yX6_keyTo, .instanceMethod yX6_keyTo, .selects RX6 yX6_keyTo yX6_keyTo, .initialized RX6, .code yX6_keyTo cX6_keyTo 5 (some .int), .fieldLink RX6 7 "RightsStepsModel" "kind" "[I", .constant RX6 119 (1515870810), .constant RX6 120 (-1640531535), .constant RX6 121 (-306674912)] ++ wsX60 ++ (vx_atM "java/lang/ArrayIndexOutOfBoundsException" ["java/lang/IndexOutOfBoundsException", "java/lang/RuntimeException", "java/lang/Exception"]).filter goodWord)
def wsX6_key_r1 : List Cond := [Cond.fieldLink RX6 71 "RightsStepsModel" "code" "I", Cond.fieldLink RX6 49 "RightsStepsModel" "octetRow" "[I", Cond.fieldLink RX6 96 "RightsStepsModel" "hand" "I", Cond.fieldLink RX6 46 "RightsStepsModel" "octets" "[I", Cond.methodLink RX6 77 yX6_isMade, Cond.instanceMethod yX6_isMade, Cond.selects RX6 yX6_isMade yX6_isMade, Cond.initialized RX6, Cond.code yX6_isMade cX6_isMade 2 (some .boolean), Cond.fieldLink RX6 13 "RightsStepsModel" "tries" "[I", Cond.methodLink RX6 125 yX6_came, Cond.instanceMethod yX6_came, Cond.selects RX6 yX6_came yX6_came, Cond.code yX6_came cX6_came 5 (some .int), Cond.fieldLink RX6 37 "RightsStepsModel" "awaited" "[I", Cond.fieldLink RX6 40 "RightsStepsModel" "awaitedSeed" "[I", Cond.fieldLink RX6 34 "RightsStepsModel" "open" "[I", Cond.fieldLink RX6 52 "RightsStepsModel" "used" "[I", Cond.fieldLink RX6 55 "RightsStepsModel" "locked" "[J", Cond.fieldLink RX6 99 "RightsStepsModel" "time" "J", Cond.fieldLink RX6 16 "RightsStepsModel" "delay" "[J", Cond.fieldLink RX6 58 "RightsStepsModel" "wasLocked" "[Z", Cond.methodLink RX6 122 yX6_keyTo, Cond.instanceMethod yX6_keyTo]
def wsX6_key_r2 : List Cond := [Cond.selects RX6 yX6_keyTo yX6_keyTo, Cond.code yX6_keyTo cX6_keyTo 5 (some .int), Cond.fieldLink RX6 7 "RightsStepsModel" "kind" "[I", Cond.constant RX6 119 (1515870810), Cond.constant RX6 120 (-1640531535), Cond.constant RX6 121 (-306674912), Cond.methodLink RX6 115 yX6_note, Cond.instanceMethod yX6_note, Cond.selects RX6 yX6_note yX6_note, Cond.code yX6_note cX6_note 3 (some .int), Cond.fieldLink RX6 93 "RightsStepsModel" "uses" "I", Cond.fieldLink RX6 62 "RightsStepsModel" "useBy" "[I", Cond.fieldLink RX6 65 "RightsStepsModel" "useLevel" "[I", Cond.fieldLink RX6 68 "RightsStepsModel" "useAnswer" "[I"]
def wsX6_key : List Cond := .code yX6_key cX6_key 6 (some .int) :: ((wsX6_key_r1 ++ wsX6_key_r2) ++ wsX60 ++ (vx_atM "java/lang/ArrayIndexOutOfBoundsException" ["java/lang/IndexOutOfBoundsException", "java/lang/RuntimeException", "java/lang/Exception"]).filter goodWord)
def wsX6_out : List Cond := .code yX6_out cX6_out 2 (some .byte) :: ([.fieldLink RX6 71 "RightsStepsModel" "code" "I", .fieldLink RX6 43 "RightsStepsModel" "out" "[I", .fieldLink RX6 96 "RightsStepsModel" "hand" "I"] ++ wsX60 ++ (vx_atM "java/lang/ArrayIndexOutOfBoundsException" ["java/lang/IndexOutOfBoundsException", "java/lang/RuntimeException", "java/lang/Exception"]).filter goodWord)
def wsX6_open : List Cond := .code yX6_open cX6_open 2 (some .int) :: ([.fieldLink RX6 71 "RightsStepsModel" "code" "I", .fieldLink RX6 34 "RightsStepsModel" "open" "[I", .fieldLink RX6 96 "RightsStepsModel" "hand" "I", .methodLink RX6 77 yX6_isMade, .instanceMethod yX6_isMade, .selects RX6 yX6_isMade yX6_isMade, .initialized RX6, .code yX6_isMade cX6_isMade 2 (some .boolean), .fieldLink RX6 13 "RightsStepsModel" "tries" "[I"] ++ wsX60 ++ (vx_atM "java/lang/ArrayIndexOutOfBoundsException" ["java/lang/IndexOutOfBoundsException", "java/lang/RuntimeException", "java/lang/Exception"]).filter goodWord)
def wsX6_begin : List Cond := .code yX6_begin cX6_begin 3 none :: ([.fieldLink RX6 26 "RightsStepsModel" "session" "[I", .fieldLink RX6 37 "RightsStepsModel" "awaited" "[I", .fieldLink RX6 34 "RightsStepsModel" "open" "[I", .fieldLink RX6 31 "RightsStepsModel" "roleUntil" "[J", .constantLong RX6 29 (-1)] ++ wsX60 ++ (vx_atM "java/lang/ArrayIndexOutOfBoundsException" ["java/lang/IndexOutOfBoundsException", "java/lang/RuntimeException", "java/lang/Exception"]).filter goodWord)
def wsX6_session : List Cond := .code yX6_session cX6_session 3 (some .int) :: ([.fieldLink RX6 71 "RightsStepsModel" "code" "I", .fieldLink RX6 26 "RightsStepsModel" "session" "[I", .fieldLink RX6 96 "RightsStepsModel" "hand" "I", .methodLink RX6 129 yX6_begin, .instanceMethod yX6_begin, .selects RX6 yX6_begin yX6_begin, .initialized RX6, .code yX6_begin cX6_begin 3 none, .fieldLink RX6 37 "RightsStepsModel" "awaited" "[I", .fieldLink RX6 34 "RightsStepsModel" "open" "[I", .fieldLink RX6 31 "RightsStepsModel" "roleUntil" "[J", .constantLong RX6 29 (-1)] ++ wsX60 ++ (vx_atM "java/lang/ArrayIndexOutOfBoundsException" ["java/lang/IndexOutOfBoundsException", "java/lang/RuntimeException", "java/lang/Exception"]).filter goodWord)
def wsX6_reset : List Cond := .code yX6_reset cX6_reset 3 (some .int) :: ([.fieldLink RX6 71 "RightsStepsModel" "code" "I", .fieldLink RX6 34 "RightsStepsModel" "open" "[I", .fieldLink RX6 46 "RightsStepsModel" "octets" "[I", .fieldLink RX6 49 "RightsStepsModel" "octetRow" "[I", .fieldLink RX6 90 "RightsStepsModel" "givens" "I", .methodLink RX6 129 yX6_begin, .instanceMethod yX6_begin, .selects RX6 yX6_begin yX6_begin, .initialized RX6, .code yX6_begin cX6_begin 3 none, .fieldLink RX6 26 "RightsStepsModel" "session" "[I", .fieldLink RX6 37 "RightsStepsModel" "awaited" "[I", .fieldLink RX6 31 "RightsStepsModel" "roleUntil" "[J", .constantLong RX6 29 (-1)] ++ wsX60 ++ (vx_atM "java/lang/ArrayIndexOutOfBoundsException" ["java/lang/IndexOutOfBoundsException", "java/lang/RuntimeException", "java/lang/Exception"]).filter goodWord)
def wsX6_role : List Cond := .code yX6_role cX6_role 5 (some .int) :: ([.fieldLink RX6 71 "RightsStepsModel" "code" "I", .fieldLink RX6 99 "RightsStepsModel" "time" "J", .fieldLink RX6 31 "RightsStepsModel" "roleUntil" "[J", .fieldLink RX6 96 "RightsStepsModel" "hand" "I"] ++ wsX60 ++ (vx_atM "java/lang/ArrayIndexOutOfBoundsException" ["java/lang/IndexOutOfBoundsException", "java/lang/RuntimeException", "java/lang/Exception"]).filter goodWord)
def wsX6_left : List Cond := .code yX6_left cX6_left 6 (some .int) :: ([.fieldLink RX6 71 "RightsStepsModel" "code" "I", .fieldLink RX6 55 "RightsStepsModel" "locked" "[J", .fieldLink RX6 96 "RightsStepsModel" "hand" "I", .fieldLink RX6 58 "RightsStepsModel" "wasLocked" "[Z", .constantLong RX6 133 (1000000), .constant RX6 135 (1000000), .methodLink RX6 77 yX6_isMade, .instanceMethod yX6_isMade, .selects RX6 yX6_isMade yX6_isMade, .initialized RX6, .code yX6_isMade cX6_isMade 2 (some .boolean), .fieldLink RX6 13 "RightsStepsModel" "tries" "[I"] ++ wsX60 ++ (vx_atM "java/lang/ArrayIndexOutOfBoundsException" ["java/lang/IndexOutOfBoundsException", "java/lang/RuntimeException", "java/lang/Exception"]).filter goodWord)
def wsX6_log : List Cond := .code yX6_log cX6_log 3 (some .int) :: ([.fieldLink RX6 71 "RightsStepsModel" "code" "I", .fieldLink RX6 93 "RightsStepsModel" "uses" "I", .fieldLink RX6 62 "RightsStepsModel" "useBy" "[I", .fieldLink RX6 65 "RightsStepsModel" "useLevel" "[I", .fieldLink RX6 68 "RightsStepsModel" "useAnswer" "[I"] ++ wsX60 ++ (vx_atM "java/lang/ArrayIndexOutOfBoundsException" ["java/lang/IndexOutOfBoundsException", "java/lang/RuntimeException", "java/lang/Exception"]).filter goodWord)
def wsX6_digit : List Cond := .code yX6_digit cX6_digit 7 (some .int) :: ([.fieldLink RX6 43 "RightsStepsModel" "out" "[I", .fieldLink RX6 96 "RightsStepsModel" "hand" "I", .constantLong RX6 136 (4294967295), .constantLong RX6 138 (10), .fieldLink RX6 71 "RightsStepsModel" "code" "I"] ++ wsX60 ++ (vx_atM "java/lang/ArrayIndexOutOfBoundsException" ["java/lang/IndexOutOfBoundsException", "java/lang/RuntimeException", "java/lang/Exception"]).filter goodWord)
def wsX6_tester : List Cond := .code yX6_tester cX6_tester 3 (some .int) :: ([.fieldLink RX6 71 "RightsStepsModel" "code" "I", .fieldLink RX6 96 "RightsStepsModel" "hand" "I"] ++ wsX60)
def wsJx00060_init_da8c8 : List Cond := .code yJx00060_init_da8c8 cJx00060_init_da8c8 1 none :: ([])
def wsJx00060_init_a7421 : List Cond := .code yJx00060_init_a7421 cJx00060_init_a7421 2 none :: ([])
def wsL_out : List Cond := .codeWith yL_out cL_out 4 (some .int) [(0, 9, 12, 13)] :: ([.methodLink RL 7 yX5_out, .instanceMethod yX5_out, .selects RX5 yX5_out yX5_out, .initialized RX5, .code yX5_out cX5_out 2 (some .byte), .classLink RX5 83 RJx00060, .instantiable RJx00060 6, .initialized RJx00060, .fieldLink RX5 47 "RightsSteps" "atHand" "LRightsSteps$Tester;"] ++ wsJx000600 ++ wsX50 ++ wsX30 ++ (vx_atM "java/lang/ArrayIndexOutOfBoundsException" ["java/lang/IndexOutOfBoundsException", "java/lang/RuntimeException", "java/lang/Exception"]).filter goodWord)
def wsL_digit : List Cond := .codeWith yL_digit cL_digit 4 (some .int) [(0, 9, 12, 13)] :: ([.methodLink RL 15 yX5_digit, .instanceMethod yX5_digit, .selects RX5 yX5_digit yX5_digit, .initialized RX5, .code yX5_digit cX5_digit 6 (some .int), .fieldLink RX5 47 "RightsSteps" "atHand" "LRightsSteps$Tester;", .constantLong RX5 139 (4294967295), .classLink RX5 83 RJx00060, .instantiable RJx00060 6, .initialized RJx00060, .constantLong RX5 145 (10), .methodLink RX5 141 yX5_countDigits, .static yX5_countDigits, .code yX5_countDigits cX5_countDigits 5 (some .int)] ++ wsX50 ++ wsX30 ++ wsJx000600 ++ (vx_atM "java/lang/ArrayIndexOutOfBoundsException" ["java/lang/IndexOutOfBoundsException", "java/lang/RuntimeException", "java/lang/Exception"]).filter goodWord)
def wsL_law0_r1 : List Cond := [Cond.classLink RL 8 RX5, Cond.instantiable RX5 8, Cond.initialized RX5, Cond.classLink RL 20 RX6, Cond.instantiable RX6 27, Cond.initialized RX6, Cond.arrayClass .long, Cond.constantLong RL 23 (4294967295), Cond.methodLink RL 19 yX5_init, Cond.instanceMethod yX5_init, Cond.code yX5_init cX5_init 2 none, Cond.methodLink RX5 3 objectInit, Cond.instanceMethod objectInit, Cond.code objectInit ⟨#[0xb1]⟩ 1 none, Cond.classLink RX5 11 RX1, Cond.fieldLink RX5 13 "RightsSteps" "levels" "[LRightsSteps$Level;", Cond.classLink RX5 17 RX2, Cond.instantiable RX2 3, Cond.initialized RX2, Cond.fieldLink RX5 20 "RightsSteps" "tape" "LRightsSteps$Tape;", Cond.classLink RX5 24 RX0, Cond.instantiable RX0 2, Cond.initialized RX0, Cond.fieldLink RX5 27 "RightsSteps" "given" "LRightsSteps$GivenSeeds;"]
def wsL_law0_r2 : List Cond := [Cond.classLink RX5 31 RX4, Cond.instantiable RX4 3, Cond.initialized RX4, Cond.fieldLink RX5 34 "RightsSteps" "uses" "LRightsSteps$UseLog;", Cond.classLink RX5 38 RX3, Cond.fieldLink RX5 40 "RightsSteps" "testers" "[LRightsSteps$Tester;", Cond.instantiable RX3 11, Cond.initialized RX3, Cond.fieldLink RX5 47 "RightsSteps" "atHand" "LRightsSteps$Tester;", Cond.instanceMethod yX2_init, Cond.code yX2_init cX2_init 1 none, Cond.methodLink RX2 3 objectInit, Cond.arrayClass .int, Cond.fieldLink RX2 11 "RightsSteps$Tape" "numbers" "[I", Cond.instanceMethod yX0_init, Cond.code yX0_init cX0_init 1 none, Cond.methodLink RX0 1 objectInit, Cond.fieldLink RX0 9 "RightsSteps$GivenSeeds" "seeds" "[I", Cond.instanceMethod yX4_init, Cond.code yX4_init cX4_init 1 none, Cond.methodLink RX4 1 objectInit, Cond.fieldLink RX4 9 "RightsSteps$UseLog" "parts" "[I", Cond.methodLink RX5 44 yX3_init, Cond.instanceMethod yX3_init]
def wsL_law0_r3 : List Cond := [Cond.code yX3_init cX3_init 2 none, Cond.methodLink RX3 3 objectInit, Cond.fieldLink RX3 9 "RightsSteps$Tester" "session" "I", Cond.constantLong RX3 15 (-9223372036854775808), Cond.fieldLink RX3 17 "RightsSteps$Tester" "roleUntil" "J", Cond.fieldLink RX3 21 "RightsSteps$Tester" "openLevel" "I", Cond.fieldLink RX3 24 "RightsSteps$Tester" "awaitedLevel" "I", Cond.fieldLink RX3 27 "RightsSteps$Tester" "usedTries" "[I", Cond.fieldLink RX3 31 "RightsSteps$Tester" "lockedUntil" "[J", Cond.fieldLink RX3 35 "RightsSteps$Tester" "number" "I", Cond.methodLink RX3 38 yJ7_fill_d0a16, Cond.static yJ7_fill_d0a16, Cond.initialized RJ7, Cond.code yJ7_fill_d0a16 cJ7_fill_d0a16 5 none, Cond.methodLink RL 22 yX6_init, Cond.instanceMethod yX6_init, Cond.code yX6_init cX6_init 1 none, Cond.methodLink RX6 1 objectInit, Cond.fieldLink RX6 7 "RightsStepsModel" "kind" "[I", Cond.fieldLink RX6 13 "RightsStepsModel" "tries" "[I", Cond.fieldLink RX6 16 "RightsStepsModel" "delay" "[J", Cond.fieldLink RX6 20 "RightsStepsModel" "tape" "[I", Cond.fieldLink RX6 23 "RightsStepsModel" "given" "[I", Cond.fieldLink RX6 26 "RightsStepsModel" "session" "[I"]
def wsL_law0_r4 : List Cond := [Cond.constantLong RX6 29 (-1), Cond.fieldLink RX6 31 "RightsStepsModel" "roleUntil" "[J", Cond.fieldLink RX6 34 "RightsStepsModel" "open" "[I", Cond.fieldLink RX6 37 "RightsStepsModel" "awaited" "[I", Cond.fieldLink RX6 40 "RightsStepsModel" "awaitedSeed" "[I", Cond.fieldLink RX6 43 "RightsStepsModel" "out" "[I", Cond.fieldLink RX6 46 "RightsStepsModel" "octets" "[I", Cond.fieldLink RX6 49 "RightsStepsModel" "octetRow" "[I", Cond.fieldLink RX6 52 "RightsStepsModel" "used" "[I", Cond.fieldLink RX6 55 "RightsStepsModel" "locked" "[J", Cond.arrayClass .boolean, Cond.fieldLink RX6 58 "RightsStepsModel" "wasLocked" "[Z", Cond.fieldLink RX6 62 "RightsStepsModel" "useBy" "[I", Cond.fieldLink RX6 65 "RightsStepsModel" "useLevel" "[I", Cond.fieldLink RX6 68 "RightsStepsModel" "useAnswer" "[I", Cond.methodLink RL 25 yX5_level, Cond.instanceMethod yX5_level, Cond.selects RX5 yX5_level yX5_level, Cond.code yX5_level cX5_level 6 (some .int), Cond.constantLong RX5 51 (100000), Cond.instantiable RX1 4, Cond.initialized RX1, Cond.fieldLink RX5 56 "RightsSteps" "levelsMade" "I", Cond.methodLink RX5 53 yX1_init]
def wsL_law0_r5 : List Cond := [Cond.instanceMethod yX1_init, Cond.code yX1_init cX1_init 6 none, Cond.methodLink RX1 3 objectInit, Cond.fieldLink RX1 9 "RightsSteps$Level" "number" "I", Cond.fieldLink RX1 15 "RightsSteps$Level" "kind" "I", Cond.fieldLink RX1 18 "RightsSteps$Level" "tries" "I", Cond.fieldLink RX1 21 "RightsSteps$Level" "delay" "J", Cond.methodLink RL 29 yX6_level, Cond.instanceMethod yX6_level, Cond.selects RX6 yX6_level yX6_level, Cond.code yX6_level cX6_level 6 (some .int), Cond.fieldLink RX6 71 "RightsStepsModel" "code" "I", Cond.constantLong RX6 75 (100000), Cond.fieldLink RX6 81 "RightsStepsModel" "made" "I", Cond.methodLink RX6 77 yX6_isMade, Cond.instanceMethod yX6_isMade, Cond.selects RX6 yX6_isMade yX6_isMade, Cond.code yX6_isMade cX6_isMade 2 (some .boolean), Cond.methodLink RL 30 yX5_tape, Cond.instanceMethod yX5_tape, Cond.selects RX5 yX5_tape yX5_tape, Cond.code yX5_tape cX5_tape 2 none, Cond.methodLink RX5 60 yX2_add, Cond.instanceMethod yX2_add]
def wsL_law0_r6 : List Cond := [Cond.selects RX2 yX2_add yX2_add, Cond.code yX2_add cX2_add 3 none, Cond.fieldLink RX2 15 "RightsSteps$Tape" "size" "I", Cond.fieldLink RX2 19 "RightsSteps$Tape" "first" "I", Cond.methodLink RL 34 yX6_tape, Cond.instanceMethod yX6_tape, Cond.selects RX6 yX6_tape yX6_tape, Cond.code yX6_tape cX6_tape 2 none, Cond.fieldLink RX6 84 "RightsStepsModel" "typed" "I", Cond.fieldLink RX6 87 "RightsStepsModel" "read" "I", Cond.methodLink RL 35 yX5_seed, Cond.instanceMethod yX5_seed, Cond.selects RX5 yX5_seed yX5_seed, Cond.code yX5_seed cX5_seed 6 (some .int), Cond.fieldLink RX5 67 "RightsSteps" "time" "J", Cond.constantLong RX5 71 (1152921504606846976), Cond.methodLink RX5 63 yX5_madeLevel, Cond.instanceMethod yX5_madeLevel, Cond.selects RX5 yX5_madeLevel yX5_madeLevel, Cond.code yX5_madeLevel cX5_madeLevel 2 (some (.object "RightsSteps$Level")), Cond.methodLink RX5 73 yX5_askForSeed, Cond.instanceMethod yX5_askForSeed, Cond.selects RX5 yX5_askForSeed yX5_askForSeed, Cond.code yX5_askForSeed cX5_askForSeed 3 (some .int)]
def wsL_law0_r7 : List Cond := [Cond.methodLink RX5 147 yX1_isForSession, Cond.instanceMethod yX1_isForSession, Cond.selects RX1 yX1_isForSession yX1_isForSession, Cond.code yX1_isForSession cX1_isForSession 2 (some .boolean), Cond.methodLink RX5 150 yX1_needsRole, Cond.instanceMethod yX1_needsRole, Cond.selects RX1 yX1_needsRole yX1_needsRole, Cond.code yX1_needsRole cX1_needsRole 1 (some .boolean), Cond.methodLink RX5 121 yX3_lockedUntil, Cond.instanceMethod yX3_lockedUntil, Cond.selects RX3 yX3_lockedUntil yX3_lockedUntil, Cond.code yX3_lockedUntil cX3_lockedUntil 2 (some .long), Cond.methodLink RX5 155 yX2_takeSeed, Cond.instanceMethod yX2_takeSeed, Cond.selects RX2 yX2_takeSeed yX2_takeSeed, Cond.code yX2_takeSeed cX2_takeSeed 4 (some .int), Cond.methodLink RX2 22 yX2_takeFirst, Cond.instanceMethod yX2_takeFirst, Cond.selects RX2 yX2_takeFirst yX2_takeFirst, Cond.code yX2_takeFirst cX2_takeFirst 2 (some .int), Cond.static yX5_isPlain, Cond.code yX5_isPlain cX5_isPlain 1 (some .boolean), Cond.constant RX5 190 (16843009), Cond.methodLink RX2 30 yX0_has]
def wsL_law0_r8 : List Cond := [Cond.instanceMethod yX0_has, Cond.selects RX0 yX0_has yX0_has, Cond.code yX0_has cX0_has 3 (some .boolean), Cond.fieldLink RX0 13 "RightsSteps$GivenSeeds" "size" "I", Cond.methodLink RX5 159 yX0_add, Cond.instanceMethod yX0_add, Cond.selects RX0 yX0_add yX0_add, Cond.code yX0_add cX0_add 2 none, Cond.methodLink RX5 160 yX3_awaitKey, Cond.instanceMethod yX3_awaitKey, Cond.selects RX3 yX3_awaitKey yX3_awaitKey, Cond.code yX3_awaitKey cX3_awaitKey 3 none, Cond.fieldLink RX3 44 "RightsSteps$Tester" "out" "I", Cond.fieldLink RX3 47 "RightsSteps$Tester" "awaitedSeed" "I", Cond.methodLink RX5 80 yX4_add, Cond.instanceMethod yX4_add, Cond.selects RX4 yX4_add yX4_add, Cond.code yX4_add cX4_add 5 none, Cond.fieldLink RX4 13 "RightsSteps$UseLog" "count" "I", Cond.fieldLink RX4 17 "RightsSteps$UseLog" "kept" "I", Cond.methodLink RL 39 yX6_seed, Cond.instanceMethod yX6_seed, Cond.selects RX6 yX6_seed yX6_seed, Cond.code yX6_seed cX6_seed 4 (some .int)]
def wsL_law0_r9 : List Cond := [Cond.fieldLink RX6 99 "RightsStepsModel" "time" "J", Cond.constantLong RX6 109 (1152921504606846976), Cond.methodLink RX6 111 yX6_asked, Cond.instanceMethod yX6_asked, Cond.selects RX6 yX6_asked yX6_asked, Cond.code yX6_asked cX6_asked 4 (some .int), Cond.fieldLink RX6 96 "RightsStepsModel" "hand" "I", Cond.fieldLink RX6 90 "RightsStepsModel" "givens" "I", Cond.methodLink RX6 103 yX6_isPlain, Cond.static yX6_isPlain, Cond.code yX6_isPlain cX6_isPlain 2 (some .boolean), Cond.methodLink RX6 106 yX6_wasGiven, Cond.instanceMethod yX6_wasGiven, Cond.selects RX6 yX6_wasGiven yX6_wasGiven, Cond.code yX6_wasGiven cX6_wasGiven 3 (some .boolean), Cond.methodLink RX6 115 yX6_note, Cond.instanceMethod yX6_note, Cond.selects RX6 yX6_note yX6_note, Cond.code yX6_note cX6_note 3 (some .int), Cond.fieldLink RX6 93 "RightsStepsModel" "uses" "I", Cond.methodLink RL 40 yL_out, Cond.static yL_out, Cond.initialized RL, Cond.codeWith yL_out cL_out 4 (some .int) [(0, 9, 12, 13)]]
def wsL_law0_r10 : List Cond := [Cond.methodLink RL 7 yX5_out, Cond.instanceMethod yX5_out, Cond.selects RX5 yX5_out yX5_out, Cond.code yX5_out cX5_out 2 (some .byte), Cond.classLink RX5 83 RJx00060, Cond.instantiable RJx00060 6, Cond.initialized RJx00060, Cond.methodLink RL 45 yX6_out, Cond.instanceMethod yX6_out, Cond.selects RX6 yX6_out yX6_out, Cond.code yX6_out cX6_out 2 (some .byte), Cond.methodLink RL 46 yX6_thrown, Cond.instanceMethod yX6_thrown, Cond.selects RX6 yX6_thrown yX6_thrown, Cond.code yX6_thrown cX6_thrown 1 (some .int), Cond.methodLink RL 50 yX5_key, Cond.instanceMethod yX5_key, Cond.selects RX5 yX5_key yX5_key, Cond.code yX5_key cX5_key 8 (some .int), Cond.methodLink RX5 89 yX3_addOctet, Cond.instanceMethod yX3_addOctet, Cond.selects RX3 yX3_addOctet yX3_addOctet, Cond.code yX3_addOctet cX3_addOctet 2 none, Cond.fieldLink RX3 50 "RightsSteps$Tester" "octets" "I"]
def wsL_law0_r11 : List Cond := [Cond.fieldLink RX3 53 "RightsSteps$Tester" "keySoFar" "I", Cond.methodLink RX5 99 yX3_dropOctets, Cond.instanceMethod yX3_dropOctets, Cond.selects RX3 yX3_dropOctets yX3_dropOctets, Cond.code yX3_dropOctets cX3_dropOctets 1 none, Cond.methodLink RX5 102 yX5_tryKey, Cond.instanceMethod yX5_tryKey, Cond.selects RX5 yX5_tryKey yX5_tryKey, Cond.code yX5_tryKey cX5_tryKey 4 (some .int), Cond.methodLink RX5 170 yX1_keyTo, Cond.instanceMethod yX1_keyTo, Cond.selects RX1 yX1_keyTo yX1_keyTo, Cond.code yX1_keyTo cX1_keyTo 2 (some .int), Cond.constant RX1 25 (1515870810), Cond.constant RX1 26 (-1640531535), Cond.methodLink RX1 27 yX1_shiftedKeyTo, Cond.instanceMethod yX1_shiftedKeyTo, Cond.selects RX1 yX1_shiftedKeyTo yX1_shiftedKeyTo, Cond.code yX1_shiftedKeyTo cX1_shiftedKeyTo 5 (some .int), Cond.constant RX1 31 (-306674912), Cond.methodLink RX5 174 yX3_setUsedTries, Cond.instanceMethod yX3_setUsedTries, Cond.selects RX3 yX3_setUsedTries yX3_setUsedTries, Cond.code yX3_setUsedTries cX3_setUsedTries 3 none]
def wsL_law0_r12 : List Cond := [Cond.methodLink RX5 177 yX3_usedTries, Cond.instanceMethod yX3_usedTries, Cond.selects RX3 yX3_usedTries yX3_usedTries, Cond.code yX3_usedTries cX3_usedTries 2 (some .int), Cond.methodLink RX5 186 yX3_lock, Cond.instanceMethod yX3_lock, Cond.selects RX3 yX3_lock yX3_lock, Cond.code yX3_lock cX3_lock 4 none, Cond.methodLink RL 54 yX6_key, Cond.instanceMethod yX6_key, Cond.selects RX6 yX6_key yX6_key, Cond.code yX6_key cX6_key 6 (some .int), Cond.methodLink RX6 125 yX6_came, Cond.instanceMethod yX6_came, Cond.selects RX6 yX6_came yX6_came, Cond.code yX6_came cX6_came 5 (some .int), Cond.methodLink RX6 122 yX6_keyTo, Cond.instanceMethod yX6_keyTo, Cond.selects RX6 yX6_keyTo yX6_keyTo, Cond.code yX6_keyTo cX6_keyTo 5 (some .int), Cond.constant RX6 119 (1515870810), Cond.constant RX6 120 (-1640531535), Cond.constant RX6 121 (-306674912), Cond.methodLink RL 55 yX5_open]
def wsL_law0_r13 : List Cond := [Cond.instanceMethod yX5_open, Cond.selects RX5 yX5_open yX5_open, Cond.code yX5_open cX5_open 2 (some .int), Cond.methodLink RL 58 yX6_open, Cond.instanceMethod yX6_open, Cond.selects RX6 yX6_open yX6_open, Cond.code yX6_open cX6_open 2 (some .int), Cond.methodLink RL 59 yX5_session, Cond.instanceMethod yX5_session, Cond.selects RX5 yX5_session yX5_session, Cond.code yX5_session cX5_session 3 (some .int), Cond.methodLink RX5 112 yX3_startSession, Cond.instanceMethod yX3_startSession, Cond.selects RX3 yX3_startSession yX3_startSession, Cond.code yX3_startSession cX3_startSession 2 none, Cond.methodLink RL 62 yX6_session, Cond.instanceMethod yX6_session, Cond.selects RX6 yX6_session yX6_session, Cond.code yX6_session cX6_session 3 (some .int), Cond.methodLink RX6 129 yX6_begin, Cond.instanceMethod yX6_begin, Cond.selects RX6 yX6_begin yX6_begin, Cond.code yX6_begin cX6_begin 3 none, Cond.methodLink RL 63 yX5_reset]
def wsL_law0_r14 : List Cond := [Cond.instanceMethod yX5_reset, Cond.selects RX5 yX5_reset yX5_reset, Cond.code yX5_reset cX5_reset 4 (some .int), Cond.methodLink RX5 115 yX0_forgetAll, Cond.instanceMethod yX0_forgetAll, Cond.selects RX0 yX0_forgetAll yX0_forgetAll, Cond.code yX0_forgetAll cX0_forgetAll 1 none, Cond.methodLink RL 66 yX6_reset, Cond.instanceMethod yX6_reset, Cond.selects RX6 yX6_reset yX6_reset, Cond.code yX6_reset cX6_reset 3 (some .int), Cond.methodLink RL 67 yX5_role, Cond.instanceMethod yX5_role, Cond.selects RX5 yX5_role yX5_role, Cond.code yX5_role cX5_role 5 (some .int), Cond.methodLink RL 71 yX6_role, Cond.instanceMethod yX6_role, Cond.selects RX6 yX6_role yX6_role, Cond.code yX6_role cX6_role 5 (some .int), Cond.methodLink RL 72 yX5_left, Cond.instanceMethod yX5_left, Cond.selects RX5 yX5_left yX5_left, Cond.code yX5_left cX5_left 6 (some .int), Cond.constantLong RX5 125 (1000000)]
def wsL_law0_r15 : List Cond := [Cond.constant RX5 127 (1000000), Cond.methodLink RL 75 yX6_left, Cond.instanceMethod yX6_left, Cond.selects RX6 yX6_left yX6_left, Cond.code yX6_left cX6_left 6 (some .int), Cond.constantLong RX6 133 (1000000), Cond.constant RX6 135 (1000000), Cond.methodLink RL 76 yX5_log, Cond.instanceMethod yX5_log, Cond.selects RX5 yX5_log yX5_log, Cond.code yX5_log cX5_log 3 (some .int), Cond.methodLink RX5 131 yX4_has, Cond.instanceMethod yX4_has, Cond.selects RX4 yX4_has yX4_has, Cond.code yX4_has cX4_has 2 (some .boolean), Cond.methodLink RX5 135 yX4_part, Cond.instanceMethod yX4_part, Cond.selects RX4 yX4_part yX4_part, Cond.code yX4_part cX4_part 3 (some .int), Cond.methodLink RX4 20 yX4_has, Cond.methodLink RL 80 yX6_log, Cond.instanceMethod yX6_log, Cond.selects RX6 yX6_log yX6_log, Cond.code yX6_log cX6_log 3 (some .int)]
def wsL_law0_r16 : List Cond := [Cond.methodLink RL 81 yL_digit, Cond.static yL_digit, Cond.codeWith yL_digit cL_digit 4 (some .int) [(0, 9, 12, 13)], Cond.methodLink RL 15 yX5_digit, Cond.instanceMethod yX5_digit, Cond.selects RX5 yX5_digit yX5_digit, Cond.code yX5_digit cX5_digit 6 (some .int), Cond.constantLong RX5 139 (4294967295), Cond.constantLong RX5 145 (10), Cond.methodLink RX5 141 yX5_countDigits, Cond.static yX5_countDigits, Cond.code yX5_countDigits cX5_countDigits 5 (some .int), Cond.methodLink RL 83 yX6_digit, Cond.instanceMethod yX6_digit, Cond.selects RX6 yX6_digit yX6_digit, Cond.code yX6_digit cX6_digit 7 (some .int), Cond.constantLong RX6 136 (4294967295), Cond.constantLong RX6 138 (10), Cond.methodLink RL 84 yX5_tester, Cond.instanceMethod yX5_tester, Cond.selects RX5 yX5_tester yX5_tester, Cond.code yX5_tester cX5_tester 3 (some .int), Cond.methodLink RL 87 yX6_tester, Cond.instanceMethod yX6_tester]
def wsL_law0_r17 : List Cond := [Cond.selects RX6 yX6_tester yX6_tester, Cond.code yX6_tester cX6_tester 3 (some .int)]
def wsL_law0 : List Cond := (wsL_law0_r1 ++ (wsL_law0_r2 ++ (wsL_law0_r3 ++ (wsL_law0_r4 ++ (wsL_law0_r5 ++ (wsL_law0_r6 ++ (wsL_law0_r7 ++ (wsL_law0_r8 ++ (wsL_law0_r9 ++ (wsL_law0_r10 ++ (wsL_law0_r11 ++ (wsL_law0_r12 ++ (wsL_law0_r13 ++ (wsL_law0_r14 ++ (wsL_law0_r15 ++ (wsL_law0_r16 ++ wsL_law0_r17)))))))))))))))) ++ wsX50 ++ wsX60 ++ wsX20 ++ wsX00 ++ wsX40 ++ wsX30 ++ wsX10 ++ wsJx000600 ++ ([] : List Cond)
def wsL_law : List Cond := wsL_law0 ++ (vx_atM "java/lang/ArrayIndexOutOfBoundsException" ["java/lang/IndexOutOfBoundsException", "java/lang/RuntimeException", "java/lang/Exception"]).filter goodWord
set_option maxRecDepth 20000 in
theorem wsL_law_in0 : ∀ w ∈ wsL_law0, w ∈ lw_tbl := fun w h => (goodIn_p wsL_law0 [32, 35, 42, 59, 72, 90, 95, 449, 168, 173, 542, 547, 194, 198, 551, 202, 206, 211, 215, 219, 223, 227, 231, 234, 239, 243, 247, 251, 555, 560, 563, 567, 571, 418, 590, 538, 255, 259, 263, 267, 271, 277, 282, 286, 290, 575, 579, 583, 294, 594, 298, 302, 598, 602, 306, 310, 606, 314, 610, 318, 614, 324, 328, 332, 620, 439, 443, 624, 337, 630] (by decide +kernel) (by decide +kernel) w h).1
theorem wsL_law_x0 : ∀ w ∈ (vx_atM "java/lang/ArrayIndexOutOfBoundsException" ["java/lang/IndexOutOfBoundsException", "java/lang/RuntimeException", "java/lang/Exception"]).filter goodWord, w ∈ lw_tbl := by decide +kernel
theorem wsL_law_in : ∀ w ∈ wsL_law, w ∈ lw_tbl := fun w h => (List.mem_append.mp h).elim (fun h => wsL_law_in0 w h) (fun h => wsL_law_x0 w h)
theorem inlX0 : ∀ w ∈ wsX00, w ∈ wsL_law := fun _ h => List.mem_append_left _ (List.mem_append_left _ (List.mem_append_left _ (List.mem_append_left _ (List.mem_append_left _ (List.mem_append_left _ (List.mem_append_right _ h))))))
theorem inX0 : ∀ w ∈ wsX00, w ∈ lw_tbl := fun w h => wsL_law_in w (inlX0 w h)
theorem inlX1 : ∀ w ∈ wsX10, w ∈ wsL_law := fun _ h => List.mem_append_left _ (List.mem_append_left _ (List.mem_append_left _ (List.mem_append_right _ h)))
theorem inX1 : ∀ w ∈ wsX10, w ∈ lw_tbl := fun w h => wsL_law_in w (inlX1 w h)
theorem inlX2 : ∀ w ∈ wsX20, w ∈ wsL_law := fun _ h => List.mem_append_left _ (List.mem_append_left _ (List.mem_append_left _ (List.mem_append_left _ (List.mem_append_left _ (List.mem_append_left _ (List.mem_append_left _ (List.mem_append_right _ h)))))))
theorem inX2 : ∀ w ∈ wsX20, w ∈ lw_tbl := fun w h => wsL_law_in w (inlX2 w h)
theorem inlX3 : ∀ w ∈ wsX30, w ∈ wsL_law := fun _ h => List.mem_append_left _ (List.mem_append_left _ (List.mem_append_left _ (List.mem_append_left _ (List.mem_append_right _ h))))
theorem inX3 : ∀ w ∈ wsX30, w ∈ lw_tbl := fun w h => wsL_law_in w (inlX3 w h)
theorem inlX4 : ∀ w ∈ wsX40, w ∈ wsL_law := fun _ h => List.mem_append_left _ (List.mem_append_left _ (List.mem_append_left _ (List.mem_append_left _ (List.mem_append_left _ (List.mem_append_right _ h)))))
theorem inX4 : ∀ w ∈ wsX40, w ∈ lw_tbl := fun w h => wsL_law_in w (inlX4 w h)
theorem inlX5 : ∀ w ∈ wsX50, w ∈ wsL_law := fun _ h => List.mem_append_left _ (List.mem_append_left _ (List.mem_append_left _ (List.mem_append_left _ (List.mem_append_left _ (List.mem_append_left _ (List.mem_append_left _ (List.mem_append_left _ (List.mem_append_left _ (List.mem_append_right _ h)))))))))
theorem inX5 : ∀ w ∈ wsX50, w ∈ lw_tbl := fun w h => wsL_law_in w (inlX5 w h)
theorem inlX6 : ∀ w ∈ wsX60, w ∈ wsL_law := fun _ h => List.mem_append_left _ (List.mem_append_left _ (List.mem_append_left _ (List.mem_append_left _ (List.mem_append_left _ (List.mem_append_left _ (List.mem_append_left _ (List.mem_append_left _ (List.mem_append_right _ h))))))))
theorem inX6 : ∀ w ∈ wsX60, w ∈ lw_tbl := fun w h => wsL_law_in w (inlX6 w h)
theorem inJx145de : ∀ w ∈ wsJx145de0, w ∈ lw_tbl := by decide +kernel
theorem inlJx00060 : ∀ w ∈ wsJx000600, w ∈ wsL_law := fun _ h => List.mem_append_left _ (List.mem_append_left _ (List.mem_append_right _ h))
theorem inJx00060 : ∀ w ∈ wsJx000600, w ∈ lw_tbl := fun w h => wsL_law_in w (inlJx00060 w h)
theorem inJ0 : ∀ w ∈ wsJ00, w ∈ lw_tbl := by decide +kernel
theorem inJ7 : ∀ w ∈ wsJ70, w ∈ lw_tbl := by decide +kernel
theorem dX0_init_0 : decode cX0_init 0 = .ok (.aload_n 0, 1) := by decide +kernel
theorem dX0_init_1 : decode cX0_init 1 = .ok (.invokespecial 1, 3) := by decide +kernel
theorem dX0_init_4 : decode cX0_init 4 = .ok (.aload_n 0, 1) := by decide +kernel
theorem dX0_init_5 : decode cX0_init 5 = .ok (.sipush 256, 3) := by decide +kernel
theorem dX0_init_8 : decode cX0_init 8 = .ok (.newarray .int, 2) := by decide +kernel
theorem dX0_init_10 : decode cX0_init 10 = .ok (.putfield 9, 3) := by decide +kernel
theorem dX0_init_13 : decode cX0_init 13 = .ok (.return_, 1) := by decide +kernel
theorem dX0_has_0 : decode cX0_has 0 = .ok (.iconst 0, 1) := by decide +kernel
theorem dX0_has_1 : decode cX0_has 1 = .ok (.istore_n 2, 1) := by decide +kernel
theorem dX0_has_2 : decode cX0_has 2 = .ok (.iload_n 2, 1) := by decide +kernel
theorem dX0_has_3 : decode cX0_has 3 = .ok (.aload_n 0, 1) := by decide +kernel
theorem dX0_has_4 : decode cX0_has 4 = .ok (.getfield 13, 3) := by decide +kernel
theorem dX0_has_7 : decode cX0_has 7 = .ok (.if_icmp .ge 30, 3) := by decide +kernel
theorem dX0_has_10 : decode cX0_has 10 = .ok (.iload_n 2, 1) := by decide +kernel
theorem dX0_has_11 : decode cX0_has 11 = .ok (.aload_n 0, 1) := by decide +kernel
theorem dX0_has_12 : decode cX0_has 12 = .ok (.getfield 9, 3) := by decide +kernel
theorem dX0_has_15 : decode cX0_has 15 = .ok (.arraylength, 1) := by decide +kernel
theorem dX0_has_16 : decode cX0_has 16 = .ok (.if_icmp .ge 21, 3) := by decide +kernel
theorem dX0_has_19 : decode cX0_has 19 = .ok (.aload_n 0, 1) := by decide +kernel
theorem dX0_has_20 : decode cX0_has 20 = .ok (.getfield 9, 3) := by decide +kernel
theorem dX0_has_23 : decode cX0_has 23 = .ok (.iload_n 2, 1) := by decide +kernel
theorem dX0_has_24 : decode cX0_has 24 = .ok (.iaload, 1) := by decide +kernel
theorem dX0_has_25 : decode cX0_has 25 = .ok (.iload_n 1, 1) := by decide +kernel
theorem dX0_has_26 : decode cX0_has 26 = .ok (.if_icmp .ne 5, 3) := by decide +kernel
theorem dX0_has_29 : decode cX0_has 29 = .ok (.iconst 1, 1) := by decide +kernel
theorem dX0_has_30 : decode cX0_has 30 = .ok (.ireturn, 1) := by decide +kernel
theorem dX0_has_31 : decode cX0_has 31 = .ok (.iinc 2 1, 3) := by decide +kernel
theorem dX0_has_34 : decode cX0_has 34 = .ok (.goto (-32), 3) := by decide +kernel
theorem dX0_has_37 : decode cX0_has 37 = .ok (.iconst 0, 1) := by decide +kernel
theorem dX0_has_38 : decode cX0_has 38 = .ok (.ireturn, 1) := by decide +kernel
theorem dX0_add_0 : decode cX0_add 0 = .ok (.aload_n 0, 1) := by decide +kernel
theorem dX0_add_1 : decode cX0_add 1 = .ok (.getfield 13, 3) := by decide +kernel
theorem dX0_add_4 : decode cX0_add 4 = .ok (.aload_n 0, 1) := by decide +kernel
theorem dX0_add_5 : decode cX0_add 5 = .ok (.getfield 9, 3) := by decide +kernel
theorem dX0_add_8 : decode cX0_add 8 = .ok (.arraylength, 1) := by decide +kernel
theorem dX0_add_9 : decode cX0_add 9 = .ok (.if_icmp .ge 23, 3) := by decide +kernel
theorem dX0_add_12 : decode cX0_add 12 = .ok (.aload_n 0, 1) := by decide +kernel
theorem dX0_add_13 : decode cX0_add 13 = .ok (.getfield 9, 3) := by decide +kernel
theorem dX0_add_16 : decode cX0_add 16 = .ok (.aload_n 0, 1) := by decide +kernel
theorem dX0_add_17 : decode cX0_add 17 = .ok (.getfield 13, 3) := by decide +kernel
theorem dX0_add_20 : decode cX0_add 20 = .ok (.iload_n 1, 1) := by decide +kernel
theorem dX0_add_21 : decode cX0_add 21 = .ok (.iastore, 1) := by decide +kernel
theorem dX0_add_22 : decode cX0_add 22 = .ok (.aload_n 0, 1) := by decide +kernel
theorem dX0_add_23 : decode cX0_add 23 = .ok (.dup, 1) := by decide +kernel
theorem dX0_add_24 : decode cX0_add 24 = .ok (.getfield 13, 3) := by decide +kernel
theorem dX0_add_27 : decode cX0_add 27 = .ok (.iconst 1, 1) := by decide +kernel
theorem dX0_add_28 : decode cX0_add 28 = .ok (.iadd, 1) := by decide +kernel
theorem dX0_add_29 : decode cX0_add 29 = .ok (.putfield 13, 3) := by decide +kernel
theorem dX0_add_32 : decode cX0_add 32 = .ok (.return_, 1) := by decide +kernel
theorem dX0_forgetAll_0 : decode cX0_forgetAll 0 = .ok (.aload_n 0, 1) := by decide +kernel
theorem dX0_forgetAll_1 : decode cX0_forgetAll 1 = .ok (.iconst 0, 1) := by decide +kernel
theorem dX0_forgetAll_2 : decode cX0_forgetAll 2 = .ok (.putfield 13, 3) := by decide +kernel
theorem dX0_forgetAll_5 : decode cX0_forgetAll 5 = .ok (.return_, 1) := by decide +kernel
theorem dX1_init_0 : decode cX1_init 0 = .ok (.aload_n 0, 1) := by decide +kernel
theorem dX1_init_1 : decode cX1_init 1 = .ok (.invokespecial 3, 3) := by decide +kernel
theorem dX1_init_4 : decode cX1_init 4 = .ok (.aload_n 0, 1) := by decide +kernel
theorem dX1_init_5 : decode cX1_init 5 = .ok (.iload_n 1, 1) := by decide +kernel
theorem dX1_init_6 : decode cX1_init 6 = .ok (.putfield 9, 3) := by decide +kernel
theorem dX1_init_9 : decode cX1_init 9 = .ok (.aload_n 0, 1) := by decide +kernel
theorem dX1_init_10 : decode cX1_init 10 = .ok (.iload_n 2, 1) := by decide +kernel
theorem dX1_init_11 : decode cX1_init 11 = .ok (.putfield 15, 3) := by decide +kernel
theorem dX1_init_14 : decode cX1_init 14 = .ok (.aload_n 0, 1) := by decide +kernel
theorem dX1_init_15 : decode cX1_init 15 = .ok (.iload_n 3, 1) := by decide +kernel
theorem dX1_init_16 : decode cX1_init 16 = .ok (.putfield 18, 3) := by decide +kernel
theorem dX1_init_19 : decode cX1_init 19 = .ok (.aload_n 0, 1) := by decide +kernel
theorem dX1_init_20 : decode cX1_init 20 = .ok (.lload 4, 2) := by decide +kernel
theorem dX1_init_22 : decode cX1_init 22 = .ok (.putfield 21, 3) := by decide +kernel
theorem dX1_init_25 : decode cX1_init 25 = .ok (.return_, 1) := by decide +kernel
theorem dX1_needsRole_0 : decode cX1_needsRole 0 = .ok (.aload_n 0, 1) := by decide +kernel
theorem dX1_needsRole_1 : decode cX1_needsRole 1 = .ok (.getfield 9, 3) := by decide +kernel
theorem dX1_needsRole_4 : decode cX1_needsRole 4 = .ok (.bipush 10, 2) := by decide +kernel
theorem dX1_needsRole_6 : decode cX1_needsRole 6 = .ok (.if_icmp .le 7, 3) := by decide +kernel
theorem dX1_needsRole_9 : decode cX1_needsRole 9 = .ok (.iconst 1, 1) := by decide +kernel
theorem dX1_needsRole_10 : decode cX1_needsRole 10 = .ok (.goto 4, 3) := by decide +kernel
theorem dX1_needsRole_13 : decode cX1_needsRole 13 = .ok (.iconst 0, 1) := by decide +kernel
theorem dX1_needsRole_14 : decode cX1_needsRole 14 = .ok (.ireturn, 1) := by decide +kernel
theorem dX1_isForSession_0 : decode cX1_isForSession 0 = .ok (.iload_n 1, 1) := by decide +kernel
theorem dX1_isForSession_1 : decode cX1_isForSession 1 = .ok (.iconst 3, 1) := by decide +kernel
theorem dX1_isForSession_2 : decode cX1_isForSession 2 = .ok (.if_icmp .eq 17, 3) := by decide +kernel
theorem dX1_isForSession_5 : decode cX1_isForSession 5 = .ok (.iload_n 1, 1) := by decide +kernel
theorem dX1_isForSession_6 : decode cX1_isForSession 6 = .ok (.iconst 2, 1) := by decide +kernel
theorem dX1_isForSession_7 : decode cX1_isForSession 7 = .ok (.if_icmp .ne 16, 3) := by decide +kernel
theorem dX1_isForSession_10 : decode cX1_isForSession 10 = .ok (.aload_n 0, 1) := by decide +kernel
theorem dX1_isForSession_11 : decode cX1_isForSession 11 = .ok (.getfield 9, 3) := by decide +kernel
theorem dX1_isForSession_14 : decode cX1_isForSession 14 = .ok (.bipush 10, 2) := by decide +kernel
theorem dX1_isForSession_16 : decode cX1_isForSession 16 = .ok (.if_icmp .gt 7, 3) := by decide +kernel
theorem dX1_isForSession_19 : decode cX1_isForSession 19 = .ok (.iconst 1, 1) := by decide +kernel
theorem dX1_isForSession_20 : decode cX1_isForSession 20 = .ok (.goto 4, 3) := by decide +kernel
theorem dX1_isForSession_23 : decode cX1_isForSession 23 = .ok (.iconst 0, 1) := by decide +kernel
theorem dX1_isForSession_24 : decode cX1_isForSession 24 = .ok (.ireturn, 1) := by decide +kernel
set_option maxRecDepth 20000 in
theorem ggX1_keyTo_X1_shiftedKeyTo : GoodIn wsX1_keyTo wsX1_shiftedKeyTo := goodIn_r _ [9, 4, 10, 11, 12, 13, 14] (by decide +kernel) (by decide +kernel)
set_option maxRecDepth 20000 in
theorem gX1_keyTo_X1_shiftedKeyTo : GoodIn wsX1_keyTo (wsV RX1 27 RX1 yX1_shiftedKeyTo wsX1_shiftedKeyTo) := goodIn_app (goodIn_of _ (by decide +kernel)) ggX1_keyTo_X1_shiftedKeyTo
theorem dX1_keyTo_0 : decode cX1_keyTo 0 = .ok (.aload_n 0, 1) := by decide +kernel
theorem dX1_keyTo_1 : decode cX1_keyTo 1 = .ok (.getfield 15, 3) := by decide +kernel
theorem dX1_keyTo_4 : decode cX1_keyTo 4 = .ok (.ifCond .ne 8, 3) := by decide +kernel
theorem dX1_keyTo_7 : decode cX1_keyTo 7 = .ok (.iload_n 1, 1) := by decide +kernel
theorem dX1_keyTo_8 : decode cX1_keyTo 8 = .ok (.ldc 25, 2) := by decide +kernel
theorem dX1_keyTo_10 : decode cX1_keyTo 10 = .ok (.ixor, 1) := by decide +kernel
theorem dX1_keyTo_11 : decode cX1_keyTo 11 = .ok (.ireturn, 1) := by decide +kernel
theorem dX1_keyTo_12 : decode cX1_keyTo 12 = .ok (.aload_n 0, 1) := by decide +kernel
theorem dX1_keyTo_13 : decode cX1_keyTo 13 = .ok (.getfield 15, 3) := by decide +kernel
theorem dX1_keyTo_16 : decode cX1_keyTo 16 = .ok (.iconst 1, 1) := by decide +kernel
theorem dX1_keyTo_17 : decode cX1_keyTo 17 = .ok (.if_icmp .ne 21, 3) := by decide +kernel
theorem dX1_keyTo_20 : decode cX1_keyTo 20 = .ok (.iload_n 1, 1) := by decide +kernel
theorem dX1_keyTo_21 : decode cX1_keyTo 21 = .ok (.bipush 7, 2) := by decide +kernel
theorem dX1_keyTo_23 : decode cX1_keyTo 23 = .ok (.ishl, 1) := by decide +kernel
theorem dX1_keyTo_24 : decode cX1_keyTo 24 = .ok (.iload_n 1, 1) := by decide +kernel
theorem dX1_keyTo_25 : decode cX1_keyTo 25 = .ok (.bipush 25, 2) := by decide +kernel
theorem dX1_keyTo_27 : decode cX1_keyTo 27 = .ok (.iushr, 1) := by decide +kernel
theorem dX1_keyTo_28 : decode cX1_keyTo 28 = .ok (.ior, 1) := by decide +kernel
theorem dX1_keyTo_29 : decode cX1_keyTo 29 = .ok (.ldc 26, 2) := by decide +kernel
theorem dX1_keyTo_31 : decode cX1_keyTo 31 = .ok (.imul, 1) := by decide +kernel
theorem dX1_keyTo_32 : decode cX1_keyTo 32 = .ok (.aload_n 0, 1) := by decide +kernel
theorem dX1_keyTo_33 : decode cX1_keyTo 33 = .ok (.getfield 9, 3) := by decide +kernel
theorem dX1_keyTo_36 : decode cX1_keyTo 36 = .ok (.iadd, 1) := by decide +kernel
theorem dX1_keyTo_37 : decode cX1_keyTo 37 = .ok (.ireturn, 1) := by decide +kernel
theorem dX1_keyTo_38 : decode cX1_keyTo 38 = .ok (.aload_n 0, 1) := by decide +kernel
theorem dX1_keyTo_39 : decode cX1_keyTo 39 = .ok (.iload_n 1, 1) := by decide +kernel
theorem dX1_keyTo_40 : decode cX1_keyTo 40 = .ok (.invokevirtual 27, 3) := by decide +kernel
theorem dX1_keyTo_43 : decode cX1_keyTo 43 = .ok (.ireturn, 1) := by decide +kernel
theorem dX1_shiftedKeyTo_0 : decode cX1_shiftedKeyTo 0 = .ok (.iload_n 1, 1) := by decide +kernel
theorem dX1_shiftedKeyTo_1 : decode cX1_shiftedKeyTo 1 = .ok (.aload_n 0, 1) := by decide +kernel
theorem dX1_shiftedKeyTo_2 : decode cX1_shiftedKeyTo 2 = .ok (.getfield 9, 3) := by decide +kernel
theorem dX1_shiftedKeyTo_5 : decode cX1_shiftedKeyTo 5 = .ok (.ixor, 1) := by decide +kernel
theorem dX1_shiftedKeyTo_6 : decode cX1_shiftedKeyTo 6 = .ok (.istore_n 2, 1) := by decide +kernel
theorem dX1_shiftedKeyTo_7 : decode cX1_shiftedKeyTo 7 = .ok (.iconst 0, 1) := by decide +kernel
theorem dX1_shiftedKeyTo_8 : decode cX1_shiftedKeyTo 8 = .ok (.istore_n 3, 1) := by decide +kernel
theorem dX1_shiftedKeyTo_9 : decode cX1_shiftedKeyTo 9 = .ok (.iload_n 3, 1) := by decide +kernel
theorem dX1_shiftedKeyTo_10 : decode cX1_shiftedKeyTo 10 = .ok (.bipush 32, 2) := by decide +kernel
theorem dX1_shiftedKeyTo_12 : decode cX1_shiftedKeyTo 12 = .ok (.if_icmp .ge 37, 3) := by decide +kernel
theorem dX1_shiftedKeyTo_15 : decode cX1_shiftedKeyTo 15 = .ok (.iload_n 2, 1) := by decide +kernel
theorem dX1_shiftedKeyTo_16 : decode cX1_shiftedKeyTo 16 = .ok (.iconst 1, 1) := by decide +kernel
theorem dX1_shiftedKeyTo_17 : decode cX1_shiftedKeyTo 17 = .ok (.iand, 1) := by decide +kernel
theorem dX1_shiftedKeyTo_18 : decode cX1_shiftedKeyTo 18 = .ok (.iconst 1, 1) := by decide +kernel
theorem dX1_shiftedKeyTo_19 : decode cX1_shiftedKeyTo 19 = .ok (.if_icmp .ne 7, 3) := by decide +kernel
theorem dX1_shiftedKeyTo_22 : decode cX1_shiftedKeyTo 22 = .ok (.iconst 1, 1) := by decide +kernel
theorem dX1_shiftedKeyTo_23 : decode cX1_shiftedKeyTo 23 = .ok (.goto 4, 3) := by decide +kernel
theorem dX1_shiftedKeyTo_26 : decode cX1_shiftedKeyTo 26 = .ok (.iconst 0, 1) := by decide +kernel
theorem dX1_shiftedKeyTo_27 : decode cX1_shiftedKeyTo 27 = .ok (.istore 4, 2) := by decide +kernel
theorem dX1_shiftedKeyTo_29 : decode cX1_shiftedKeyTo 29 = .ok (.iload_n 2, 1) := by decide +kernel
theorem dX1_shiftedKeyTo_30 : decode cX1_shiftedKeyTo 30 = .ok (.iconst 1, 1) := by decide +kernel
theorem dX1_shiftedKeyTo_31 : decode cX1_shiftedKeyTo 31 = .ok (.iushr, 1) := by decide +kernel
theorem dX1_shiftedKeyTo_32 : decode cX1_shiftedKeyTo 32 = .ok (.istore_n 2, 1) := by decide +kernel
theorem dX1_shiftedKeyTo_33 : decode cX1_shiftedKeyTo 33 = .ok (.iload 4, 2) := by decide +kernel
theorem dX1_shiftedKeyTo_35 : decode cX1_shiftedKeyTo 35 = .ok (.ifCond .eq 8, 3) := by decide +kernel
theorem dX1_shiftedKeyTo_38 : decode cX1_shiftedKeyTo 38 = .ok (.iload_n 2, 1) := by decide +kernel
theorem dX1_shiftedKeyTo_39 : decode cX1_shiftedKeyTo 39 = .ok (.ldc 31, 2) := by decide +kernel
theorem dX1_shiftedKeyTo_41 : decode cX1_shiftedKeyTo 41 = .ok (.ixor, 1) := by decide +kernel
theorem dX1_shiftedKeyTo_42 : decode cX1_shiftedKeyTo 42 = .ok (.istore_n 2, 1) := by decide +kernel
theorem dX1_shiftedKeyTo_43 : decode cX1_shiftedKeyTo 43 = .ok (.iinc 3 1, 3) := by decide +kernel
theorem dX1_shiftedKeyTo_46 : decode cX1_shiftedKeyTo 46 = .ok (.goto (-37), 3) := by decide +kernel
theorem dX1_shiftedKeyTo_49 : decode cX1_shiftedKeyTo 49 = .ok (.iload_n 2, 1) := by decide +kernel
theorem dX1_shiftedKeyTo_50 : decode cX1_shiftedKeyTo 50 = .ok (.ireturn, 1) := by decide +kernel
theorem dX2_init_0 : decode cX2_init 0 = .ok (.aload_n 0, 1) := by decide +kernel
theorem dX2_init_1 : decode cX2_init 1 = .ok (.invokespecial 3, 3) := by decide +kernel
theorem dX2_init_4 : decode cX2_init 4 = .ok (.aload_n 0, 1) := by decide +kernel
theorem dX2_init_5 : decode cX2_init 5 = .ok (.sipush 200, 3) := by decide +kernel
theorem dX2_init_8 : decode cX2_init 8 = .ok (.newarray .int, 2) := by decide +kernel
theorem dX2_init_10 : decode cX2_init 10 = .ok (.putfield 11, 3) := by decide +kernel
theorem dX2_init_13 : decode cX2_init 13 = .ok (.return_, 1) := by decide +kernel
theorem dX2_add_0 : decode cX2_add 0 = .ok (.aload_n 0, 1) := by decide +kernel
theorem dX2_add_1 : decode cX2_add 1 = .ok (.getfield 15, 3) := by decide +kernel
theorem dX2_add_4 : decode cX2_add 4 = .ok (.aload_n 0, 1) := by decide +kernel
theorem dX2_add_5 : decode cX2_add 5 = .ok (.getfield 11, 3) := by decide +kernel
theorem dX2_add_8 : decode cX2_add 8 = .ok (.arraylength, 1) := by decide +kernel
theorem dX2_add_9 : decode cX2_add 9 = .ok (.if_icmp .lt 4, 3) := by decide +kernel
theorem dX2_add_12 : decode cX2_add 12 = .ok (.return_, 1) := by decide +kernel
theorem dX2_add_13 : decode cX2_add 13 = .ok (.aload_n 0, 1) := by decide +kernel
theorem dX2_add_14 : decode cX2_add 14 = .ok (.getfield 19, 3) := by decide +kernel
theorem dX2_add_17 : decode cX2_add 17 = .ok (.aload_n 0, 1) := by decide +kernel
theorem dX2_add_18 : decode cX2_add 18 = .ok (.getfield 15, 3) := by decide +kernel
theorem dX2_add_21 : decode cX2_add 21 = .ok (.iadd, 1) := by decide +kernel
theorem dX2_add_22 : decode cX2_add 22 = .ok (.istore_n 2, 1) := by decide +kernel
theorem dX2_add_23 : decode cX2_add 23 = .ok (.iload_n 2, 1) := by decide +kernel
theorem dX2_add_24 : decode cX2_add 24 = .ok (.aload_n 0, 1) := by decide +kernel
theorem dX2_add_25 : decode cX2_add 25 = .ok (.getfield 11, 3) := by decide +kernel
theorem dX2_add_28 : decode cX2_add 28 = .ok (.arraylength, 1) := by decide +kernel
theorem dX2_add_29 : decode cX2_add 29 = .ok (.if_icmp .lt 11, 3) := by decide +kernel
theorem dX2_add_32 : decode cX2_add 32 = .ok (.iload_n 2, 1) := by decide +kernel
theorem dX2_add_33 : decode cX2_add 33 = .ok (.aload_n 0, 1) := by decide +kernel
theorem dX2_add_34 : decode cX2_add 34 = .ok (.getfield 11, 3) := by decide +kernel
theorem dX2_add_37 : decode cX2_add 37 = .ok (.arraylength, 1) := by decide +kernel
theorem dX2_add_38 : decode cX2_add 38 = .ok (.isub, 1) := by decide +kernel
theorem dX2_add_39 : decode cX2_add 39 = .ok (.istore_n 2, 1) := by decide +kernel
theorem dX2_add_40 : decode cX2_add 40 = .ok (.aload_n 0, 1) := by decide +kernel
theorem dX2_add_41 : decode cX2_add 41 = .ok (.getfield 11, 3) := by decide +kernel
theorem dX2_add_44 : decode cX2_add 44 = .ok (.iload_n 2, 1) := by decide +kernel
theorem dX2_add_45 : decode cX2_add 45 = .ok (.iload_n 1, 1) := by decide +kernel
theorem dX2_add_46 : decode cX2_add 46 = .ok (.iastore, 1) := by decide +kernel
theorem dX2_add_47 : decode cX2_add 47 = .ok (.aload_n 0, 1) := by decide +kernel
theorem dX2_add_48 : decode cX2_add 48 = .ok (.dup, 1) := by decide +kernel
theorem dX2_add_49 : decode cX2_add 49 = .ok (.getfield 15, 3) := by decide +kernel
theorem dX2_add_52 : decode cX2_add 52 = .ok (.iconst 1, 1) := by decide +kernel
theorem dX2_add_53 : decode cX2_add 53 = .ok (.iadd, 1) := by decide +kernel
theorem dX2_add_54 : decode cX2_add 54 = .ok (.putfield 15, 3) := by decide +kernel
theorem dX2_add_57 : decode cX2_add 57 = .ok (.return_, 1) := by decide +kernel
set_option maxRecDepth 20000 in
theorem ggX2_takeSeed_X2_takeFirst : GoodIn wsX2_takeSeed wsX2_takeFirst := goodIn_ca (goodIn_r _ [6, 7, 8, 1, 20, 21, 22] (by decide +kernel) (by decide +kernel)) (goodIn_sub (fun _ h => List.mem_cons_of_mem _ (List.mem_append_right _ h)) (by decide +kernel))
set_option maxRecDepth 20000 in
theorem gX2_takeSeed_X2_takeFirst : GoodIn wsX2_takeSeed (wsV RX2 22 RX2 yX2_takeFirst wsX2_takeFirst) := goodIn_app (goodIn_of _ (by decide +kernel)) ggX2_takeSeed_X2_takeFirst
set_option maxRecDepth 20000 in
theorem ggX2_takeSeed_X5_isPlain : GoodIn wsX2_takeSeed wsX5_isPlain := goodIn_r _ [11, 12] (by decide +kernel) (by decide +kernel)
set_option maxRecDepth 20000 in
theorem gX2_takeSeed_X5_isPlain_n26 : GoodIn wsX2_takeSeed (wsX5_isPlain) := ggX2_takeSeed_X5_isPlain
set_option maxRecDepth 20000 in
theorem ggX2_takeSeed_X0_has : GoodIn wsX2_takeSeed wsX0_has := goodIn_ca (goodIn_r _ [17, 18, 19, 23, 24] (by decide +kernel) (by decide +kernel)) (goodIn_sub (fun _ h => List.mem_cons_of_mem _ (List.mem_append_right _ h)) (by decide +kernel))
set_option maxRecDepth 20000 in
theorem gX2_takeSeed_X0_has : GoodIn wsX2_takeSeed (wsV RX2 30 RX0 yX0_has wsX0_has) := goodIn_app (goodIn_of _ (by decide +kernel)) ggX2_takeSeed_X0_has
theorem dX2_takeSeed_0 : decode cX2_takeSeed 0 = .ok (.aload_n 0, 1) := by decide +kernel
theorem dX2_takeSeed_1 : decode cX2_takeSeed 1 = .ok (.getfield 15, 3) := by decide +kernel
theorem dX2_takeSeed_4 : decode cX2_takeSeed 4 = .ok (.istore_n 2, 1) := by decide +kernel
theorem dX2_takeSeed_5 : decode cX2_takeSeed 5 = .ok (.iload_n 2, 1) := by decide +kernel
theorem dX2_takeSeed_6 : decode cX2_takeSeed 6 = .ok (.ifCond .le 31, 3) := by decide +kernel
theorem dX2_takeSeed_9 : decode cX2_takeSeed 9 = .ok (.aload_n 0, 1) := by decide +kernel
theorem dX2_takeSeed_10 : decode cX2_takeSeed 10 = .ok (.invokevirtual 22, 3) := by decide +kernel
theorem dX2_takeSeed_13 : decode cX2_takeSeed 13 = .ok (.istore_n 3, 1) := by decide +kernel
theorem dX2_takeSeed_14 : decode cX2_takeSeed 14 = .ok (.iload_n 3, 1) := by decide +kernel
theorem dX2_takeSeed_15 : decode cX2_takeSeed 15 = .ok (.invokestatic 26, 3) := by decide +kernel
theorem dX2_takeSeed_18 : decode cX2_takeSeed 18 = .ok (.ifCond .ne 13, 3) := by decide +kernel
theorem dX2_takeSeed_21 : decode cX2_takeSeed 21 = .ok (.aload_n 1, 1) := by decide +kernel
theorem dX2_takeSeed_22 : decode cX2_takeSeed 22 = .ok (.iload_n 3, 1) := by decide +kernel
theorem dX2_takeSeed_23 : decode cX2_takeSeed 23 = .ok (.invokevirtual 30, 3) := by decide +kernel
theorem dX2_takeSeed_26 : decode cX2_takeSeed 26 = .ok (.ifCond .ne 5, 3) := by decide +kernel
theorem dX2_takeSeed_29 : decode cX2_takeSeed 29 = .ok (.iload_n 3, 1) := by decide +kernel
theorem dX2_takeSeed_30 : decode cX2_takeSeed 30 = .ok (.ireturn, 1) := by decide +kernel
theorem dX2_takeSeed_31 : decode cX2_takeSeed 31 = .ok (.iinc 2 (-1), 3) := by decide +kernel
theorem dX2_takeSeed_34 : decode cX2_takeSeed 34 = .ok (.goto (-29), 3) := by decide +kernel
theorem dX2_takeSeed_37 : decode cX2_takeSeed 37 = .ok (.iconst 0, 1) := by decide +kernel
theorem dX2_takeSeed_38 : decode cX2_takeSeed 38 = .ok (.ireturn, 1) := by decide +kernel
theorem dX2_takeFirst_0 : decode cX2_takeFirst 0 = .ok (.aload_n 0, 1) := by decide +kernel
theorem dX2_takeFirst_1 : decode cX2_takeFirst 1 = .ok (.getfield 19, 3) := by decide +kernel
theorem dX2_takeFirst_4 : decode cX2_takeFirst 4 = .ok (.aload_n 0, 1) := by decide +kernel
theorem dX2_takeFirst_5 : decode cX2_takeFirst 5 = .ok (.getfield 11, 3) := by decide +kernel
theorem dX2_takeFirst_8 : decode cX2_takeFirst 8 = .ok (.arraylength, 1) := by decide +kernel
theorem dX2_takeFirst_9 : decode cX2_takeFirst 9 = .ok (.if_icmp .lt 8, 3) := by decide +kernel
theorem dX2_takeFirst_12 : decode cX2_takeFirst 12 = .ok (.aload_n 0, 1) := by decide +kernel
theorem dX2_takeFirst_13 : decode cX2_takeFirst 13 = .ok (.iconst 0, 1) := by decide +kernel
theorem dX2_takeFirst_14 : decode cX2_takeFirst 14 = .ok (.putfield 19, 3) := by decide +kernel
theorem dX2_takeFirst_17 : decode cX2_takeFirst 17 = .ok (.aload_n 0, 1) := by decide +kernel
theorem dX2_takeFirst_18 : decode cX2_takeFirst 18 = .ok (.getfield 11, 3) := by decide +kernel
theorem dX2_takeFirst_21 : decode cX2_takeFirst 21 = .ok (.aload_n 0, 1) := by decide +kernel
theorem dX2_takeFirst_22 : decode cX2_takeFirst 22 = .ok (.getfield 19, 3) := by decide +kernel
theorem dX2_takeFirst_25 : decode cX2_takeFirst 25 = .ok (.iaload, 1) := by decide +kernel
theorem dX2_takeFirst_26 : decode cX2_takeFirst 26 = .ok (.istore_n 1, 1) := by decide +kernel
theorem dX2_takeFirst_27 : decode cX2_takeFirst 27 = .ok (.aload_n 0, 1) := by decide +kernel
theorem dX2_takeFirst_28 : decode cX2_takeFirst 28 = .ok (.dup, 1) := by decide +kernel
theorem dX2_takeFirst_29 : decode cX2_takeFirst 29 = .ok (.getfield 19, 3) := by decide +kernel
theorem dX2_takeFirst_32 : decode cX2_takeFirst 32 = .ok (.iconst 1, 1) := by decide +kernel
theorem dX2_takeFirst_33 : decode cX2_takeFirst 33 = .ok (.iadd, 1) := by decide +kernel
theorem dX2_takeFirst_34 : decode cX2_takeFirst 34 = .ok (.putfield 19, 3) := by decide +kernel
theorem dX2_takeFirst_37 : decode cX2_takeFirst 37 = .ok (.aload_n 0, 1) := by decide +kernel
theorem dX2_takeFirst_38 : decode cX2_takeFirst 38 = .ok (.dup, 1) := by decide +kernel
theorem dX2_takeFirst_39 : decode cX2_takeFirst 39 = .ok (.getfield 15, 3) := by decide +kernel
theorem dX2_takeFirst_42 : decode cX2_takeFirst 42 = .ok (.iconst 1, 1) := by decide +kernel
theorem dX2_takeFirst_43 : decode cX2_takeFirst 43 = .ok (.isub, 1) := by decide +kernel
theorem dX2_takeFirst_44 : decode cX2_takeFirst 44 = .ok (.putfield 15, 3) := by decide +kernel
theorem dX2_takeFirst_47 : decode cX2_takeFirst 47 = .ok (.iload_n 1, 1) := by decide +kernel
theorem dX2_takeFirst_48 : decode cX2_takeFirst 48 = .ok (.ireturn, 1) := by decide +kernel
set_option maxRecDepth 20000 in
theorem ggX3_init_J7_fill_d0a16 : GoodIn wsX3_init wsJ7_fill_d0a16 := goodIn_r _ [17] (by decide +kernel) (by decide +kernel)
set_option maxRecDepth 20000 in
theorem gX3_init_J7_fill_d0a16 : GoodIn wsX3_init (va_wsS RX3 38 yJ7_fill_d0a16 wsJ7_fill_d0a16) := goodIn_app (goodIn_of _ (by decide +kernel)) ggX3_init_J7_fill_d0a16
theorem dX3_init_0 : decode cX3_init 0 = .ok (.aload_n 0, 1) := by decide +kernel
theorem dX3_init_1 : decode cX3_init 1 = .ok (.invokespecial 3, 3) := by decide +kernel
theorem dX3_init_4 : decode cX3_init 4 = .ok (.aload_n 0, 1) := by decide +kernel
theorem dX3_init_5 : decode cX3_init 5 = .ok (.iconst 1, 1) := by decide +kernel
theorem dX3_init_6 : decode cX3_init 6 = .ok (.putfield 9, 3) := by decide +kernel
theorem dX3_init_9 : decode cX3_init 9 = .ok (.aload_n 0, 1) := by decide +kernel
theorem dX3_init_10 : decode cX3_init 10 = .ok (.ldc2_w 15, 3) := by decide +kernel
theorem dX3_init_13 : decode cX3_init 13 = .ok (.putfield 17, 3) := by decide +kernel
theorem dX3_init_16 : decode cX3_init 16 = .ok (.aload_n 0, 1) := by decide +kernel
theorem dX3_init_17 : decode cX3_init 17 = .ok (.iconst 0, 1) := by decide +kernel
theorem dX3_init_18 : decode cX3_init 18 = .ok (.putfield 21, 3) := by decide +kernel
theorem dX3_init_21 : decode cX3_init 21 = .ok (.aload_n 0, 1) := by decide +kernel
theorem dX3_init_22 : decode cX3_init 22 = .ok (.iconst 0, 1) := by decide +kernel
theorem dX3_init_23 : decode cX3_init 23 = .ok (.putfield 24, 3) := by decide +kernel
theorem dX3_init_26 : decode cX3_init 26 = .ok (.aload_n 0, 1) := by decide +kernel
theorem dX3_init_27 : decode cX3_init 27 = .ok (.bipush 21, 2) := by decide +kernel
theorem dX3_init_29 : decode cX3_init 29 = .ok (.newarray .int, 2) := by decide +kernel
theorem dX3_init_31 : decode cX3_init 31 = .ok (.putfield 27, 3) := by decide +kernel
theorem dX3_init_34 : decode cX3_init 34 = .ok (.aload_n 0, 1) := by decide +kernel
theorem dX3_init_35 : decode cX3_init 35 = .ok (.bipush 21, 2) := by decide +kernel
theorem dX3_init_37 : decode cX3_init 37 = .ok (.newarray .long, 2) := by decide +kernel
theorem dX3_init_39 : decode cX3_init 39 = .ok (.putfield 31, 3) := by decide +kernel
theorem dX3_init_42 : decode cX3_init 42 = .ok (.aload_n 0, 1) := by decide +kernel
theorem dX3_init_43 : decode cX3_init 43 = .ok (.iload_n 1, 1) := by decide +kernel
theorem dX3_init_44 : decode cX3_init 44 = .ok (.putfield 35, 3) := by decide +kernel
theorem dX3_init_47 : decode cX3_init 47 = .ok (.aload_n 0, 1) := by decide +kernel
theorem dX3_init_48 : decode cX3_init 48 = .ok (.getfield 31, 3) := by decide +kernel
theorem dX3_init_51 : decode cX3_init 51 = .ok (.ldc2_w 15, 3) := by decide +kernel
theorem dX3_init_54 : decode cX3_init 54 = .ok (.invokestatic 38, 3) := by decide +kernel
theorem dX3_init_57 : decode cX3_init 57 = .ok (.return_, 1) := by decide +kernel
theorem dX3_startSession_0 : decode cX3_startSession 0 = .ok (.aload_n 0, 1) := by decide +kernel
theorem dX3_startSession_1 : decode cX3_startSession 1 = .ok (.iload_n 1, 1) := by decide +kernel
theorem dX3_startSession_2 : decode cX3_startSession 2 = .ok (.putfield 9, 3) := by decide +kernel
theorem dX3_startSession_5 : decode cX3_startSession 5 = .ok (.aload_n 0, 1) := by decide +kernel
theorem dX3_startSession_6 : decode cX3_startSession 6 = .ok (.iconst 0, 1) := by decide +kernel
theorem dX3_startSession_7 : decode cX3_startSession 7 = .ok (.putfield 24, 3) := by decide +kernel
theorem dX3_startSession_10 : decode cX3_startSession 10 = .ok (.aload_n 0, 1) := by decide +kernel
theorem dX3_startSession_11 : decode cX3_startSession 11 = .ok (.iconst 0, 1) := by decide +kernel
theorem dX3_startSession_12 : decode cX3_startSession 12 = .ok (.putfield 21, 3) := by decide +kernel
theorem dX3_startSession_15 : decode cX3_startSession 15 = .ok (.aload_n 0, 1) := by decide +kernel
theorem dX3_startSession_16 : decode cX3_startSession 16 = .ok (.ldc2_w 15, 3) := by decide +kernel
theorem dX3_startSession_19 : decode cX3_startSession 19 = .ok (.putfield 17, 3) := by decide +kernel
theorem dX3_startSession_22 : decode cX3_startSession 22 = .ok (.return_, 1) := by decide +kernel
theorem dX3_awaitKey_0 : decode cX3_awaitKey 0 = .ok (.aload_n 0, 1) := by decide +kernel
theorem dX3_awaitKey_1 : decode cX3_awaitKey 1 = .ok (.iload_n 2, 1) := by decide +kernel
theorem dX3_awaitKey_2 : decode cX3_awaitKey 2 = .ok (.putfield 44, 3) := by decide +kernel
theorem dX3_awaitKey_5 : decode cX3_awaitKey 5 = .ok (.aload_n 0, 1) := by decide +kernel
theorem dX3_awaitKey_6 : decode cX3_awaitKey 6 = .ok (.iload_n 1, 1) := by decide +kernel
theorem dX3_awaitKey_7 : decode cX3_awaitKey 7 = .ok (.putfield 24, 3) := by decide +kernel
theorem dX3_awaitKey_10 : decode cX3_awaitKey 10 = .ok (.aload_n 0, 1) := by decide +kernel
theorem dX3_awaitKey_11 : decode cX3_awaitKey 11 = .ok (.iload_n 2, 1) := by decide +kernel
theorem dX3_awaitKey_12 : decode cX3_awaitKey 12 = .ok (.putfield 47, 3) := by decide +kernel
theorem dX3_awaitKey_15 : decode cX3_awaitKey 15 = .ok (.return_, 1) := by decide +kernel
theorem dX3_addOctet_0 : decode cX3_addOctet 0 = .ok (.aload_n 0, 1) := by decide +kernel
theorem dX3_addOctet_1 : decode cX3_addOctet 1 = .ok (.getfield 50, 3) := by decide +kernel
theorem dX3_addOctet_4 : decode cX3_addOctet 4 = .ok (.iconst 4, 1) := by decide +kernel
theorem dX3_addOctet_5 : decode cX3_addOctet 5 = .ok (.if_icmp .gt 13, 3) := by decide +kernel
theorem dX3_addOctet_8 : decode cX3_addOctet 8 = .ok (.aload_n 0, 1) := by decide +kernel
theorem dX3_addOctet_9 : decode cX3_addOctet 9 = .ok (.dup, 1) := by decide +kernel
theorem dX3_addOctet_10 : decode cX3_addOctet 10 = .ok (.getfield 50, 3) := by decide +kernel
theorem dX3_addOctet_13 : decode cX3_addOctet 13 = .ok (.iconst 1, 1) := by decide +kernel
theorem dX3_addOctet_14 : decode cX3_addOctet 14 = .ok (.iadd, 1) := by decide +kernel
theorem dX3_addOctet_15 : decode cX3_addOctet 15 = .ok (.putfield 50, 3) := by decide +kernel
theorem dX3_addOctet_18 : decode cX3_addOctet 18 = .ok (.aload_n 0, 1) := by decide +kernel
theorem dX3_addOctet_19 : decode cX3_addOctet 19 = .ok (.aload_n 0, 1) := by decide +kernel
theorem dX3_addOctet_20 : decode cX3_addOctet 20 = .ok (.getfield 53, 3) := by decide +kernel
theorem dX3_addOctet_23 : decode cX3_addOctet 23 = .ok (.bipush 8, 2) := by decide +kernel
theorem dX3_addOctet_25 : decode cX3_addOctet 25 = .ok (.ishl, 1) := by decide +kernel
theorem dX3_addOctet_26 : decode cX3_addOctet 26 = .ok (.iload_n 1, 1) := by decide +kernel
theorem dX3_addOctet_27 : decode cX3_addOctet 27 = .ok (.sipush 255, 3) := by decide +kernel
theorem dX3_addOctet_30 : decode cX3_addOctet 30 = .ok (.iand, 1) := by decide +kernel
theorem dX3_addOctet_31 : decode cX3_addOctet 31 = .ok (.ior, 1) := by decide +kernel
theorem dX3_addOctet_32 : decode cX3_addOctet 32 = .ok (.putfield 53, 3) := by decide +kernel
theorem dX3_addOctet_35 : decode cX3_addOctet 35 = .ok (.return_, 1) := by decide +kernel
theorem dX3_dropOctets_0 : decode cX3_dropOctets 0 = .ok (.aload_n 0, 1) := by decide +kernel
theorem dX3_dropOctets_1 : decode cX3_dropOctets 1 = .ok (.iconst 0, 1) := by decide +kernel
theorem dX3_dropOctets_2 : decode cX3_dropOctets 2 = .ok (.putfield 50, 3) := by decide +kernel
theorem dX3_dropOctets_5 : decode cX3_dropOctets 5 = .ok (.aload_n 0, 1) := by decide +kernel
theorem dX3_dropOctets_6 : decode cX3_dropOctets 6 = .ok (.iconst 0, 1) := by decide +kernel
theorem dX3_dropOctets_7 : decode cX3_dropOctets 7 = .ok (.putfield 53, 3) := by decide +kernel
theorem dX3_dropOctets_10 : decode cX3_dropOctets 10 = .ok (.return_, 1) := by decide +kernel
theorem dX3_usedTries_0 : decode cX3_usedTries 0 = .ok (.iload_n 1, 1) := by decide +kernel
theorem dX3_usedTries_1 : decode cX3_usedTries 1 = .ok (.ifCond .lt 12, 3) := by decide +kernel
theorem dX3_usedTries_4 : decode cX3_usedTries 4 = .ok (.iload_n 1, 1) := by decide +kernel
theorem dX3_usedTries_5 : decode cX3_usedTries 5 = .ok (.aload_n 0, 1) := by decide +kernel
theorem dX3_usedTries_6 : decode cX3_usedTries 6 = .ok (.getfield 27, 3) := by decide +kernel
theorem dX3_usedTries_9 : decode cX3_usedTries 9 = .ok (.arraylength, 1) := by decide +kernel
theorem dX3_usedTries_10 : decode cX3_usedTries 10 = .ok (.if_icmp .lt 7, 3) := by decide +kernel
theorem dX3_usedTries_13 : decode cX3_usedTries 13 = .ok (.iconst 0, 1) := by decide +kernel
theorem dX3_usedTries_14 : decode cX3_usedTries 14 = .ok (.goto 9, 3) := by decide +kernel
theorem dX3_usedTries_17 : decode cX3_usedTries 17 = .ok (.aload_n 0, 1) := by decide +kernel
theorem dX3_usedTries_18 : decode cX3_usedTries 18 = .ok (.getfield 27, 3) := by decide +kernel
theorem dX3_usedTries_21 : decode cX3_usedTries 21 = .ok (.iload_n 1, 1) := by decide +kernel
theorem dX3_usedTries_22 : decode cX3_usedTries 22 = .ok (.iaload, 1) := by decide +kernel
theorem dX3_usedTries_23 : decode cX3_usedTries 23 = .ok (.ireturn, 1) := by decide +kernel
theorem dX3_setUsedTries_0 : decode cX3_setUsedTries 0 = .ok (.iload_n 1, 1) := by decide +kernel
theorem dX3_setUsedTries_1 : decode cX3_setUsedTries 1 = .ok (.ifCond .lt 19, 3) := by decide +kernel
theorem dX3_setUsedTries_4 : decode cX3_setUsedTries 4 = .ok (.iload_n 1, 1) := by decide +kernel
theorem dX3_setUsedTries_5 : decode cX3_setUsedTries 5 = .ok (.aload_n 0, 1) := by decide +kernel
theorem dX3_setUsedTries_6 : decode cX3_setUsedTries 6 = .ok (.getfield 27, 3) := by decide +kernel
theorem dX3_setUsedTries_9 : decode cX3_setUsedTries 9 = .ok (.arraylength, 1) := by decide +kernel
theorem dX3_setUsedTries_10 : decode cX3_setUsedTries 10 = .ok (.if_icmp .ge 10, 3) := by decide +kernel
theorem dX3_setUsedTries_13 : decode cX3_setUsedTries 13 = .ok (.aload_n 0, 1) := by decide +kernel
theorem dX3_setUsedTries_14 : decode cX3_setUsedTries 14 = .ok (.getfield 27, 3) := by decide +kernel
theorem dX3_setUsedTries_17 : decode cX3_setUsedTries 17 = .ok (.iload_n 1, 1) := by decide +kernel
theorem dX3_setUsedTries_18 : decode cX3_setUsedTries 18 = .ok (.iload_n 2, 1) := by decide +kernel
theorem dX3_setUsedTries_19 : decode cX3_setUsedTries 19 = .ok (.iastore, 1) := by decide +kernel
theorem dX3_setUsedTries_20 : decode cX3_setUsedTries 20 = .ok (.return_, 1) := by decide +kernel
theorem dX3_lockedUntil_0 : decode cX3_lockedUntil 0 = .ok (.iload_n 1, 1) := by decide +kernel
theorem dX3_lockedUntil_1 : decode cX3_lockedUntil 1 = .ok (.ifCond .lt 12, 3) := by decide +kernel
theorem dX3_lockedUntil_4 : decode cX3_lockedUntil 4 = .ok (.iload_n 1, 1) := by decide +kernel
theorem dX3_lockedUntil_5 : decode cX3_lockedUntil 5 = .ok (.aload_n 0, 1) := by decide +kernel
theorem dX3_lockedUntil_6 : decode cX3_lockedUntil 6 = .ok (.getfield 31, 3) := by decide +kernel
theorem dX3_lockedUntil_9 : decode cX3_lockedUntil 9 = .ok (.arraylength, 1) := by decide +kernel
theorem dX3_lockedUntil_10 : decode cX3_lockedUntil 10 = .ok (.if_icmp .lt 9, 3) := by decide +kernel
theorem dX3_lockedUntil_13 : decode cX3_lockedUntil 13 = .ok (.ldc2_w 15, 3) := by decide +kernel
theorem dX3_lockedUntil_16 : decode cX3_lockedUntil 16 = .ok (.goto 9, 3) := by decide +kernel
theorem dX3_lockedUntil_19 : decode cX3_lockedUntil 19 = .ok (.aload_n 0, 1) := by decide +kernel
theorem dX3_lockedUntil_20 : decode cX3_lockedUntil 20 = .ok (.getfield 31, 3) := by decide +kernel
theorem dX3_lockedUntil_23 : decode cX3_lockedUntil 23 = .ok (.iload_n 1, 1) := by decide +kernel
theorem dX3_lockedUntil_24 : decode cX3_lockedUntil 24 = .ok (.laload, 1) := by decide +kernel
theorem dX3_lockedUntil_25 : decode cX3_lockedUntil 25 = .ok (.lreturn, 1) := by decide +kernel
theorem dX3_lock_0 : decode cX3_lock 0 = .ok (.iload_n 1, 1) := by decide +kernel
theorem dX3_lock_1 : decode cX3_lock 1 = .ok (.ifCond .lt 19, 3) := by decide +kernel
theorem dX3_lock_4 : decode cX3_lock 4 = .ok (.iload_n 1, 1) := by decide +kernel
theorem dX3_lock_5 : decode cX3_lock 5 = .ok (.aload_n 0, 1) := by decide +kernel
theorem dX3_lock_6 : decode cX3_lock 6 = .ok (.getfield 31, 3) := by decide +kernel
theorem dX3_lock_9 : decode cX3_lock 9 = .ok (.arraylength, 1) := by decide +kernel
theorem dX3_lock_10 : decode cX3_lock 10 = .ok (.if_icmp .ge 10, 3) := by decide +kernel
theorem dX3_lock_13 : decode cX3_lock 13 = .ok (.aload_n 0, 1) := by decide +kernel
theorem dX3_lock_14 : decode cX3_lock 14 = .ok (.getfield 31, 3) := by decide +kernel
theorem dX3_lock_17 : decode cX3_lock 17 = .ok (.iload_n 1, 1) := by decide +kernel
theorem dX3_lock_18 : decode cX3_lock 18 = .ok (.lload_n 2, 1) := by decide +kernel
theorem dX3_lock_19 : decode cX3_lock 19 = .ok (.lastore, 1) := by decide +kernel
theorem dX3_lock_20 : decode cX3_lock 20 = .ok (.return_, 1) := by decide +kernel
theorem dX4_init_0 : decode cX4_init 0 = .ok (.aload_n 0, 1) := by decide +kernel
theorem dX4_init_1 : decode cX4_init 1 = .ok (.invokespecial 1, 3) := by decide +kernel
theorem dX4_init_4 : decode cX4_init 4 = .ok (.aload_n 0, 1) := by decide +kernel
theorem dX4_init_5 : decode cX4_init 5 = .ok (.sipush 900, 3) := by decide +kernel
theorem dX4_init_8 : decode cX4_init 8 = .ok (.newarray .int, 2) := by decide +kernel
theorem dX4_init_10 : decode cX4_init 10 = .ok (.putfield 9, 3) := by decide +kernel
theorem dX4_init_13 : decode cX4_init 13 = .ok (.return_, 1) := by decide +kernel
theorem dX4_add_0 : decode cX4_add 0 = .ok (.aload_n 0, 1) := by decide +kernel
theorem dX4_add_1 : decode cX4_add 1 = .ok (.dup, 1) := by decide +kernel
theorem dX4_add_2 : decode cX4_add 2 = .ok (.getfield 13, 3) := by decide +kernel
theorem dX4_add_5 : decode cX4_add 5 = .ok (.iconst 1, 1) := by decide +kernel
theorem dX4_add_6 : decode cX4_add 6 = .ok (.iadd, 1) := by decide +kernel
theorem dX4_add_7 : decode cX4_add 7 = .ok (.putfield 13, 3) := by decide +kernel
theorem dX4_add_10 : decode cX4_add 10 = .ok (.aload_n 0, 1) := by decide +kernel
theorem dX4_add_11 : decode cX4_add 11 = .ok (.getfield 17, 3) := by decide +kernel
theorem dX4_add_14 : decode cX4_add 14 = .ok (.sipush 300, 3) := by decide +kernel
theorem dX4_add_17 : decode cX4_add 17 = .ok (.if_icmp .lt 4, 3) := by decide +kernel
theorem dX4_add_20 : decode cX4_add 20 = .ok (.return_, 1) := by decide +kernel
theorem dX4_add_21 : decode cX4_add 21 = .ok (.aload_n 0, 1) := by decide +kernel
theorem dX4_add_22 : decode cX4_add 22 = .ok (.getfield 17, 3) := by decide +kernel
theorem dX4_add_25 : decode cX4_add 25 = .ok (.iconst 3, 1) := by decide +kernel
theorem dX4_add_26 : decode cX4_add 26 = .ok (.imul, 1) := by decide +kernel
theorem dX4_add_27 : decode cX4_add 27 = .ok (.istore 4, 2) := by decide +kernel
theorem dX4_add_29 : decode cX4_add 29 = .ok (.aload_n 0, 1) := by decide +kernel
theorem dX4_add_30 : decode cX4_add 30 = .ok (.getfield 9, 3) := by decide +kernel
theorem dX4_add_33 : decode cX4_add 33 = .ok (.iload 4, 2) := by decide +kernel
theorem dX4_add_35 : decode cX4_add 35 = .ok (.iload_n 1, 1) := by decide +kernel
theorem dX4_add_36 : decode cX4_add 36 = .ok (.iastore, 1) := by decide +kernel
theorem dX4_add_37 : decode cX4_add 37 = .ok (.aload_n 0, 1) := by decide +kernel
theorem dX4_add_38 : decode cX4_add 38 = .ok (.getfield 9, 3) := by decide +kernel
theorem dX4_add_41 : decode cX4_add 41 = .ok (.iload 4, 2) := by decide +kernel
theorem dX4_add_43 : decode cX4_add 43 = .ok (.iconst 1, 1) := by decide +kernel
theorem dX4_add_44 : decode cX4_add 44 = .ok (.iadd, 1) := by decide +kernel
theorem dX4_add_45 : decode cX4_add 45 = .ok (.iload_n 2, 1) := by decide +kernel
theorem dX4_add_46 : decode cX4_add 46 = .ok (.iastore, 1) := by decide +kernel
theorem dX4_add_47 : decode cX4_add 47 = .ok (.aload_n 0, 1) := by decide +kernel
theorem dX4_add_48 : decode cX4_add 48 = .ok (.getfield 9, 3) := by decide +kernel
theorem dX4_add_51 : decode cX4_add 51 = .ok (.iload 4, 2) := by decide +kernel
theorem dX4_add_53 : decode cX4_add 53 = .ok (.iconst 2, 1) := by decide +kernel
theorem dX4_add_54 : decode cX4_add 54 = .ok (.iadd, 1) := by decide +kernel
theorem dX4_add_55 : decode cX4_add 55 = .ok (.iload_n 3, 1) := by decide +kernel
theorem dX4_add_56 : decode cX4_add 56 = .ok (.iastore, 1) := by decide +kernel
theorem dX4_add_57 : decode cX4_add 57 = .ok (.aload_n 0, 1) := by decide +kernel
theorem dX4_add_58 : decode cX4_add 58 = .ok (.dup, 1) := by decide +kernel
theorem dX4_add_59 : decode cX4_add 59 = .ok (.getfield 17, 3) := by decide +kernel
theorem dX4_add_62 : decode cX4_add 62 = .ok (.iconst 1, 1) := by decide +kernel
theorem dX4_add_63 : decode cX4_add 63 = .ok (.iadd, 1) := by decide +kernel
theorem dX4_add_64 : decode cX4_add 64 = .ok (.putfield 17, 3) := by decide +kernel
theorem dX4_add_67 : decode cX4_add 67 = .ok (.return_, 1) := by decide +kernel
theorem dX4_has_0 : decode cX4_has 0 = .ok (.iload_n 1, 1) := by decide +kernel
theorem dX4_has_1 : decode cX4_has 1 = .ok (.ifCond .lt 15, 3) := by decide +kernel
theorem dX4_has_4 : decode cX4_has 4 = .ok (.iload_n 1, 1) := by decide +kernel
theorem dX4_has_5 : decode cX4_has 5 = .ok (.aload_n 0, 1) := by decide +kernel
theorem dX4_has_6 : decode cX4_has 6 = .ok (.getfield 17, 3) := by decide +kernel
theorem dX4_has_9 : decode cX4_has 9 = .ok (.if_icmp .ge 7, 3) := by decide +kernel
theorem dX4_has_12 : decode cX4_has 12 = .ok (.iconst 1, 1) := by decide +kernel
theorem dX4_has_13 : decode cX4_has 13 = .ok (.goto 4, 3) := by decide +kernel
theorem dX4_has_16 : decode cX4_has 16 = .ok (.iconst 0, 1) := by decide +kernel
theorem dX4_has_17 : decode cX4_has 17 = .ok (.ireturn, 1) := by decide +kernel
set_option maxRecDepth 20000 in
theorem ggX4_part_X4_has : GoodIn wsX4_part wsX4_has := goodIn_r _ [6, 7, 8, 9, 10] (by decide +kernel) (by decide +kernel)
set_option maxRecDepth 20000 in
theorem gX4_part_X4_has : GoodIn wsX4_part (wsV RX4 20 RX4 yX4_has wsX4_has) := goodIn_app (goodIn_of _ (by decide +kernel)) ggX4_part_X4_has
theorem dX4_part_0 : decode cX4_part 0 = .ok (.aload_n 0, 1) := by decide +kernel
theorem dX4_part_1 : decode cX4_part 1 = .ok (.iload_n 1, 1) := by decide +kernel
theorem dX4_part_2 : decode cX4_part 2 = .ok (.invokevirtual 20, 3) := by decide +kernel
theorem dX4_part_5 : decode cX4_part 5 = .ok (.ifCond .eq 25, 3) := by decide +kernel
theorem dX4_part_8 : decode cX4_part 8 = .ok (.iload_n 2, 1) := by decide +kernel
theorem dX4_part_9 : decode cX4_part 9 = .ok (.ifCond .lt 21, 3) := by decide +kernel
theorem dX4_part_12 : decode cX4_part 12 = .ok (.iload_n 2, 1) := by decide +kernel
theorem dX4_part_13 : decode cX4_part 13 = .ok (.iconst 3, 1) := by decide +kernel
theorem dX4_part_14 : decode cX4_part 14 = .ok (.if_icmp .ge 16, 3) := by decide +kernel
theorem dX4_part_17 : decode cX4_part 17 = .ok (.aload_n 0, 1) := by decide +kernel
theorem dX4_part_18 : decode cX4_part 18 = .ok (.getfield 9, 3) := by decide +kernel
theorem dX4_part_21 : decode cX4_part 21 = .ok (.iload_n 1, 1) := by decide +kernel
theorem dX4_part_22 : decode cX4_part 22 = .ok (.iconst 3, 1) := by decide +kernel
theorem dX4_part_23 : decode cX4_part 23 = .ok (.imul, 1) := by decide +kernel
theorem dX4_part_24 : decode cX4_part 24 = .ok (.iload_n 2, 1) := by decide +kernel
theorem dX4_part_25 : decode cX4_part 25 = .ok (.iadd, 1) := by decide +kernel
theorem dX4_part_26 : decode cX4_part 26 = .ok (.iaload, 1) := by decide +kernel
theorem dX4_part_27 : decode cX4_part 27 = .ok (.goto 4, 3) := by decide +kernel
theorem dX4_part_30 : decode cX4_part 30 = .ok (.iconst 0, 1) := by decide +kernel
theorem dX4_part_31 : decode cX4_part 31 = .ok (.ireturn, 1) := by decide +kernel
set_option maxRecDepth 20000 in
theorem ggX5_init_X2_init : GoodIn wsX5_init wsX2_init := goodIn_r _ [24, 25, 2, 3, 26, 27, 61, 62, 63] (by decide +kernel) (by decide +kernel)
set_option maxRecDepth 20000 in
theorem gX5_init_X2_init_n19 : GoodIn wsX5_init (wsX2_init) := ggX5_init_X2_init
set_option maxRecDepth 20000 in
theorem ggX5_init_X0_init : GoodIn wsX5_init wsX0_init := goodIn_r _ [29, 30, 2, 3, 26, 31, 64, 65] (by decide +kernel) (by decide +kernel)
set_option maxRecDepth 20000 in
theorem gX5_init_X0_init_n26 : GoodIn wsX5_init (wsX0_init) := ggX5_init_X0_init
set_option maxRecDepth 20000 in
theorem ggX5_init_X4_init : GoodIn wsX5_init wsX4_init := goodIn_r _ [33, 34, 2, 3, 26, 35, 66, 67, 68] (by decide +kernel) (by decide +kernel)
set_option maxRecDepth 20000 in
theorem gX5_init_X4_init_n33 : GoodIn wsX5_init (wsX4_init) := ggX5_init_X4_init
set_option maxRecDepth 20000 in
theorem ggX5_init_X3_init : GoodIn wsX5_init wsX3_init := goodIn_r _ [38, 39, 2, 3, 40, 41, 42, 43, 44, 26, 45, 46, 47, 48, 49, 50, 51, 52, 69, 70, 71, 72, 73, 74, 75, 76, 77, 78, 79] (by decide +kernel) (by decide +kernel)
set_option maxRecDepth 20000 in
theorem gX5_init_X3_init : GoodIn wsX5_init (wsX3_init) := ggX5_init_X3_init
theorem dX5_init_0 : decode cX5_init 0 = .ok (.aload_n 0, 1) := by decide +kernel
theorem dX5_init_1 : decode cX5_init 1 = .ok (.invokespecial 3, 3) := by decide +kernel
theorem dX5_init_4 : decode cX5_init 4 = .ok (.aload_n 0, 1) := by decide +kernel
theorem dX5_init_5 : decode cX5_init 5 = .ok (.bipush 21, 2) := by decide +kernel
theorem dX5_init_7 : decode cX5_init 7 = .ok (.anewarray 11, 3) := by decide +kernel
theorem dX5_init_10 : decode cX5_init 10 = .ok (.putfield 13, 3) := by decide +kernel
theorem dX5_init_13 : decode cX5_init 13 = .ok (.aload_n 0, 1) := by decide +kernel
theorem dX5_init_14 : decode cX5_init 14 = .ok (.new 17, 3) := by decide +kernel
theorem dX5_init_17 : decode cX5_init 17 = .ok (.dup, 1) := by decide +kernel
theorem dX5_init_18 : decode cX5_init 18 = .ok (.invokespecial 19, 3) := by decide +kernel
theorem dX5_init_21 : decode cX5_init 21 = .ok (.putfield 20, 3) := by decide +kernel
theorem dX5_init_24 : decode cX5_init 24 = .ok (.aload_n 0, 1) := by decide +kernel
theorem dX5_init_25 : decode cX5_init 25 = .ok (.new 24, 3) := by decide +kernel
theorem dX5_init_28 : decode cX5_init 28 = .ok (.dup, 1) := by decide +kernel
theorem dX5_init_29 : decode cX5_init 29 = .ok (.invokespecial 26, 3) := by decide +kernel
theorem dX5_init_32 : decode cX5_init 32 = .ok (.putfield 27, 3) := by decide +kernel
theorem dX5_init_35 : decode cX5_init 35 = .ok (.aload_n 0, 1) := by decide +kernel
theorem dX5_init_36 : decode cX5_init 36 = .ok (.new 31, 3) := by decide +kernel
theorem dX5_init_39 : decode cX5_init 39 = .ok (.dup, 1) := by decide +kernel
theorem dX5_init_40 : decode cX5_init 40 = .ok (.invokespecial 33, 3) := by decide +kernel
theorem dX5_init_43 : decode cX5_init 43 = .ok (.putfield 34, 3) := by decide +kernel
theorem dX5_init_46 : decode cX5_init 46 = .ok (.aload_n 0, 1) := by decide +kernel
theorem dX5_init_47 : decode cX5_init 47 = .ok (.iconst 4, 1) := by decide +kernel
theorem dX5_init_48 : decode cX5_init 48 = .ok (.anewarray 38, 3) := by decide +kernel
theorem dX5_init_51 : decode cX5_init 51 = .ok (.putfield 40, 3) := by decide +kernel
theorem dX5_init_54 : decode cX5_init 54 = .ok (.iconst 0, 1) := by decide +kernel
theorem dX5_init_55 : decode cX5_init 55 = .ok (.istore_n 1, 1) := by decide +kernel
theorem dX5_init_56 : decode cX5_init 56 = .ok (.iload_n 1, 1) := by decide +kernel
theorem dX5_init_57 : decode cX5_init 57 = .ok (.aload_n 0, 1) := by decide +kernel
theorem dX5_init_58 : decode cX5_init 58 = .ok (.getfield 40, 3) := by decide +kernel
theorem dX5_init_61 : decode cX5_init 61 = .ok (.arraylength, 1) := by decide +kernel
theorem dX5_init_62 : decode cX5_init 62 = .ok (.if_icmp .ge 25, 3) := by decide +kernel
theorem dX5_init_65 : decode cX5_init 65 = .ok (.aload_n 0, 1) := by decide +kernel
theorem dX5_init_66 : decode cX5_init 66 = .ok (.getfield 40, 3) := by decide +kernel
theorem dX5_init_69 : decode cX5_init 69 = .ok (.iload_n 1, 1) := by decide +kernel
theorem dX5_init_70 : decode cX5_init 70 = .ok (.new 38, 3) := by decide +kernel
theorem dX5_init_73 : decode cX5_init 73 = .ok (.dup, 1) := by decide +kernel
theorem dX5_init_74 : decode cX5_init 74 = .ok (.iload_n 1, 1) := by decide +kernel
theorem dX5_init_75 : decode cX5_init 75 = .ok (.iconst 1, 1) := by decide +kernel
theorem dX5_init_76 : decode cX5_init 76 = .ok (.iadd, 1) := by decide +kernel
theorem dX5_init_77 : decode cX5_init 77 = .ok (.invokespecial 44, 3) := by decide +kernel
theorem dX5_init_80 : decode cX5_init 80 = .ok (.aastore, 1) := by decide +kernel
theorem dX5_init_81 : decode cX5_init 81 = .ok (.iinc 1 1, 3) := by decide +kernel
theorem dX5_init_84 : decode cX5_init 84 = .ok (.goto (-28), 3) := by decide +kernel
theorem dX5_init_87 : decode cX5_init 87 = .ok (.aload_n 0, 1) := by decide +kernel
theorem dX5_init_88 : decode cX5_init 88 = .ok (.aload_n 0, 1) := by decide +kernel
theorem dX5_init_89 : decode cX5_init 89 = .ok (.getfield 40, 3) := by decide +kernel
theorem dX5_init_92 : decode cX5_init 92 = .ok (.iconst 0, 1) := by decide +kernel
theorem dX5_init_93 : decode cX5_init 93 = .ok (.aaload, 1) := by decide +kernel
theorem dX5_init_94 : decode cX5_init 94 = .ok (.putfield 47, 3) := by decide +kernel
theorem dX5_init_97 : decode cX5_init 97 = .ok (.return_, 1) := by decide +kernel
set_option maxRecDepth 20000 in
theorem ggX5_level_X1_init : GoodIn wsX5_level wsX1_init := goodIn_r _ [9, 10, 11, 12, 13, 14, 15, 16, 25, 26, 27, 28] (by decide +kernel) (by decide +kernel)
set_option maxRecDepth 20000 in
theorem gX5_level_X1_init : GoodIn wsX5_level (wsX1_init) := ggX5_level_X1_init
theorem dX5_level_0 : decode cX5_level 0 = .ok (.iload_n 1, 1) := by decide +kernel
theorem dX5_level_1 : decode cX5_level 1 = .ok (.iconst 1, 1) := by decide +kernel
theorem dX5_level_2 : decode cX5_level 2 = .ok (.if_icmp .lt 9, 3) := by decide +kernel
theorem dX5_level_5 : decode cX5_level 5 = .ok (.iload_n 1, 1) := by decide +kernel
theorem dX5_level_6 : decode cX5_level 6 = .ok (.bipush 20, 2) := by decide +kernel
theorem dX5_level_8 : decode cX5_level 8 = .ok (.if_icmp .le 5, 3) := by decide +kernel
theorem dX5_level_11 : decode cX5_level 11 = .ok (.iconst (-1), 1) := by decide +kernel
theorem dX5_level_12 : decode cX5_level 12 = .ok (.ireturn, 1) := by decide +kernel
theorem dX5_level_13 : decode cX5_level 13 = .ok (.iload_n 2, 1) := by decide +kernel
theorem dX5_level_14 : decode cX5_level 14 = .ok (.ifCond .lt 35, 3) := by decide +kernel
theorem dX5_level_17 : decode cX5_level 17 = .ok (.iload_n 2, 1) := by decide +kernel
theorem dX5_level_18 : decode cX5_level 18 = .ok (.iconst 3, 1) := by decide +kernel
theorem dX5_level_19 : decode cX5_level 19 = .ok (.if_icmp .ge 30, 3) := by decide +kernel
theorem dX5_level_22 : decode cX5_level 22 = .ok (.iload_n 3, 1) := by decide +kernel
theorem dX5_level_23 : decode cX5_level 23 = .ok (.iconst 1, 1) := by decide +kernel
theorem dX5_level_24 : decode cX5_level 24 = .ok (.if_icmp .lt 25, 3) := by decide +kernel
theorem dX5_level_27 : decode cX5_level 27 = .ok (.iload_n 3, 1) := by decide +kernel
theorem dX5_level_28 : decode cX5_level 28 = .ok (.bipush 10, 2) := by decide +kernel
theorem dX5_level_30 : decode cX5_level 30 = .ok (.if_icmp .gt 19, 3) := by decide +kernel
theorem dX5_level_33 : decode cX5_level 33 = .ok (.lload 4, 2) := by decide +kernel
theorem dX5_level_35 : decode cX5_level 35 = .ok (.lconst 0, 1) := by decide +kernel
theorem dX5_level_36 : decode cX5_level 36 = .ok (.lcmp, 1) := by decide +kernel
theorem dX5_level_37 : decode cX5_level 37 = .ok (.ifCond .lt 12, 3) := by decide +kernel
theorem dX5_level_40 : decode cX5_level 40 = .ok (.lload 4, 2) := by decide +kernel
theorem dX5_level_42 : decode cX5_level 42 = .ok (.ldc2_w 51, 3) := by decide +kernel
theorem dX5_level_45 : decode cX5_level 45 = .ok (.lcmp, 1) := by decide +kernel
theorem dX5_level_46 : decode cX5_level 46 = .ok (.ifCond .le 6, 3) := by decide +kernel
theorem dX5_level_49 : decode cX5_level 49 = .ok (.bipush (-2), 2) := by decide +kernel
theorem dX5_level_51 : decode cX5_level 51 = .ok (.ireturn, 1) := by decide +kernel
theorem dX5_level_52 : decode cX5_level 52 = .ok (.aload_n 0, 1) := by decide +kernel
theorem dX5_level_53 : decode cX5_level 53 = .ok (.getfield 13, 3) := by decide +kernel
theorem dX5_level_56 : decode cX5_level 56 = .ok (.iload_n 1, 1) := by decide +kernel
theorem dX5_level_57 : decode cX5_level 57 = .ok (.aaload, 1) := by decide +kernel
theorem dX5_level_58 : decode cX5_level 58 = .ok (.ifnull 6, 3) := by decide +kernel
theorem dX5_level_61 : decode cX5_level 61 = .ok (.bipush (-3), 2) := by decide +kernel
theorem dX5_level_63 : decode cX5_level 63 = .ok (.ireturn, 1) := by decide +kernel
theorem dX5_level_64 : decode cX5_level 64 = .ok (.aload_n 0, 1) := by decide +kernel
theorem dX5_level_65 : decode cX5_level 65 = .ok (.getfield 13, 3) := by decide +kernel
theorem dX5_level_68 : decode cX5_level 68 = .ok (.iload_n 1, 1) := by decide +kernel
theorem dX5_level_69 : decode cX5_level 69 = .ok (.new 11, 3) := by decide +kernel
theorem dX5_level_72 : decode cX5_level 72 = .ok (.dup, 1) := by decide +kernel
theorem dX5_level_73 : decode cX5_level 73 = .ok (.iload_n 1, 1) := by decide +kernel
theorem dX5_level_74 : decode cX5_level 74 = .ok (.iload_n 2, 1) := by decide +kernel
theorem dX5_level_75 : decode cX5_level 75 = .ok (.iload_n 3, 1) := by decide +kernel
theorem dX5_level_76 : decode cX5_level 76 = .ok (.lload 4, 2) := by decide +kernel
theorem dX5_level_78 : decode cX5_level 78 = .ok (.invokespecial 53, 3) := by decide +kernel
theorem dX5_level_81 : decode cX5_level 81 = .ok (.aastore, 1) := by decide +kernel
theorem dX5_level_82 : decode cX5_level 82 = .ok (.aload_n 0, 1) := by decide +kernel
theorem dX5_level_83 : decode cX5_level 83 = .ok (.dup, 1) := by decide +kernel
theorem dX5_level_84 : decode cX5_level 84 = .ok (.getfield 56, 3) := by decide +kernel
theorem dX5_level_87 : decode cX5_level 87 = .ok (.iconst 1, 1) := by decide +kernel
theorem dX5_level_88 : decode cX5_level 88 = .ok (.iadd, 1) := by decide +kernel
theorem dX5_level_89 : decode cX5_level 89 = .ok (.putfield 56, 3) := by decide +kernel
theorem dX5_level_92 : decode cX5_level 92 = .ok (.aload_n 0, 1) := by decide +kernel
theorem dX5_level_93 : decode cX5_level 93 = .ok (.getfield 56, 3) := by decide +kernel
theorem dX5_level_96 : decode cX5_level 96 = .ok (.ireturn, 1) := by decide +kernel
set_option maxRecDepth 20000 in
theorem ggX5_tape_X2_add : GoodIn wsX5_tape wsX2_add := goodIn_ca (goodIn_r _ [6, 7, 8, 9, 18, 19, 20] (by decide +kernel) (by decide +kernel)) (goodIn_sub (fun _ h => List.mem_cons_of_mem _ (List.mem_append_right _ h)) (by decide +kernel))
set_option maxRecDepth 20000 in
theorem gX5_tape_X2_add : GoodIn wsX5_tape (wsV RX5 60 RX2 yX2_add wsX2_add) := goodIn_app (goodIn_of _ (by decide +kernel)) ggX5_tape_X2_add
theorem dX5_tape_0 : decode cX5_tape 0 = .ok (.aload_n 0, 1) := by decide +kernel
theorem dX5_tape_1 : decode cX5_tape 1 = .ok (.getfield 20, 3) := by decide +kernel
theorem dX5_tape_4 : decode cX5_tape 4 = .ok (.iload_n 1, 1) := by decide +kernel
theorem dX5_tape_5 : decode cX5_tape 5 = .ok (.invokevirtual 60, 3) := by decide +kernel
theorem dX5_tape_8 : decode cX5_tape 8 = .ok (.return_, 1) := by decide +kernel
set_option maxRecDepth 20000 in
theorem ggX5_seed_X5_madeLevel : GoodIn wsX5_seed wsX5_madeLevel := goodIn_r _ [9, 10, 75, 76, 77, 78, 79, 80, 81, 82] (by decide +kernel) (by decide +kernel)
set_option maxRecDepth 20000 in
theorem gX5_seed_X5_madeLevel : GoodIn wsX5_seed (wsV RX5 63 RX5 yX5_madeLevel wsX5_madeLevel) := goodIn_app (goodIn_of _ (by decide +kernel)) ggX5_seed_X5_madeLevel
set_option maxRecDepth 20000 in
theorem ggX5_seed_X5_askForSeed : GoodIn wsX5_seed wsX5_askForSeed := goodIn_ca (goodIn_r _ [14, 4, 1, 15, 16, 17, 18, 19, 20, 21, 22, 23, 24, 25, 26, 27, 28, 29, 30, 31, 32, 33, 34, 35, 36, 37, 38, 39, 40, 41, 42, 43, 44, 45, 46, 8, 47, 48, 49, 50, 51, 52, 53, 54, 55, 56, 57, 58, 59, 60, 61, 62, 63, 64, 65, 66, 75, 76, 77, 78, 79, 80, 81, 82, 83, 84, 85, 86, 87, 88, 89, 90, 91, 92, 93, 94, 95, 96, 97, 98, 99, 100, 101, 102] (by decide +kernel) (by decide +kernel)) (goodIn_sub (fun _ h => List.mem_cons_of_mem _ (List.mem_append_right _ h)) (by decide +kernel))
set_option maxRecDepth 20000 in
theorem gX5_seed_X5_askForSeed : GoodIn wsX5_seed (wsV RX5 73 RX5 yX5_askForSeed wsX5_askForSeed) := goodIn_app (goodIn_of _ (by decide +kernel)) ggX5_seed_X5_askForSeed
set_option maxRecDepth 20000 in
theorem ggX5_seed_X4_add : GoodIn wsX5_seed wsX4_add := goodIn_ca (goodIn_r _ [71, 72, 73, 74, 103, 104, 105] (by decide +kernel) (by decide +kernel)) (goodIn_sub (fun _ h => List.mem_cons_of_mem _ (List.mem_append_right _ h)) (by decide +kernel))
set_option maxRecDepth 20000 in
theorem gX5_seed_X4_add : GoodIn wsX5_seed (wsV RX5 80 RX4 yX4_add wsX4_add) := goodIn_app (goodIn_of _ (by decide +kernel)) ggX5_seed_X4_add
theorem dX5_seed_0 : decode cX5_seed 0 = .ok (.aload_n 0, 1) := by decide +kernel
theorem dX5_seed_1 : decode cX5_seed 1 = .ok (.iload_n 1, 1) := by decide +kernel
theorem dX5_seed_2 : decode cX5_seed 2 = .ok (.invokevirtual 63, 3) := by decide +kernel
theorem dX5_seed_5 : decode cX5_seed 5 = .ok (.astore 4, 2) := by decide +kernel
theorem dX5_seed_7 : decode cX5_seed 7 = .ok (.aload 4, 2) := by decide +kernel
theorem dX5_seed_9 : decode cX5_seed 9 = .ok (.ifnonnull 5, 3) := by decide +kernel
theorem dX5_seed_12 : decode cX5_seed 12 = .ok (.iconst (-1), 1) := by decide +kernel
theorem dX5_seed_13 : decode cX5_seed 13 = .ok (.ireturn, 1) := by decide +kernel
theorem dX5_seed_14 : decode cX5_seed 14 = .ok (.lload_n 2, 1) := by decide +kernel
theorem dX5_seed_15 : decode cX5_seed 15 = .ok (.aload_n 0, 1) := by decide +kernel
theorem dX5_seed_16 : decode cX5_seed 16 = .ok (.getfield 67, 3) := by decide +kernel
theorem dX5_seed_19 : decode cX5_seed 19 = .ok (.lcmp, 1) := by decide +kernel
theorem dX5_seed_20 : decode cX5_seed 20 = .ok (.ifCond .lt 11, 3) := by decide +kernel
theorem dX5_seed_23 : decode cX5_seed 23 = .ok (.lload_n 2, 1) := by decide +kernel
theorem dX5_seed_24 : decode cX5_seed 24 = .ok (.ldc2_w 71, 3) := by decide +kernel
theorem dX5_seed_27 : decode cX5_seed 27 = .ok (.lcmp, 1) := by decide +kernel
theorem dX5_seed_28 : decode cX5_seed 28 = .ok (.ifCond .le 6, 3) := by decide +kernel
theorem dX5_seed_31 : decode cX5_seed 31 = .ok (.bipush (-2), 2) := by decide +kernel
theorem dX5_seed_33 : decode cX5_seed 33 = .ok (.ireturn, 1) := by decide +kernel
theorem dX5_seed_34 : decode cX5_seed 34 = .ok (.aload_n 0, 1) := by decide +kernel
theorem dX5_seed_35 : decode cX5_seed 35 = .ok (.lload_n 2, 1) := by decide +kernel
theorem dX5_seed_36 : decode cX5_seed 36 = .ok (.putfield 67, 3) := by decide +kernel
theorem dX5_seed_39 : decode cX5_seed 39 = .ok (.aload_n 0, 1) := by decide +kernel
theorem dX5_seed_40 : decode cX5_seed 40 = .ok (.aload 4, 2) := by decide +kernel
theorem dX5_seed_42 : decode cX5_seed 42 = .ok (.invokevirtual 73, 3) := by decide +kernel
theorem dX5_seed_45 : decode cX5_seed 45 = .ok (.istore 5, 2) := by decide +kernel
theorem dX5_seed_47 : decode cX5_seed 47 = .ok (.aload_n 0, 1) := by decide +kernel
theorem dX5_seed_48 : decode cX5_seed 48 = .ok (.getfield 34, 3) := by decide +kernel
theorem dX5_seed_51 : decode cX5_seed 51 = .ok (.aload_n 0, 1) := by decide +kernel
theorem dX5_seed_52 : decode cX5_seed 52 = .ok (.getfield 47, 3) := by decide +kernel
theorem dX5_seed_55 : decode cX5_seed 55 = .ok (.getfield 77, 3) := by decide +kernel
theorem dX5_seed_58 : decode cX5_seed 58 = .ok (.iload_n 1, 1) := by decide +kernel
theorem dX5_seed_59 : decode cX5_seed 59 = .ok (.iload 5, 2) := by decide +kernel
theorem dX5_seed_61 : decode cX5_seed 61 = .ok (.invokevirtual 80, 3) := by decide +kernel
theorem dX5_seed_64 : decode cX5_seed 64 = .ok (.iload 5, 2) := by decide +kernel
theorem dX5_seed_66 : decode cX5_seed 66 = .ok (.ireturn, 1) := by decide +kernel
theorem dX5_out_0 : decode cX5_out 0 = .ok (.iload_n 1, 1) := by decide +kernel
theorem dX5_out_1 : decode cX5_out 1 = .ok (.ifCond .lt 8, 3) := by decide +kernel
theorem dX5_out_4 : decode cX5_out 4 = .ok (.iload_n 1, 1) := by decide +kernel
theorem dX5_out_5 : decode cX5_out 5 = .ok (.iconst 4, 1) := by decide +kernel
theorem dX5_out_6 : decode cX5_out 6 = .ok (.if_icmp .lt 11, 3) := by decide +kernel
theorem dX5_out_9 : decode cX5_out 9 = .ok (.new 83, 3) := by decide +kernel
theorem dX5_out_12 : decode cX5_out 12 = .ok (.dup, 1) := by decide +kernel
theorem dX5_out_13 : decode cX5_out 13 = .ok (.invokespecial 85, 3) := by decide +kernel
theorem dX5_out_16 : decode cX5_out 16 = .ok (.athrow, 1) := by decide +kernel
theorem dX5_out_17 : decode cX5_out 17 = .ok (.aload_n 0, 1) := by decide +kernel
theorem dX5_out_18 : decode cX5_out 18 = .ok (.getfield 47, 3) := by decide +kernel
theorem dX5_out_21 : decode cX5_out 21 = .ok (.getfield 86, 3) := by decide +kernel
theorem dX5_out_24 : decode cX5_out 24 = .ok (.bipush 24, 2) := by decide +kernel
theorem dX5_out_26 : decode cX5_out 26 = .ok (.bipush 8, 2) := by decide +kernel
theorem dX5_out_28 : decode cX5_out 28 = .ok (.iload_n 1, 1) := by decide +kernel
theorem dX5_out_29 : decode cX5_out 29 = .ok (.imul, 1) := by decide +kernel
theorem dX5_out_30 : decode cX5_out 30 = .ok (.isub, 1) := by decide +kernel
theorem dX5_out_31 : decode cX5_out 31 = .ok (.iushr, 1) := by decide +kernel
theorem dX5_out_32 : decode cX5_out 32 = .ok (.i2b, 1) := by decide +kernel
theorem dX5_out_33 : decode cX5_out 33 = .ok (.ireturn, 1) := by decide +kernel
set_option maxRecDepth 20000 in
theorem ggX5_key_X3_addOctet : GoodIn wsX5_key wsX3_addOctet := goodIn_r _ [7, 8, 9, 69, 70, 71, 72, 73, 74, 75, 76, 77, 78, 79] (by decide +kernel) (by decide +kernel)
set_option maxRecDepth 20000 in
theorem gX5_key_X3_addOctet : GoodIn wsX5_key (wsV RX5 89 RX3 yX3_addOctet wsX3_addOctet) := goodIn_app (goodIn_of _ (by decide +kernel)) ggX5_key_X3_addOctet
set_option maxRecDepth 20000 in
theorem ggX5_key_X3_dropOctets : GoodIn wsX5_key wsX3_dropOctets := goodIn_r _ [13, 8, 9, 69, 70, 71, 72, 73, 74, 75, 76, 77, 78, 79] (by decide +kernel) (by decide +kernel)
set_option maxRecDepth 20000 in
theorem gX5_key_X3_dropOctets : GoodIn wsX5_key (wsV RX5 99 RX3 yX3_dropOctets wsX3_dropOctets) := goodIn_app (goodIn_of _ (by decide +kernel)) ggX5_key_X3_dropOctets
set_option maxRecDepth 20000 in
theorem ggX5_key_X5_madeLevel : GoodIn wsX5_key wsX5_madeLevel := goodIn_r _ [18, 19, 61, 62, 63, 64, 65, 66, 67, 68] (by decide +kernel) (by decide +kernel)
set_option maxRecDepth 20000 in
theorem gX5_key_X5_madeLevel : GoodIn wsX5_key (wsV RX5 63 RX5 yX5_madeLevel wsX5_madeLevel) := goodIn_app (goodIn_of _ (by decide +kernel)) ggX5_key_X5_madeLevel
set_option maxRecDepth 20000 in
theorem ggX5_key_X5_tryKey : GoodIn wsX5_key wsX5_tryKey := goodIn_ca (goodIn_r _ [23, 1, 24, 25, 26, 27, 28, 29, 30, 31, 32, 33, 34, 35, 36, 37, 38, 39, 40, 41, 6, 42, 43, 44, 45, 46, 47, 48, 49, 50, 51, 52, 61, 62, 63, 64, 65, 66, 67, 68, 69, 70, 71, 72, 73, 74, 75, 76, 77, 78, 79, 80, 81, 82, 83] (by decide +kernel) (by decide +kernel)) (goodIn_sub (fun _ h => List.mem_cons_of_mem _ (List.mem_append_right _ h)) (by decide +kernel))
set_option maxRecDepth 20000 in
theorem gX5_key_X5_tryKey : GoodIn wsX5_key (wsV RX5 102 RX5 yX5_tryKey wsX5_tryKey) := goodIn_app (goodIn_of _ (by decide +kernel)) ggX5_key_X5_tryKey
set_option maxRecDepth 20000 in
theorem ggX5_key_X4_add : GoodIn wsX5_key wsX4_add := goodIn_ca (goodIn_r _ [57, 58, 59, 60, 84, 85, 86] (by decide +kernel) (by decide +kernel)) (goodIn_sub (fun _ h => List.mem_cons_of_mem _ (List.mem_append_right _ h)) (by decide +kernel))
set_option maxRecDepth 20000 in
theorem gX5_key_X4_add : GoodIn wsX5_key (wsV RX5 80 RX4 yX4_add wsX4_add) := goodIn_app (goodIn_of _ (by decide +kernel)) ggX5_key_X4_add
theorem dX5_key_0 : decode cX5_key 0 = .ok (.aload_n 0, 1) := by decide +kernel
theorem dX5_key_1 : decode cX5_key 1 = .ok (.getfield 47, 3) := by decide +kernel
theorem dX5_key_4 : decode cX5_key 4 = .ok (.iload_n 2, 1) := by decide +kernel
theorem dX5_key_5 : decode cX5_key 5 = .ok (.invokevirtual 89, 3) := by decide +kernel
theorem dX5_key_8 : decode cX5_key 8 = .ok (.iload_n 3, 1) := by decide +kernel
theorem dX5_key_9 : decode cX5_key 9 = .ok (.ifCond .ne 5, 3) := by decide +kernel
theorem dX5_key_12 : decode cX5_key 12 = .ok (.iconst 0, 1) := by decide +kernel
theorem dX5_key_13 : decode cX5_key 13 = .ok (.ireturn, 1) := by decide +kernel
theorem dX5_key_14 : decode cX5_key 14 = .ok (.aload_n 0, 1) := by decide +kernel
theorem dX5_key_15 : decode cX5_key 15 = .ok (.getfield 47, 3) := by decide +kernel
theorem dX5_key_18 : decode cX5_key 18 = .ok (.getfield 93, 3) := by decide +kernel
theorem dX5_key_21 : decode cX5_key 21 = .ok (.istore 4, 2) := by decide +kernel
theorem dX5_key_23 : decode cX5_key 23 = .ok (.aload_n 0, 1) := by decide +kernel
theorem dX5_key_24 : decode cX5_key 24 = .ok (.getfield 47, 3) := by decide +kernel
theorem dX5_key_27 : decode cX5_key 27 = .ok (.getfield 96, 3) := by decide +kernel
theorem dX5_key_30 : decode cX5_key 30 = .ok (.istore 5, 2) := by decide +kernel
theorem dX5_key_32 : decode cX5_key 32 = .ok (.aload_n 0, 1) := by decide +kernel
theorem dX5_key_33 : decode cX5_key 33 = .ok (.getfield 47, 3) := by decide +kernel
theorem dX5_key_36 : decode cX5_key 36 = .ok (.invokevirtual 99, 3) := by decide +kernel
theorem dX5_key_39 : decode cX5_key 39 = .ok (.aload_n 0, 1) := by decide +kernel
theorem dX5_key_40 : decode cX5_key 40 = .ok (.iload_n 1, 1) := by decide +kernel
theorem dX5_key_41 : decode cX5_key 41 = .ok (.invokevirtual 63, 3) := by decide +kernel
theorem dX5_key_44 : decode cX5_key 44 = .ok (.astore 6, 2) := by decide +kernel
theorem dX5_key_46 : decode cX5_key 46 = .ok (.aload 6, 2) := by decide +kernel
theorem dX5_key_48 : decode cX5_key 48 = .ok (.ifnonnull 5, 3) := by decide +kernel
theorem dX5_key_51 : decode cX5_key 51 = .ok (.iconst (-1), 1) := by decide +kernel
theorem dX5_key_52 : decode cX5_key 52 = .ok (.ireturn, 1) := by decide +kernel
theorem dX5_key_53 : decode cX5_key 53 = .ok (.iload 4, 2) := by decide +kernel
theorem dX5_key_55 : decode cX5_key 55 = .ok (.iconst 4, 1) := by decide +kernel
theorem dX5_key_56 : decode cX5_key 56 = .ok (.if_icmp .ne 14, 3) := by decide +kernel
theorem dX5_key_59 : decode cX5_key 59 = .ok (.aload_n 0, 1) := by decide +kernel
theorem dX5_key_60 : decode cX5_key 60 = .ok (.aload 6, 2) := by decide +kernel
theorem dX5_key_62 : decode cX5_key 62 = .ok (.iload 5, 2) := by decide +kernel
theorem dX5_key_64 : decode cX5_key 64 = .ok (.invokevirtual 102, 3) := by decide +kernel
theorem dX5_key_67 : decode cX5_key 67 = .ok (.goto 5, 3) := by decide +kernel
theorem dX5_key_70 : decode cX5_key 70 = .ok (.bipush (-19), 2) := by decide +kernel
theorem dX5_key_72 : decode cX5_key 72 = .ok (.istore 7, 2) := by decide +kernel
theorem dX5_key_74 : decode cX5_key 74 = .ok (.aload_n 0, 1) := by decide +kernel
theorem dX5_key_75 : decode cX5_key 75 = .ok (.getfield 34, 3) := by decide +kernel
theorem dX5_key_78 : decode cX5_key 78 = .ok (.aload_n 0, 1) := by decide +kernel
theorem dX5_key_79 : decode cX5_key 79 = .ok (.getfield 47, 3) := by decide +kernel
theorem dX5_key_82 : decode cX5_key 82 = .ok (.getfield 77, 3) := by decide +kernel
theorem dX5_key_85 : decode cX5_key 85 = .ok (.iload_n 1, 1) := by decide +kernel
theorem dX5_key_86 : decode cX5_key 86 = .ok (.iload 7, 2) := by decide +kernel
theorem dX5_key_88 : decode cX5_key 88 = .ok (.invokevirtual 80, 3) := by decide +kernel
theorem dX5_key_91 : decode cX5_key 91 = .ok (.iload 7, 2) := by decide +kernel
theorem dX5_key_93 : decode cX5_key 93 = .ok (.ireturn, 1) := by decide +kernel
set_option maxRecDepth 20000 in
theorem ggX5_open_X5_madeLevel : GoodIn wsX5_open wsX5_madeLevel := goodIn_r _ [6, 7, 8, 9, 10, 11, 12, 13, 14, 15] (by decide +kernel) (by decide +kernel)
set_option maxRecDepth 20000 in
theorem gX5_open_X5_madeLevel : GoodIn wsX5_open (wsV RX5 63 RX5 yX5_madeLevel wsX5_madeLevel) := goodIn_app (goodIn_of _ (by decide +kernel)) ggX5_open_X5_madeLevel
theorem dX5_open_0 : decode cX5_open 0 = .ok (.aload_n 0, 1) := by decide +kernel
theorem dX5_open_1 : decode cX5_open 1 = .ok (.iload_n 1, 1) := by decide +kernel
theorem dX5_open_2 : decode cX5_open 2 = .ok (.invokevirtual 63, 3) := by decide +kernel
theorem dX5_open_5 : decode cX5_open 5 = .ok (.ifnonnull 5, 3) := by decide +kernel
theorem dX5_open_8 : decode cX5_open 8 = .ok (.iconst (-1), 1) := by decide +kernel
theorem dX5_open_9 : decode cX5_open 9 = .ok (.ireturn, 1) := by decide +kernel
theorem dX5_open_10 : decode cX5_open 10 = .ok (.aload_n 0, 1) := by decide +kernel
theorem dX5_open_11 : decode cX5_open 11 = .ok (.getfield 47, 3) := by decide +kernel
theorem dX5_open_14 : decode cX5_open 14 = .ok (.getfield 106, 3) := by decide +kernel
theorem dX5_open_17 : decode cX5_open 17 = .ok (.iload_n 1, 1) := by decide +kernel
theorem dX5_open_18 : decode cX5_open 18 = .ok (.if_icmp .ne 7, 3) := by decide +kernel
theorem dX5_open_21 : decode cX5_open 21 = .ok (.iconst 1, 1) := by decide +kernel
theorem dX5_open_22 : decode cX5_open 22 = .ok (.goto 4, 3) := by decide +kernel
theorem dX5_open_25 : decode cX5_open 25 = .ok (.iconst 0, 1) := by decide +kernel
theorem dX5_open_26 : decode cX5_open 26 = .ok (.ireturn, 1) := by decide +kernel
set_option maxRecDepth 20000 in
theorem ggX5_session_X3_startSession : GoodIn wsX5_session wsX3_startSession := goodIn_r _ [6, 7, 8, 9, 10, 11, 20, 21, 22, 23, 24, 25, 26, 27, 28, 29, 30] (by decide +kernel) (by decide +kernel)
set_option maxRecDepth 20000 in
theorem gX5_session_X3_startSession : GoodIn wsX5_session (wsV RX5 112 RX3 yX3_startSession wsX3_startSession) := goodIn_app (goodIn_of _ (by decide +kernel)) ggX5_session_X3_startSession
theorem dX5_session_0 : decode cX5_session 0 = .ok (.iload_n 1, 1) := by decide +kernel
theorem dX5_session_1 : decode cX5_session 1 = .ok (.iconst 1, 1) := by decide +kernel
theorem dX5_session_2 : decode cX5_session 2 = .ok (.if_icmp .lt 8, 3) := by decide +kernel
theorem dX5_session_5 : decode cX5_session 5 = .ok (.iload_n 1, 1) := by decide +kernel
theorem dX5_session_6 : decode cX5_session 6 = .ok (.iconst 3, 1) := by decide +kernel
theorem dX5_session_7 : decode cX5_session 7 = .ok (.if_icmp .le 6, 3) := by decide +kernel
theorem dX5_session_10 : decode cX5_session 10 = .ok (.bipush (-2), 2) := by decide +kernel
theorem dX5_session_12 : decode cX5_session 12 = .ok (.ireturn, 1) := by decide +kernel
theorem dX5_session_13 : decode cX5_session 13 = .ok (.aload_n 0, 1) := by decide +kernel
theorem dX5_session_14 : decode cX5_session 14 = .ok (.getfield 47, 3) := by decide +kernel
theorem dX5_session_17 : decode cX5_session 17 = .ok (.getfield 109, 3) := by decide +kernel
theorem dX5_session_20 : decode cX5_session 20 = .ok (.istore_n 2, 1) := by decide +kernel
theorem dX5_session_21 : decode cX5_session 21 = .ok (.aload_n 0, 1) := by decide +kernel
theorem dX5_session_22 : decode cX5_session 22 = .ok (.getfield 47, 3) := by decide +kernel
theorem dX5_session_25 : decode cX5_session 25 = .ok (.iload_n 1, 1) := by decide +kernel
theorem dX5_session_26 : decode cX5_session 26 = .ok (.invokevirtual 112, 3) := by decide +kernel
theorem dX5_session_29 : decode cX5_session 29 = .ok (.iload_n 2, 1) := by decide +kernel
theorem dX5_session_30 : decode cX5_session 30 = .ok (.ireturn, 1) := by decide +kernel
set_option maxRecDepth 20000 in
theorem ggX5_reset_X3_startSession : GoodIn wsX5_reset wsX3_startSession := goodIn_r _ [7, 8, 9, 10, 11, 12, 33, 34, 35, 36, 37, 38, 39, 40, 41, 42, 43] (by decide +kernel) (by decide +kernel)
set_option maxRecDepth 20000 in
theorem gX5_reset_X3_startSession : GoodIn wsX5_reset (wsV RX5 112 RX3 yX3_startSession wsX3_startSession) := goodIn_app (goodIn_of _ (by decide +kernel)) ggX5_reset_X3_startSession
set_option maxRecDepth 20000 in
theorem ggX5_reset_X3_dropOctets : GoodIn wsX5_reset wsX3_dropOctets := goodIn_r _ [16, 17, 18, 33, 34, 35, 36, 37, 38, 39, 40, 41, 42, 43] (by decide +kernel) (by decide +kernel)
set_option maxRecDepth 20000 in
theorem gX5_reset_X3_dropOctets : GoodIn wsX5_reset (wsV RX5 99 RX3 yX3_dropOctets wsX3_dropOctets) := goodIn_app (goodIn_of _ (by decide +kernel)) ggX5_reset_X3_dropOctets
set_option maxRecDepth 20000 in
theorem ggX5_reset_X0_forgetAll : GoodIn wsX5_reset wsX0_forgetAll := goodIn_r _ [23, 24, 44, 45] (by decide +kernel) (by decide +kernel)
set_option maxRecDepth 20000 in
theorem gX5_reset_X0_forgetAll : GoodIn wsX5_reset (wsV RX5 115 RX0 yX0_forgetAll wsX0_forgetAll) := goodIn_app (goodIn_of _ (by decide +kernel)) ggX5_reset_X0_forgetAll
theorem dX5_reset_0 : decode cX5_reset 0 = .ok (.iconst 0, 1) := by decide +kernel
theorem dX5_reset_1 : decode cX5_reset 1 = .ok (.istore_n 1, 1) := by decide +kernel
theorem dX5_reset_2 : decode cX5_reset 2 = .ok (.iconst 0, 1) := by decide +kernel
theorem dX5_reset_3 : decode cX5_reset 3 = .ok (.istore_n 2, 1) := by decide +kernel
theorem dX5_reset_4 : decode cX5_reset 4 = .ok (.iload_n 2, 1) := by decide +kernel
theorem dX5_reset_5 : decode cX5_reset 5 = .ok (.aload_n 0, 1) := by decide +kernel
theorem dX5_reset_6 : decode cX5_reset 6 = .ok (.getfield 40, 3) := by decide +kernel
theorem dX5_reset_9 : decode cX5_reset 9 = .ok (.arraylength, 1) := by decide +kernel
theorem dX5_reset_10 : decode cX5_reset 10 = .ok (.if_icmp .ge 35, 3) := by decide +kernel
theorem dX5_reset_13 : decode cX5_reset 13 = .ok (.aload_n 0, 1) := by decide +kernel
theorem dX5_reset_14 : decode cX5_reset 14 = .ok (.getfield 40, 3) := by decide +kernel
theorem dX5_reset_17 : decode cX5_reset 17 = .ok (.iload_n 2, 1) := by decide +kernel
theorem dX5_reset_18 : decode cX5_reset 18 = .ok (.aaload, 1) := by decide +kernel
theorem dX5_reset_19 : decode cX5_reset 19 = .ok (.astore_n 3, 1) := by decide +kernel
theorem dX5_reset_20 : decode cX5_reset 20 = .ok (.aload_n 3, 1) := by decide +kernel
theorem dX5_reset_21 : decode cX5_reset 21 = .ok (.getfield 106, 3) := by decide +kernel
theorem dX5_reset_24 : decode cX5_reset 24 = .ok (.ifCond .eq 6, 3) := by decide +kernel
theorem dX5_reset_27 : decode cX5_reset 27 = .ok (.iinc 1 1, 3) := by decide +kernel
theorem dX5_reset_30 : decode cX5_reset 30 = .ok (.aload_n 3, 1) := by decide +kernel
theorem dX5_reset_31 : decode cX5_reset 31 = .ok (.iconst 1, 1) := by decide +kernel
theorem dX5_reset_32 : decode cX5_reset 32 = .ok (.invokevirtual 112, 3) := by decide +kernel
theorem dX5_reset_35 : decode cX5_reset 35 = .ok (.aload_n 3, 1) := by decide +kernel
theorem dX5_reset_36 : decode cX5_reset 36 = .ok (.invokevirtual 99, 3) := by decide +kernel
theorem dX5_reset_39 : decode cX5_reset 39 = .ok (.iinc 2 1, 3) := by decide +kernel
theorem dX5_reset_42 : decode cX5_reset 42 = .ok (.goto (-38), 3) := by decide +kernel
theorem dX5_reset_45 : decode cX5_reset 45 = .ok (.aload_n 0, 1) := by decide +kernel
theorem dX5_reset_46 : decode cX5_reset 46 = .ok (.getfield 27, 3) := by decide +kernel
theorem dX5_reset_49 : decode cX5_reset 49 = .ok (.invokevirtual 115, 3) := by decide +kernel
theorem dX5_reset_52 : decode cX5_reset 52 = .ok (.iload_n 1, 1) := by decide +kernel
theorem dX5_reset_53 : decode cX5_reset 53 = .ok (.ireturn, 1) := by decide +kernel
theorem dX5_role_0 : decode cX5_role 0 = .ok (.iload_n 1, 1) := by decide +kernel
theorem dX5_role_1 : decode cX5_role 1 = .ok (.iconst 1, 1) := by decide +kernel
theorem dX5_role_2 : decode cX5_role 2 = .ok (.if_icmp .lt 9, 3) := by decide +kernel
theorem dX5_role_5 : decode cX5_role 5 = .ok (.iload_n 1, 1) := by decide +kernel
theorem dX5_role_6 : decode cX5_role 6 = .ok (.bipush 8, 2) := by decide +kernel
theorem dX5_role_8 : decode cX5_role 8 = .ok (.if_icmp .le 5, 3) := by decide +kernel
theorem dX5_role_11 : decode cX5_role 11 = .ok (.iconst (-1), 1) := by decide +kernel
theorem dX5_role_12 : decode cX5_role 12 = .ok (.ireturn, 1) := by decide +kernel
theorem dX5_role_13 : decode cX5_role 13 = .ok (.iload_n 2, 1) := by decide +kernel
theorem dX5_role_14 : decode cX5_role 14 = .ok (.ifCond .eq 12, 3) := by decide +kernel
theorem dX5_role_17 : decode cX5_role 17 = .ok (.lload_n 3, 1) := by decide +kernel
theorem dX5_role_18 : decode cX5_role 18 = .ok (.aload_n 0, 1) := by decide +kernel
theorem dX5_role_19 : decode cX5_role 19 = .ok (.getfield 67, 3) := by decide +kernel
theorem dX5_role_22 : decode cX5_role 22 = .ok (.lcmp, 1) := by decide +kernel
theorem dX5_role_23 : decode cX5_role 23 = .ok (.ifCond .gt 5, 3) := by decide +kernel
theorem dX5_role_26 : decode cX5_role 26 = .ok (.iconst 0, 1) := by decide +kernel
theorem dX5_role_27 : decode cX5_role 27 = .ok (.ireturn, 1) := by decide +kernel
theorem dX5_role_28 : decode cX5_role 28 = .ok (.aload_n 0, 1) := by decide +kernel
theorem dX5_role_29 : decode cX5_role 29 = .ok (.getfield 47, 3) := by decide +kernel
theorem dX5_role_32 : decode cX5_role 32 = .ok (.lload_n 3, 1) := by decide +kernel
theorem dX5_role_33 : decode cX5_role 33 = .ok (.putfield 118, 3) := by decide +kernel
theorem dX5_role_36 : decode cX5_role 36 = .ok (.iconst 1, 1) := by decide +kernel
theorem dX5_role_37 : decode cX5_role 37 = .ok (.ireturn, 1) := by decide +kernel
set_option maxRecDepth 20000 in
theorem ggX5_left_X5_madeLevel : GoodIn wsX5_left wsX5_madeLevel := goodIn_r _ [8, 9, 17, 18, 19, 20, 21, 22, 23, 24] (by decide +kernel) (by decide +kernel)
set_option maxRecDepth 20000 in
theorem gX5_left_X5_madeLevel : GoodIn wsX5_left (wsV RX5 63 RX5 yX5_madeLevel wsX5_madeLevel) := goodIn_app (goodIn_of _ (by decide +kernel)) ggX5_left_X5_madeLevel
set_option maxRecDepth 20000 in
theorem ggX5_left_X3_lockedUntil : GoodIn wsX5_left wsX3_lockedUntil := goodIn_ca (goodIn_r _ [14, 15, 16, 25, 26, 27, 28, 29, 30, 31, 32, 33, 34, 35] (by decide +kernel) (by decide +kernel)) (goodIn_sub (fun _ h => List.mem_cons_of_mem _ (List.mem_append_right _ h)) (by decide +kernel))
set_option maxRecDepth 20000 in
theorem gX5_left_X3_lockedUntil : GoodIn wsX5_left (wsV RX5 121 RX3 yX3_lockedUntil wsX3_lockedUntil) := goodIn_app (goodIn_of _ (by decide +kernel)) ggX5_left_X3_lockedUntil
theorem dX5_left_0 : decode cX5_left 0 = .ok (.aload_n 0, 1) := by decide +kernel
theorem dX5_left_1 : decode cX5_left 1 = .ok (.iload_n 1, 1) := by decide +kernel
theorem dX5_left_2 : decode cX5_left 2 = .ok (.invokevirtual 63, 3) := by decide +kernel
theorem dX5_left_5 : decode cX5_left 5 = .ok (.ifnonnull 5, 3) := by decide +kernel
theorem dX5_left_8 : decode cX5_left 8 = .ok (.iconst (-1), 1) := by decide +kernel
theorem dX5_left_9 : decode cX5_left 9 = .ok (.ireturn, 1) := by decide +kernel
theorem dX5_left_10 : decode cX5_left 10 = .ok (.aload_n 0, 1) := by decide +kernel
theorem dX5_left_11 : decode cX5_left 11 = .ok (.getfield 47, 3) := by decide +kernel
theorem dX5_left_14 : decode cX5_left 14 = .ok (.iload_n 1, 1) := by decide +kernel
theorem dX5_left_15 : decode cX5_left 15 = .ok (.invokevirtual 121, 3) := by decide +kernel
theorem dX5_left_18 : decode cX5_left 18 = .ok (.lstore 4, 2) := by decide +kernel
theorem dX5_left_20 : decode cX5_left 20 = .ok (.lload_n 2, 1) := by decide +kernel
theorem dX5_left_21 : decode cX5_left 21 = .ok (.lload 4, 2) := by decide +kernel
theorem dX5_left_23 : decode cX5_left 23 = .ok (.lcmp, 1) := by decide +kernel
theorem dX5_left_24 : decode cX5_left 24 = .ok (.ifCond .lt 5, 3) := by decide +kernel
theorem dX5_left_27 : decode cX5_left 27 = .ok (.iconst 0, 1) := by decide +kernel
theorem dX5_left_28 : decode cX5_left 28 = .ok (.ireturn, 1) := by decide +kernel
theorem dX5_left_29 : decode cX5_left 29 = .ok (.lload_n 2, 1) := by decide +kernel
theorem dX5_left_30 : decode cX5_left 30 = .ok (.lload 4, 2) := by decide +kernel
theorem dX5_left_32 : decode cX5_left 32 = .ok (.ldc2_w 125, 3) := by decide +kernel
theorem dX5_left_35 : decode cX5_left 35 = .ok (.lsub, 1) := by decide +kernel
theorem dX5_left_36 : decode cX5_left 36 = .ok (.lcmp, 1) := by decide +kernel
theorem dX5_left_37 : decode cX5_left 37 = .ok (.ifCond .ge 6, 3) := by decide +kernel
theorem dX5_left_40 : decode cX5_left 40 = .ok (.ldc 127, 2) := by decide +kernel
theorem dX5_left_42 : decode cX5_left 42 = .ok (.ireturn, 1) := by decide +kernel
theorem dX5_left_43 : decode cX5_left 43 = .ok (.lload 4, 2) := by decide +kernel
theorem dX5_left_45 : decode cX5_left 45 = .ok (.lload_n 2, 1) := by decide +kernel
theorem dX5_left_46 : decode cX5_left 46 = .ok (.lsub, 1) := by decide +kernel
theorem dX5_left_47 : decode cX5_left 47 = .ok (.l2i, 1) := by decide +kernel
theorem dX5_left_48 : decode cX5_left 48 = .ok (.ireturn, 1) := by decide +kernel
set_option maxRecDepth 20000 in
theorem ggX5_log_X4_has : GoodIn wsX5_log wsX4_has := goodIn_r _ [6, 7, 22, 23, 24] (by decide +kernel) (by decide +kernel)
set_option maxRecDepth 20000 in
theorem gX5_log_X4_has : GoodIn wsX5_log (wsV RX5 131 RX4 yX4_has wsX4_has) := goodIn_app (goodIn_of _ (by decide +kernel)) ggX5_log_X4_has
set_option maxRecDepth 20000 in
theorem ggX5_log_X4_part : GoodIn wsX5_log wsX4_part := goodIn_ca (goodIn_r _ [11, 12, 13, 3, 4, 5, 6, 7, 22, 23, 24] (by decide +kernel) (by decide +kernel)) (goodIn_sub (fun _ h => List.mem_cons_of_mem _ (List.mem_append_right _ h)) (by decide +kernel))
set_option maxRecDepth 20000 in
theorem gX5_log_X4_part : GoodIn wsX5_log (wsV RX5 135 RX4 yX4_part wsX4_part) := goodIn_app (goodIn_of _ (by decide +kernel)) ggX5_log_X4_part
theorem dX5_log_0 : decode cX5_log 0 = .ok (.iload_n 1, 1) := by decide +kernel
theorem dX5_log_1 : decode cX5_log 1 = .ok (.iconst (-1), 1) := by decide +kernel
theorem dX5_log_2 : decode cX5_log 2 = .ok (.if_icmp .ne 15, 3) := by decide +kernel
theorem dX5_log_5 : decode cX5_log 5 = .ok (.iload_n 2, 1) := by decide +kernel
theorem dX5_log_6 : decode cX5_log 6 = .ok (.ifCond .ne 11, 3) := by decide +kernel
theorem dX5_log_9 : decode cX5_log 9 = .ok (.aload_n 0, 1) := by decide +kernel
theorem dX5_log_10 : decode cX5_log 10 = .ok (.getfield 34, 3) := by decide +kernel
theorem dX5_log_13 : decode cX5_log 13 = .ok (.getfield 128, 3) := by decide +kernel
theorem dX5_log_16 : decode cX5_log 16 = .ok (.ireturn, 1) := by decide +kernel
theorem dX5_log_17 : decode cX5_log 17 = .ok (.aload_n 0, 1) := by decide +kernel
theorem dX5_log_18 : decode cX5_log 18 = .ok (.getfield 34, 3) := by decide +kernel
theorem dX5_log_21 : decode cX5_log 21 = .ok (.iload_n 1, 1) := by decide +kernel
theorem dX5_log_22 : decode cX5_log 22 = .ok (.invokevirtual 131, 3) := by decide +kernel
theorem dX5_log_25 : decode cX5_log 25 = .ok (.ifCond .ne 5, 3) := by decide +kernel
theorem dX5_log_28 : decode cX5_log 28 = .ok (.iconst (-1), 1) := by decide +kernel
theorem dX5_log_29 : decode cX5_log 29 = .ok (.ireturn, 1) := by decide +kernel
theorem dX5_log_30 : decode cX5_log 30 = .ok (.iload_n 2, 1) := by decide +kernel
theorem dX5_log_31 : decode cX5_log 31 = .ok (.ifCond .lt 8, 3) := by decide +kernel
theorem dX5_log_34 : decode cX5_log 34 = .ok (.iload_n 2, 1) := by decide +kernel
theorem dX5_log_35 : decode cX5_log 35 = .ok (.iconst 3, 1) := by decide +kernel
theorem dX5_log_36 : decode cX5_log 36 = .ok (.if_icmp .lt 6, 3) := by decide +kernel
theorem dX5_log_39 : decode cX5_log 39 = .ok (.bipush (-2), 2) := by decide +kernel
theorem dX5_log_41 : decode cX5_log 41 = .ok (.ireturn, 1) := by decide +kernel
theorem dX5_log_42 : decode cX5_log 42 = .ok (.aload_n 0, 1) := by decide +kernel
theorem dX5_log_43 : decode cX5_log 43 = .ok (.getfield 34, 3) := by decide +kernel
theorem dX5_log_46 : decode cX5_log 46 = .ok (.iload_n 1, 1) := by decide +kernel
theorem dX5_log_47 : decode cX5_log 47 = .ok (.iload_n 2, 1) := by decide +kernel
theorem dX5_log_48 : decode cX5_log 48 = .ok (.invokevirtual 135, 3) := by decide +kernel
theorem dX5_log_51 : decode cX5_log 51 = .ok (.ireturn, 1) := by decide +kernel
set_option maxRecDepth 20000 in
theorem ggX5_digit_X5_countDigits : GoodIn wsX5_digit wsX5_countDigits := goodIn_r _ [10, 6] (by decide +kernel) (by decide +kernel)
set_option maxRecDepth 20000 in
theorem gX5_digit_X5_countDigits : GoodIn wsX5_digit (va_wsS RX5 141 yX5_countDigits wsX5_countDigits) := goodIn_app (goodIn_of _ (by decide +kernel)) ggX5_digit_X5_countDigits
theorem dX5_digit_0 : decode cX5_digit 0 = .ok (.aload_n 0, 1) := by decide +kernel
theorem dX5_digit_1 : decode cX5_digit 1 = .ok (.getfield 47, 3) := by decide +kernel
theorem dX5_digit_4 : decode cX5_digit 4 = .ok (.getfield 86, 3) := by decide +kernel
theorem dX5_digit_7 : decode cX5_digit 7 = .ok (.i2l, 1) := by decide +kernel
theorem dX5_digit_8 : decode cX5_digit 8 = .ok (.ldc2_w 139, 3) := by decide +kernel
theorem dX5_digit_11 : decode cX5_digit 11 = .ok (.land, 1) := by decide +kernel
theorem dX5_digit_12 : decode cX5_digit 12 = .ok (.lstore_n 2, 1) := by decide +kernel
theorem dX5_digit_13 : decode cX5_digit 13 = .ok (.lload_n 2, 1) := by decide +kernel
theorem dX5_digit_14 : decode cX5_digit 14 = .ok (.invokestatic 141, 3) := by decide +kernel
theorem dX5_digit_17 : decode cX5_digit 17 = .ok (.istore 4, 2) := by decide +kernel
theorem dX5_digit_19 : decode cX5_digit 19 = .ok (.iload_n 1, 1) := by decide +kernel
theorem dX5_digit_20 : decode cX5_digit 20 = .ok (.ifCond .lt 9, 3) := by decide +kernel
theorem dX5_digit_23 : decode cX5_digit 23 = .ok (.iload_n 1, 1) := by decide +kernel
theorem dX5_digit_24 : decode cX5_digit 24 = .ok (.iload 4, 2) := by decide +kernel
theorem dX5_digit_26 : decode cX5_digit 26 = .ok (.if_icmp .lt 11, 3) := by decide +kernel
theorem dX5_digit_29 : decode cX5_digit 29 = .ok (.new 83, 3) := by decide +kernel
theorem dX5_digit_32 : decode cX5_digit 32 = .ok (.dup, 1) := by decide +kernel
theorem dX5_digit_33 : decode cX5_digit 33 = .ok (.invokespecial 85, 3) := by decide +kernel
theorem dX5_digit_36 : decode cX5_digit 36 = .ok (.athrow, 1) := by decide +kernel
theorem dX5_digit_37 : decode cX5_digit 37 = .ok (.iload 4, 2) := by decide +kernel
theorem dX5_digit_39 : decode cX5_digit 39 = .ok (.iconst 1, 1) := by decide +kernel
theorem dX5_digit_40 : decode cX5_digit 40 = .ok (.isub, 1) := by decide +kernel
theorem dX5_digit_41 : decode cX5_digit 41 = .ok (.istore 5, 2) := by decide +kernel
theorem dX5_digit_43 : decode cX5_digit 43 = .ok (.iload 5, 2) := by decide +kernel
theorem dX5_digit_45 : decode cX5_digit 45 = .ok (.iload_n 1, 1) := by decide +kernel
theorem dX5_digit_46 : decode cX5_digit 46 = .ok (.if_icmp .le 15, 3) := by decide +kernel
theorem dX5_digit_49 : decode cX5_digit 49 = .ok (.lload_n 2, 1) := by decide +kernel
theorem dX5_digit_50 : decode cX5_digit 50 = .ok (.ldc2_w 145, 3) := by decide +kernel
theorem dX5_digit_53 : decode cX5_digit 53 = .ok (.ldiv, 1) := by decide +kernel
theorem dX5_digit_54 : decode cX5_digit 54 = .ok (.lstore_n 2, 1) := by decide +kernel
theorem dX5_digit_55 : decode cX5_digit 55 = .ok (.iinc 5 (-1), 3) := by decide +kernel
theorem dX5_digit_58 : decode cX5_digit 58 = .ok (.goto (-15), 3) := by decide +kernel
theorem dX5_digit_61 : decode cX5_digit 61 = .ok (.lload_n 2, 1) := by decide +kernel
theorem dX5_digit_62 : decode cX5_digit 62 = .ok (.ldc2_w 145, 3) := by decide +kernel
theorem dX5_digit_65 : decode cX5_digit 65 = .ok (.lrem, 1) := by decide +kernel
theorem dX5_digit_66 : decode cX5_digit 66 = .ok (.l2i, 1) := by decide +kernel
theorem dX5_digit_67 : decode cX5_digit 67 = .ok (.ireturn, 1) := by decide +kernel
theorem dX5_tester_0 : decode cX5_tester 0 = .ok (.iload_n 1, 1) := by decide +kernel
theorem dX5_tester_1 : decode cX5_tester 1 = .ok (.iconst 1, 1) := by decide +kernel
theorem dX5_tester_2 : decode cX5_tester 2 = .ok (.if_icmp .lt 8, 3) := by decide +kernel
theorem dX5_tester_5 : decode cX5_tester 5 = .ok (.iload_n 1, 1) := by decide +kernel
theorem dX5_tester_6 : decode cX5_tester 6 = .ok (.iconst 4, 1) := by decide +kernel
theorem dX5_tester_7 : decode cX5_tester 7 = .ok (.if_icmp .le 6, 3) := by decide +kernel
theorem dX5_tester_10 : decode cX5_tester 10 = .ok (.bipush (-2), 2) := by decide +kernel
theorem dX5_tester_12 : decode cX5_tester 12 = .ok (.ireturn, 1) := by decide +kernel
theorem dX5_tester_13 : decode cX5_tester 13 = .ok (.aload_n 0, 1) := by decide +kernel
theorem dX5_tester_14 : decode cX5_tester 14 = .ok (.getfield 47, 3) := by decide +kernel
theorem dX5_tester_17 : decode cX5_tester 17 = .ok (.getfield 77, 3) := by decide +kernel
theorem dX5_tester_20 : decode cX5_tester 20 = .ok (.istore_n 2, 1) := by decide +kernel
theorem dX5_tester_21 : decode cX5_tester 21 = .ok (.aload_n 0, 1) := by decide +kernel
theorem dX5_tester_22 : decode cX5_tester 22 = .ok (.aload_n 0, 1) := by decide +kernel
theorem dX5_tester_23 : decode cX5_tester 23 = .ok (.getfield 40, 3) := by decide +kernel
theorem dX5_tester_26 : decode cX5_tester 26 = .ok (.iload_n 1, 1) := by decide +kernel
theorem dX5_tester_27 : decode cX5_tester 27 = .ok (.iconst 1, 1) := by decide +kernel
theorem dX5_tester_28 : decode cX5_tester 28 = .ok (.isub, 1) := by decide +kernel
theorem dX5_tester_29 : decode cX5_tester 29 = .ok (.aaload, 1) := by decide +kernel
theorem dX5_tester_30 : decode cX5_tester 30 = .ok (.putfield 47, 3) := by decide +kernel
theorem dX5_tester_33 : decode cX5_tester 33 = .ok (.iload_n 2, 1) := by decide +kernel
theorem dX5_tester_34 : decode cX5_tester 34 = .ok (.ireturn, 1) := by decide +kernel
theorem dX5_madeLevel_0 : decode cX5_madeLevel 0 = .ok (.iload_n 1, 1) := by decide +kernel
theorem dX5_madeLevel_1 : decode cX5_madeLevel 1 = .ok (.iconst 1, 1) := by decide +kernel
theorem dX5_madeLevel_2 : decode cX5_madeLevel 2 = .ok (.if_icmp .lt 9, 3) := by decide +kernel
theorem dX5_madeLevel_5 : decode cX5_madeLevel 5 = .ok (.iload_n 1, 1) := by decide +kernel
theorem dX5_madeLevel_6 : decode cX5_madeLevel 6 = .ok (.bipush 20, 2) := by decide +kernel
theorem dX5_madeLevel_8 : decode cX5_madeLevel 8 = .ok (.if_icmp .le 7, 3) := by decide +kernel
theorem dX5_madeLevel_11 : decode cX5_madeLevel 11 = .ok (.aconst_null, 1) := by decide +kernel
theorem dX5_madeLevel_12 : decode cX5_madeLevel 12 = .ok (.goto 9, 3) := by decide +kernel
theorem dX5_madeLevel_15 : decode cX5_madeLevel 15 = .ok (.aload_n 0, 1) := by decide +kernel
theorem dX5_madeLevel_16 : decode cX5_madeLevel 16 = .ok (.getfield 13, 3) := by decide +kernel
theorem dX5_madeLevel_19 : decode cX5_madeLevel 19 = .ok (.iload_n 1, 1) := by decide +kernel
theorem dX5_madeLevel_20 : decode cX5_madeLevel 20 = .ok (.aaload, 1) := by decide +kernel
theorem dX5_madeLevel_21 : decode cX5_madeLevel 21 = .ok (.areturn, 1) := by decide +kernel
set_option maxRecDepth 20000 in
theorem ggX5_askForSeed_X1_isForSession : GoodIn wsX5_askForSeed wsX1_isForSession := goodIn_r _ [9, 10, 75, 76, 77, 78] (by decide +kernel) (by decide +kernel)
set_option maxRecDepth 20000 in
theorem gX5_askForSeed_X1_isForSession : GoodIn wsX5_askForSeed (wsV RX5 147 RX1 yX1_isForSession wsX1_isForSession) := goodIn_app (goodIn_of _ (by decide +kernel)) ggX5_askForSeed_X1_isForSession
set_option maxRecDepth 20000 in
theorem ggX5_askForSeed_X1_needsRole : GoodIn wsX5_askForSeed wsX1_needsRole := goodIn_r _ [14, 10, 75, 76, 77, 78] (by decide +kernel) (by decide +kernel)
set_option maxRecDepth 20000 in
theorem gX5_askForSeed_X1_needsRole : GoodIn wsX5_askForSeed (wsV RX5 150 RX1 yX1_needsRole wsX1_needsRole) := goodIn_app (goodIn_of _ (by decide +kernel)) ggX5_askForSeed_X1_needsRole
set_option maxRecDepth 20000 in
theorem ggX5_askForSeed_X3_lockedUntil : GoodIn wsX5_askForSeed wsX3_lockedUntil := goodIn_ca (goodIn_r _ [19, 20, 21, 64, 65, 66, 67, 68, 69, 70, 71, 72, 73, 74] (by decide +kernel) (by decide +kernel)) (goodIn_sub (fun _ h => List.mem_cons_of_mem _ (List.mem_append_right _ h)) (by decide +kernel))
set_option maxRecDepth 20000 in
theorem gX5_askForSeed_X3_lockedUntil : GoodIn wsX5_askForSeed (wsV RX5 121 RX3 yX3_lockedUntil wsX3_lockedUntil) := goodIn_app (goodIn_of _ (by decide +kernel)) ggX5_askForSeed_X3_lockedUntil
set_option maxRecDepth 20000 in
theorem ggX5_askForSeed_X2_takeSeed : GoodIn wsX5_askForSeed wsX2_takeSeed := goodIn_ca (goodIn_r _ [26, 27, 28, 29, 30, 25, 31, 32, 33, 34, 35, 36, 37, 38, 39, 40, 41, 42, 43, 44, 79, 80, 81, 82, 83] (by decide +kernel) (by decide +kernel)) (goodIn_sub (fun _ h => List.mem_cons_of_mem _ (List.mem_append_right _ h)) (by decide +kernel))
set_option maxRecDepth 20000 in
theorem gX5_askForSeed_X2_takeSeed : GoodIn wsX5_askForSeed (wsV RX5 155 RX2 yX2_takeSeed wsX2_takeSeed) := goodIn_app (goodIn_of _ (by decide +kernel)) ggX5_askForSeed_X2_takeSeed
set_option maxRecDepth 20000 in
theorem ggX5_askForSeed_X0_add : GoodIn wsX5_askForSeed wsX0_add := goodIn_ca (goodIn_r _ [48, 43, 44, 82, 83] (by decide +kernel) (by decide +kernel)) (goodIn_sub (fun _ h => List.mem_cons_of_mem _ (List.mem_append_right _ h)) (by decide +kernel))
set_option maxRecDepth 20000 in
theorem gX5_askForSeed_X0_add : GoodIn wsX5_askForSeed (wsV RX5 159 RX0 yX0_add wsX0_add) := goodIn_app (goodIn_of _ (by decide +kernel)) ggX5_askForSeed_X0_add
set_option maxRecDepth 20000 in
theorem ggX5_askForSeed_X3_awaitKey : GoodIn wsX5_askForSeed wsX3_awaitKey := goodIn_r _ [52, 53, 54, 55, 64, 65, 66, 67, 68, 69, 70, 71, 72, 73, 74] (by decide +kernel) (by decide +kernel)
set_option maxRecDepth 20000 in
theorem gX5_askForSeed_X3_awaitKey : GoodIn wsX5_askForSeed (wsV RX5 160 RX3 yX3_awaitKey wsX3_awaitKey) := goodIn_app (goodIn_of _ (by decide +kernel)) ggX5_askForSeed_X3_awaitKey
theorem dX5_askForSeed_0 : decode cX5_askForSeed 0 = .ok (.aload_n 1, 1) := by decide +kernel
theorem dX5_askForSeed_1 : decode cX5_askForSeed 1 = .ok (.aload_n 0, 1) := by decide +kernel
theorem dX5_askForSeed_2 : decode cX5_askForSeed 2 = .ok (.getfield 47, 3) := by decide +kernel
theorem dX5_askForSeed_5 : decode cX5_askForSeed 5 = .ok (.getfield 109, 3) := by decide +kernel
theorem dX5_askForSeed_8 : decode cX5_askForSeed 8 = .ok (.invokevirtual 147, 3) := by decide +kernel
theorem dX5_askForSeed_11 : decode cX5_askForSeed 11 = .ok (.ifCond .ne 6, 3) := by decide +kernel
theorem dX5_askForSeed_14 : decode cX5_askForSeed 14 = .ok (.bipush (-18), 2) := by decide +kernel
theorem dX5_askForSeed_16 : decode cX5_askForSeed 16 = .ok (.ireturn, 1) := by decide +kernel
theorem dX5_askForSeed_17 : decode cX5_askForSeed 17 = .ok (.aload_n 1, 1) := by decide +kernel
theorem dX5_askForSeed_18 : decode cX5_askForSeed 18 = .ok (.invokevirtual 150, 3) := by decide +kernel
theorem dX5_askForSeed_21 : decode cX5_askForSeed 21 = .ok (.ifCond .eq 21, 3) := by decide +kernel
theorem dX5_askForSeed_24 : decode cX5_askForSeed 24 = .ok (.aload_n 0, 1) := by decide +kernel
theorem dX5_askForSeed_25 : decode cX5_askForSeed 25 = .ok (.getfield 67, 3) := by decide +kernel
theorem dX5_askForSeed_28 : decode cX5_askForSeed 28 = .ok (.aload_n 0, 1) := by decide +kernel
theorem dX5_askForSeed_29 : decode cX5_askForSeed 29 = .ok (.getfield 47, 3) := by decide +kernel
theorem dX5_askForSeed_32 : decode cX5_askForSeed 32 = .ok (.getfield 118, 3) := by decide +kernel
theorem dX5_askForSeed_35 : decode cX5_askForSeed 35 = .ok (.lcmp, 1) := by decide +kernel
theorem dX5_askForSeed_36 : decode cX5_askForSeed 36 = .ok (.ifCond .lt 6, 3) := by decide +kernel
theorem dX5_askForSeed_39 : decode cX5_askForSeed 39 = .ok (.bipush (-51), 2) := by decide +kernel
theorem dX5_askForSeed_41 : decode cX5_askForSeed 41 = .ok (.ireturn, 1) := by decide +kernel
theorem dX5_askForSeed_42 : decode cX5_askForSeed 42 = .ok (.aload_n 0, 1) := by decide +kernel
theorem dX5_askForSeed_43 : decode cX5_askForSeed 43 = .ok (.getfield 47, 3) := by decide +kernel
theorem dX5_askForSeed_46 : decode cX5_askForSeed 46 = .ok (.getfield 106, 3) := by decide +kernel
theorem dX5_askForSeed_49 : decode cX5_askForSeed 49 = .ok (.aload_n 1, 1) := by decide +kernel
theorem dX5_askForSeed_50 : decode cX5_askForSeed 50 = .ok (.getfield 154, 3) := by decide +kernel
theorem dX5_askForSeed_53 : decode cX5_askForSeed 53 = .ok (.if_icmp .ne 13, 3) := by decide +kernel
theorem dX5_askForSeed_56 : decode cX5_askForSeed 56 = .ok (.aload_n 0, 1) := by decide +kernel
theorem dX5_askForSeed_57 : decode cX5_askForSeed 57 = .ok (.getfield 47, 3) := by decide +kernel
theorem dX5_askForSeed_60 : decode cX5_askForSeed 60 = .ok (.iconst 0, 1) := by decide +kernel
theorem dX5_askForSeed_61 : decode cX5_askForSeed 61 = .ok (.putfield 86, 3) := by decide +kernel
theorem dX5_askForSeed_64 : decode cX5_askForSeed 64 = .ok (.iconst 4, 1) := by decide +kernel
theorem dX5_askForSeed_65 : decode cX5_askForSeed 65 = .ok (.ireturn, 1) := by decide +kernel
theorem dX5_askForSeed_66 : decode cX5_askForSeed 66 = .ok (.aload_n 0, 1) := by decide +kernel
theorem dX5_askForSeed_67 : decode cX5_askForSeed 67 = .ok (.getfield 67, 3) := by decide +kernel
theorem dX5_askForSeed_70 : decode cX5_askForSeed 70 = .ok (.aload_n 0, 1) := by decide +kernel
theorem dX5_askForSeed_71 : decode cX5_askForSeed 71 = .ok (.getfield 47, 3) := by decide +kernel
theorem dX5_askForSeed_74 : decode cX5_askForSeed 74 = .ok (.aload_n 1, 1) := by decide +kernel
theorem dX5_askForSeed_75 : decode cX5_askForSeed 75 = .ok (.getfield 154, 3) := by decide +kernel
theorem dX5_askForSeed_78 : decode cX5_askForSeed 78 = .ok (.invokevirtual 121, 3) := by decide +kernel
theorem dX5_askForSeed_81 : decode cX5_askForSeed 81 = .ok (.lcmp, 1) := by decide +kernel
theorem dX5_askForSeed_82 : decode cX5_askForSeed 82 = .ok (.ifCond .ge 6, 3) := by decide +kernel
theorem dX5_askForSeed_85 : decode cX5_askForSeed 85 = .ok (.bipush (-55), 2) := by decide +kernel
theorem dX5_askForSeed_87 : decode cX5_askForSeed 87 = .ok (.ireturn, 1) := by decide +kernel
theorem dX5_askForSeed_88 : decode cX5_askForSeed 88 = .ok (.aload_n 0, 1) := by decide +kernel
theorem dX5_askForSeed_89 : decode cX5_askForSeed 89 = .ok (.getfield 20, 3) := by decide +kernel
theorem dX5_askForSeed_92 : decode cX5_askForSeed 92 = .ok (.aload_n 0, 1) := by decide +kernel
theorem dX5_askForSeed_93 : decode cX5_askForSeed 93 = .ok (.getfield 27, 3) := by decide +kernel
theorem dX5_askForSeed_96 : decode cX5_askForSeed 96 = .ok (.invokevirtual 155, 3) := by decide +kernel
theorem dX5_askForSeed_99 : decode cX5_askForSeed 99 = .ok (.istore_n 2, 1) := by decide +kernel
theorem dX5_askForSeed_100 : decode cX5_askForSeed 100 = .ok (.iload_n 2, 1) := by decide +kernel
theorem dX5_askForSeed_101 : decode cX5_askForSeed 101 = .ok (.ifCond .ne 6, 3) := by decide +kernel
theorem dX5_askForSeed_104 : decode cX5_askForSeed 104 = .ok (.bipush (-34), 2) := by decide +kernel
theorem dX5_askForSeed_106 : decode cX5_askForSeed 106 = .ok (.ireturn, 1) := by decide +kernel
theorem dX5_askForSeed_107 : decode cX5_askForSeed 107 = .ok (.aload_n 0, 1) := by decide +kernel
theorem dX5_askForSeed_108 : decode cX5_askForSeed 108 = .ok (.getfield 27, 3) := by decide +kernel
theorem dX5_askForSeed_111 : decode cX5_askForSeed 111 = .ok (.iload_n 2, 1) := by decide +kernel
theorem dX5_askForSeed_112 : decode cX5_askForSeed 112 = .ok (.invokevirtual 159, 3) := by decide +kernel
theorem dX5_askForSeed_115 : decode cX5_askForSeed 115 = .ok (.aload_n 0, 1) := by decide +kernel
theorem dX5_askForSeed_116 : decode cX5_askForSeed 116 = .ok (.getfield 47, 3) := by decide +kernel
theorem dX5_askForSeed_119 : decode cX5_askForSeed 119 = .ok (.aload_n 1, 1) := by decide +kernel
theorem dX5_askForSeed_120 : decode cX5_askForSeed 120 = .ok (.getfield 154, 3) := by decide +kernel
theorem dX5_askForSeed_123 : decode cX5_askForSeed 123 = .ok (.iload_n 2, 1) := by decide +kernel
theorem dX5_askForSeed_124 : decode cX5_askForSeed 124 = .ok (.invokevirtual 160, 3) := by decide +kernel
theorem dX5_askForSeed_127 : decode cX5_askForSeed 127 = .ok (.iconst 4, 1) := by decide +kernel
theorem dX5_askForSeed_128 : decode cX5_askForSeed 128 = .ok (.ireturn, 1) := by decide +kernel
set_option maxRecDepth 20000 in
theorem ggX5_tryKey_X1_keyTo : GoodIn wsX5_tryKey wsX1_keyTo := goodIn_r _ [7, 8, 9, 10, 11, 12, 13, 14, 6, 15, 16, 51, 52, 53, 54] (by decide +kernel) (by decide +kernel)
set_option maxRecDepth 20000 in
theorem gX5_tryKey_X1_keyTo : GoodIn wsX5_tryKey (wsV RX5 170 RX1 yX1_keyTo wsX1_keyTo) := goodIn_app (goodIn_of _ (by decide +kernel)) ggX5_tryKey_X1_keyTo
set_option maxRecDepth 20000 in
theorem ggX5_tryKey_X3_setUsedTries : GoodIn wsX5_tryKey wsX3_setUsedTries := goodIn_ca (goodIn_r _ [21, 22, 40, 41, 42, 43, 44, 45, 46, 47, 48, 49, 50] (by decide +kernel) (by decide +kernel)) (goodIn_sub (fun _ h => List.mem_cons_of_mem _ (List.mem_append_right _ h)) (by decide +kernel))
set_option maxRecDepth 20000 in
theorem gX5_tryKey_X3_setUsedTries : GoodIn wsX5_tryKey (wsV RX5 174 RX3 yX3_setUsedTries wsX3_setUsedTries) := goodIn_app (goodIn_of _ (by decide +kernel)) ggX5_tryKey_X3_setUsedTries
set_option maxRecDepth 20000 in
theorem ggX5_tryKey_X3_usedTries : GoodIn wsX5_tryKey wsX3_usedTries := goodIn_ca (goodIn_r _ [26, 22, 40, 41, 42, 43, 44, 45, 46, 47, 48, 49, 50] (by decide +kernel) (by decide +kernel)) (goodIn_sub (fun _ h => List.mem_cons_of_mem _ (List.mem_append_right _ h)) (by decide +kernel))
set_option maxRecDepth 20000 in
theorem gX5_tryKey_X3_usedTries : GoodIn wsX5_tryKey (wsV RX5 177 RX3 yX3_usedTries wsX3_usedTries) := goodIn_app (goodIn_of _ (by decide +kernel)) ggX5_tryKey_X3_usedTries
set_option maxRecDepth 20000 in
theorem ggX5_tryKey_X3_lock : GoodIn wsX5_tryKey wsX3_lock := goodIn_ca (goodIn_r _ [30, 31, 40, 41, 42, 43, 44, 45, 46, 47, 48, 49, 50] (by decide +kernel) (by decide +kernel)) (goodIn_sub (fun _ h => List.mem_cons_of_mem _ (List.mem_append_right _ h)) (by decide +kernel))
set_option maxRecDepth 20000 in
theorem gX5_tryKey_X3_lock : GoodIn wsX5_tryKey (wsV RX5 186 RX3 yX3_lock wsX3_lock) := goodIn_app (goodIn_of _ (by decide +kernel)) ggX5_tryKey_X3_lock
theorem dX5_tryKey_0 : decode cX5_tryKey 0 = .ok (.aload_n 0, 1) := by decide +kernel
theorem dX5_tryKey_1 : decode cX5_tryKey 1 = .ok (.getfield 47, 3) := by decide +kernel
theorem dX5_tryKey_4 : decode cX5_tryKey 4 = .ok (.getfield 164, 3) := by decide +kernel
theorem dX5_tryKey_7 : decode cX5_tryKey 7 = .ok (.aload_n 1, 1) := by decide +kernel
theorem dX5_tryKey_8 : decode cX5_tryKey 8 = .ok (.getfield 154, 3) := by decide +kernel
theorem dX5_tryKey_11 : decode cX5_tryKey 11 = .ok (.if_icmp .eq 6, 3) := by decide +kernel
theorem dX5_tryKey_14 : decode cX5_tryKey 14 = .ok (.bipush (-36), 2) := by decide +kernel
theorem dX5_tryKey_16 : decode cX5_tryKey 16 = .ok (.ireturn, 1) := by decide +kernel
theorem dX5_tryKey_17 : decode cX5_tryKey 17 = .ok (.aload_n 0, 1) := by decide +kernel
theorem dX5_tryKey_18 : decode cX5_tryKey 18 = .ok (.getfield 47, 3) := by decide +kernel
theorem dX5_tryKey_21 : decode cX5_tryKey 21 = .ok (.iconst 0, 1) := by decide +kernel
theorem dX5_tryKey_22 : decode cX5_tryKey 22 = .ok (.putfield 164, 3) := by decide +kernel
theorem dX5_tryKey_25 : decode cX5_tryKey 25 = .ok (.iload_n 2, 1) := by decide +kernel
theorem dX5_tryKey_26 : decode cX5_tryKey 26 = .ok (.aload_n 1, 1) := by decide +kernel
theorem dX5_tryKey_27 : decode cX5_tryKey 27 = .ok (.aload_n 0, 1) := by decide +kernel
theorem dX5_tryKey_28 : decode cX5_tryKey 28 = .ok (.getfield 47, 3) := by decide +kernel
theorem dX5_tryKey_31 : decode cX5_tryKey 31 = .ok (.getfield 167, 3) := by decide +kernel
theorem dX5_tryKey_34 : decode cX5_tryKey 34 = .ok (.invokevirtual 170, 3) := by decide +kernel
theorem dX5_tryKey_37 : decode cX5_tryKey 37 = .ok (.if_icmp .ne 28, 3) := by decide +kernel
theorem dX5_tryKey_40 : decode cX5_tryKey 40 = .ok (.aload_n 0, 1) := by decide +kernel
theorem dX5_tryKey_41 : decode cX5_tryKey 41 = .ok (.getfield 47, 3) := by decide +kernel
theorem dX5_tryKey_44 : decode cX5_tryKey 44 = .ok (.aload_n 1, 1) := by decide +kernel
theorem dX5_tryKey_45 : decode cX5_tryKey 45 = .ok (.getfield 154, 3) := by decide +kernel
theorem dX5_tryKey_48 : decode cX5_tryKey 48 = .ok (.putfield 106, 3) := by decide +kernel
theorem dX5_tryKey_51 : decode cX5_tryKey 51 = .ok (.aload_n 0, 1) := by decide +kernel
theorem dX5_tryKey_52 : decode cX5_tryKey 52 = .ok (.getfield 47, 3) := by decide +kernel
theorem dX5_tryKey_55 : decode cX5_tryKey 55 = .ok (.aload_n 1, 1) := by decide +kernel
theorem dX5_tryKey_56 : decode cX5_tryKey 56 = .ok (.getfield 154, 3) := by decide +kernel
theorem dX5_tryKey_59 : decode cX5_tryKey 59 = .ok (.iconst 0, 1) := by decide +kernel
theorem dX5_tryKey_60 : decode cX5_tryKey 60 = .ok (.invokevirtual 174, 3) := by decide +kernel
theorem dX5_tryKey_63 : decode cX5_tryKey 63 = .ok (.iconst 1, 1) := by decide +kernel
theorem dX5_tryKey_64 : decode cX5_tryKey 64 = .ok (.ireturn, 1) := by decide +kernel
theorem dX5_tryKey_65 : decode cX5_tryKey 65 = .ok (.aload_n 0, 1) := by decide +kernel
theorem dX5_tryKey_66 : decode cX5_tryKey 66 = .ok (.getfield 47, 3) := by decide +kernel
theorem dX5_tryKey_69 : decode cX5_tryKey 69 = .ok (.aload_n 1, 1) := by decide +kernel
theorem dX5_tryKey_70 : decode cX5_tryKey 70 = .ok (.getfield 154, 3) := by decide +kernel
theorem dX5_tryKey_73 : decode cX5_tryKey 73 = .ok (.invokevirtual 177, 3) := by decide +kernel
theorem dX5_tryKey_76 : decode cX5_tryKey 76 = .ok (.iconst 1, 1) := by decide +kernel
theorem dX5_tryKey_77 : decode cX5_tryKey 77 = .ok (.iadd, 1) := by decide +kernel
theorem dX5_tryKey_78 : decode cX5_tryKey 78 = .ok (.istore_n 3, 1) := by decide +kernel
theorem dX5_tryKey_79 : decode cX5_tryKey 79 = .ok (.iload_n 3, 1) := by decide +kernel
theorem dX5_tryKey_80 : decode cX5_tryKey 80 = .ok (.aload_n 1, 1) := by decide +kernel
theorem dX5_tryKey_81 : decode cX5_tryKey 81 = .ok (.getfield 180, 3) := by decide +kernel
theorem dX5_tryKey_84 : decode cX5_tryKey 84 = .ok (.if_icmp .ge 18, 3) := by decide +kernel
theorem dX5_tryKey_87 : decode cX5_tryKey 87 = .ok (.aload_n 0, 1) := by decide +kernel
theorem dX5_tryKey_88 : decode cX5_tryKey 88 = .ok (.getfield 47, 3) := by decide +kernel
theorem dX5_tryKey_91 : decode cX5_tryKey 91 = .ok (.aload_n 1, 1) := by decide +kernel
theorem dX5_tryKey_92 : decode cX5_tryKey 92 = .ok (.getfield 154, 3) := by decide +kernel
theorem dX5_tryKey_95 : decode cX5_tryKey 95 = .ok (.iload_n 3, 1) := by decide +kernel
theorem dX5_tryKey_96 : decode cX5_tryKey 96 = .ok (.invokevirtual 174, 3) := by decide +kernel
theorem dX5_tryKey_99 : decode cX5_tryKey 99 = .ok (.bipush (-53), 2) := by decide +kernel
theorem dX5_tryKey_101 : decode cX5_tryKey 101 = .ok (.ireturn, 1) := by decide +kernel
theorem dX5_tryKey_102 : decode cX5_tryKey 102 = .ok (.aload_n 0, 1) := by decide +kernel
theorem dX5_tryKey_103 : decode cX5_tryKey 103 = .ok (.getfield 47, 3) := by decide +kernel
theorem dX5_tryKey_106 : decode cX5_tryKey 106 = .ok (.aload_n 1, 1) := by decide +kernel
theorem dX5_tryKey_107 : decode cX5_tryKey 107 = .ok (.getfield 154, 3) := by decide +kernel
theorem dX5_tryKey_110 : decode cX5_tryKey 110 = .ok (.iconst 0, 1) := by decide +kernel
theorem dX5_tryKey_111 : decode cX5_tryKey 111 = .ok (.invokevirtual 174, 3) := by decide +kernel
theorem dX5_tryKey_114 : decode cX5_tryKey 114 = .ok (.aload_n 0, 1) := by decide +kernel
theorem dX5_tryKey_115 : decode cX5_tryKey 115 = .ok (.getfield 47, 3) := by decide +kernel
theorem dX5_tryKey_118 : decode cX5_tryKey 118 = .ok (.aload_n 1, 1) := by decide +kernel
theorem dX5_tryKey_119 : decode cX5_tryKey 119 = .ok (.getfield 154, 3) := by decide +kernel
theorem dX5_tryKey_122 : decode cX5_tryKey 122 = .ok (.aload_n 0, 1) := by decide +kernel
theorem dX5_tryKey_123 : decode cX5_tryKey 123 = .ok (.getfield 67, 3) := by decide +kernel
theorem dX5_tryKey_126 : decode cX5_tryKey 126 = .ok (.aload_n 1, 1) := by decide +kernel
theorem dX5_tryKey_127 : decode cX5_tryKey 127 = .ok (.getfield 183, 3) := by decide +kernel
theorem dX5_tryKey_130 : decode cX5_tryKey 130 = .ok (.ladd, 1) := by decide +kernel
theorem dX5_tryKey_131 : decode cX5_tryKey 131 = .ok (.invokevirtual 186, 3) := by decide +kernel
theorem dX5_tryKey_134 : decode cX5_tryKey 134 = .ok (.bipush (-54), 2) := by decide +kernel
theorem dX5_tryKey_136 : decode cX5_tryKey 136 = .ok (.ireturn, 1) := by decide +kernel
theorem dX5_countDigits_0 : decode cX5_countDigits 0 = .ok (.iconst 1, 1) := by decide +kernel
theorem dX5_countDigits_1 : decode cX5_countDigits 1 = .ok (.istore_n 2, 1) := by decide +kernel
theorem dX5_countDigits_2 : decode cX5_countDigits 2 = .ok (.ldc2_w 145, 3) := by decide +kernel
theorem dX5_countDigits_5 : decode cX5_countDigits 5 = .ok (.lstore_n 3, 1) := by decide +kernel
theorem dX5_countDigits_6 : decode cX5_countDigits 6 = .ok (.lload_n 3, 1) := by decide +kernel
theorem dX5_countDigits_7 : decode cX5_countDigits 7 = .ok (.lload_n 0, 1) := by decide +kernel
theorem dX5_countDigits_8 : decode cX5_countDigits 8 = .ok (.lcmp, 1) := by decide +kernel
theorem dX5_countDigits_9 : decode cX5_countDigits 9 = .ok (.ifCond .gt 21, 3) := by decide +kernel
theorem dX5_countDigits_12 : decode cX5_countDigits 12 = .ok (.iload_n 2, 1) := by decide +kernel
theorem dX5_countDigits_13 : decode cX5_countDigits 13 = .ok (.bipush 10, 2) := by decide +kernel
theorem dX5_countDigits_15 : decode cX5_countDigits 15 = .ok (.if_icmp .ge 15, 3) := by decide +kernel
theorem dX5_countDigits_18 : decode cX5_countDigits 18 = .ok (.iinc 2 1, 3) := by decide +kernel
theorem dX5_countDigits_21 : decode cX5_countDigits 21 = .ok (.lload_n 3, 1) := by decide +kernel
theorem dX5_countDigits_22 : decode cX5_countDigits 22 = .ok (.ldc2_w 145, 3) := by decide +kernel
theorem dX5_countDigits_25 : decode cX5_countDigits 25 = .ok (.lmul, 1) := by decide +kernel
theorem dX5_countDigits_26 : decode cX5_countDigits 26 = .ok (.lstore_n 3, 1) := by decide +kernel
theorem dX5_countDigits_27 : decode cX5_countDigits 27 = .ok (.goto (-21), 3) := by decide +kernel
theorem dX5_countDigits_30 : decode cX5_countDigits 30 = .ok (.iload_n 2, 1) := by decide +kernel
theorem dX5_countDigits_31 : decode cX5_countDigits 31 = .ok (.ireturn, 1) := by decide +kernel
theorem dX5_isPlain_0 : decode cX5_isPlain 0 = .ok (.iload_n 0, 1) := by decide +kernel
theorem dX5_isPlain_1 : decode cX5_isPlain 1 = .ok (.iload_n 0, 1) := by decide +kernel
theorem dX5_isPlain_2 : decode cX5_isPlain 2 = .ok (.sipush 255, 3) := by decide +kernel
theorem dX5_isPlain_5 : decode cX5_isPlain 5 = .ok (.iand, 1) := by decide +kernel
theorem dX5_isPlain_6 : decode cX5_isPlain 6 = .ok (.ldc 190, 2) := by decide +kernel
theorem dX5_isPlain_8 : decode cX5_isPlain 8 = .ok (.imul, 1) := by decide +kernel
theorem dX5_isPlain_9 : decode cX5_isPlain 9 = .ok (.if_icmp .ne 7, 3) := by decide +kernel
theorem dX5_isPlain_12 : decode cX5_isPlain 12 = .ok (.iconst 1, 1) := by decide +kernel
theorem dX5_isPlain_13 : decode cX5_isPlain 13 = .ok (.goto 4, 3) := by decide +kernel
theorem dX5_isPlain_16 : decode cX5_isPlain 16 = .ok (.iconst 0, 1) := by decide +kernel
theorem dX5_isPlain_17 : decode cX5_isPlain 17 = .ok (.ireturn, 1) := by decide +kernel
theorem dX6_init_0 : decode cX6_init 0 = .ok (.aload_n 0, 1) := by decide +kernel
theorem dX6_init_1 : decode cX6_init 1 = .ok (.invokespecial 1, 3) := by decide +kernel
theorem dX6_init_4 : decode cX6_init 4 = .ok (.aload_n 0, 1) := by decide +kernel
theorem dX6_init_5 : decode cX6_init 5 = .ok (.bipush 21, 2) := by decide +kernel
theorem dX6_init_7 : decode cX6_init 7 = .ok (.newarray .int, 2) := by decide +kernel
theorem dX6_init_9 : decode cX6_init 9 = .ok (.putfield 7, 3) := by decide +kernel
theorem dX6_init_12 : decode cX6_init 12 = .ok (.aload_n 0, 1) := by decide +kernel
theorem dX6_init_13 : decode cX6_init 13 = .ok (.bipush 21, 2) := by decide +kernel
theorem dX6_init_15 : decode cX6_init 15 = .ok (.newarray .int, 2) := by decide +kernel
theorem dX6_init_17 : decode cX6_init 17 = .ok (.putfield 13, 3) := by decide +kernel
theorem dX6_init_20 : decode cX6_init 20 = .ok (.aload_n 0, 1) := by decide +kernel
theorem dX6_init_21 : decode cX6_init 21 = .ok (.bipush 21, 2) := by decide +kernel
theorem dX6_init_23 : decode cX6_init 23 = .ok (.newarray .long, 2) := by decide +kernel
theorem dX6_init_25 : decode cX6_init 25 = .ok (.putfield 16, 3) := by decide +kernel
theorem dX6_init_28 : decode cX6_init 28 = .ok (.aload_n 0, 1) := by decide +kernel
theorem dX6_init_29 : decode cX6_init 29 = .ok (.sipush 2000, 3) := by decide +kernel
theorem dX6_init_32 : decode cX6_init 32 = .ok (.newarray .int, 2) := by decide +kernel
theorem dX6_init_34 : decode cX6_init 34 = .ok (.putfield 20, 3) := by decide +kernel
theorem dX6_init_37 : decode cX6_init 37 = .ok (.aload_n 0, 1) := by decide +kernel
theorem dX6_init_38 : decode cX6_init 38 = .ok (.sipush 2000, 3) := by decide +kernel
theorem dX6_init_41 : decode cX6_init 41 = .ok (.newarray .int, 2) := by decide +kernel
theorem dX6_init_43 : decode cX6_init 43 = .ok (.putfield 23, 3) := by decide +kernel
theorem dX6_init_46 : decode cX6_init 46 = .ok (.aload_n 0, 1) := by decide +kernel
theorem dX6_init_47 : decode cX6_init 47 = .ok (.iconst 4, 1) := by decide +kernel
theorem dX6_init_48 : decode cX6_init 48 = .ok (.newarray .int, 2) := by decide +kernel
theorem dX6_init_50 : decode cX6_init 50 = .ok (.dup, 1) := by decide +kernel
theorem dX6_init_51 : decode cX6_init 51 = .ok (.iconst 0, 1) := by decide +kernel
theorem dX6_init_52 : decode cX6_init 52 = .ok (.iconst 1, 1) := by decide +kernel
theorem dX6_init_53 : decode cX6_init 53 = .ok (.iastore, 1) := by decide +kernel
theorem dX6_init_54 : decode cX6_init 54 = .ok (.dup, 1) := by decide +kernel
theorem dX6_init_55 : decode cX6_init 55 = .ok (.iconst 1, 1) := by decide +kernel
theorem dX6_init_56 : decode cX6_init 56 = .ok (.iconst 1, 1) := by decide +kernel
theorem dX6_init_57 : decode cX6_init 57 = .ok (.iastore, 1) := by decide +kernel
theorem dX6_init_58 : decode cX6_init 58 = .ok (.dup, 1) := by decide +kernel
theorem dX6_init_59 : decode cX6_init 59 = .ok (.iconst 2, 1) := by decide +kernel
theorem dX6_init_60 : decode cX6_init 60 = .ok (.iconst 1, 1) := by decide +kernel
theorem dX6_init_61 : decode cX6_init 61 = .ok (.iastore, 1) := by decide +kernel
theorem dX6_init_62 : decode cX6_init 62 = .ok (.dup, 1) := by decide +kernel
theorem dX6_init_63 : decode cX6_init 63 = .ok (.iconst 3, 1) := by decide +kernel
theorem dX6_init_64 : decode cX6_init 64 = .ok (.iconst 1, 1) := by decide +kernel
theorem dX6_init_65 : decode cX6_init 65 = .ok (.iastore, 1) := by decide +kernel
theorem dX6_init_66 : decode cX6_init 66 = .ok (.putfield 26, 3) := by decide +kernel
theorem dX6_init_69 : decode cX6_init 69 = .ok (.aload_n 0, 1) := by decide +kernel
theorem dX6_init_70 : decode cX6_init 70 = .ok (.iconst 4, 1) := by decide +kernel
theorem dX6_init_71 : decode cX6_init 71 = .ok (.newarray .long, 2) := by decide +kernel
theorem dX6_init_73 : decode cX6_init 73 = .ok (.dup, 1) := by decide +kernel
theorem dX6_init_74 : decode cX6_init 74 = .ok (.iconst 0, 1) := by decide +kernel
theorem dX6_init_75 : decode cX6_init 75 = .ok (.ldc2_w 29, 3) := by decide +kernel
theorem dX6_init_78 : decode cX6_init 78 = .ok (.lastore, 1) := by decide +kernel
theorem dX6_init_79 : decode cX6_init 79 = .ok (.dup, 1) := by decide +kernel
theorem dX6_init_80 : decode cX6_init 80 = .ok (.iconst 1, 1) := by decide +kernel
theorem dX6_init_81 : decode cX6_init 81 = .ok (.ldc2_w 29, 3) := by decide +kernel
theorem dX6_init_84 : decode cX6_init 84 = .ok (.lastore, 1) := by decide +kernel
theorem dX6_init_85 : decode cX6_init 85 = .ok (.dup, 1) := by decide +kernel
theorem dX6_init_86 : decode cX6_init 86 = .ok (.iconst 2, 1) := by decide +kernel
theorem dX6_init_87 : decode cX6_init 87 = .ok (.ldc2_w 29, 3) := by decide +kernel
theorem dX6_init_90 : decode cX6_init 90 = .ok (.lastore, 1) := by decide +kernel
theorem dX6_init_91 : decode cX6_init 91 = .ok (.dup, 1) := by decide +kernel
theorem dX6_init_92 : decode cX6_init 92 = .ok (.iconst 3, 1) := by decide +kernel
theorem dX6_init_93 : decode cX6_init 93 = .ok (.ldc2_w 29, 3) := by decide +kernel
theorem dX6_init_96 : decode cX6_init 96 = .ok (.lastore, 1) := by decide +kernel
theorem dX6_init_97 : decode cX6_init 97 = .ok (.putfield 31, 3) := by decide +kernel
theorem dX6_init_100 : decode cX6_init 100 = .ok (.aload_n 0, 1) := by decide +kernel
theorem dX6_init_101 : decode cX6_init 101 = .ok (.iconst 4, 1) := by decide +kernel
theorem dX6_init_102 : decode cX6_init 102 = .ok (.newarray .int, 2) := by decide +kernel
theorem dX6_init_104 : decode cX6_init 104 = .ok (.putfield 34, 3) := by decide +kernel
theorem dX6_init_107 : decode cX6_init 107 = .ok (.aload_n 0, 1) := by decide +kernel
theorem dX6_init_108 : decode cX6_init 108 = .ok (.iconst 4, 1) := by decide +kernel
theorem dX6_init_109 : decode cX6_init 109 = .ok (.newarray .int, 2) := by decide +kernel
theorem dX6_init_111 : decode cX6_init 111 = .ok (.putfield 37, 3) := by decide +kernel
theorem dX6_init_114 : decode cX6_init 114 = .ok (.aload_n 0, 1) := by decide +kernel
theorem dX6_init_115 : decode cX6_init 115 = .ok (.iconst 4, 1) := by decide +kernel
theorem dX6_init_116 : decode cX6_init 116 = .ok (.newarray .int, 2) := by decide +kernel
theorem dX6_init_118 : decode cX6_init 118 = .ok (.putfield 40, 3) := by decide +kernel
theorem dX6_init_121 : decode cX6_init 121 = .ok (.aload_n 0, 1) := by decide +kernel
theorem dX6_init_122 : decode cX6_init 122 = .ok (.iconst 4, 1) := by decide +kernel
theorem dX6_init_123 : decode cX6_init 123 = .ok (.newarray .int, 2) := by decide +kernel
theorem dX6_init_125 : decode cX6_init 125 = .ok (.putfield 43, 3) := by decide +kernel
theorem dX6_init_128 : decode cX6_init 128 = .ok (.aload_n 0, 1) := by decide +kernel
theorem dX6_init_129 : decode cX6_init 129 = .ok (.iconst 4, 1) := by decide +kernel
theorem dX6_init_130 : decode cX6_init 130 = .ok (.newarray .int, 2) := by decide +kernel
theorem dX6_init_132 : decode cX6_init 132 = .ok (.putfield 46, 3) := by decide +kernel
theorem dX6_init_135 : decode cX6_init 135 = .ok (.aload_n 0, 1) := by decide +kernel
theorem dX6_init_136 : decode cX6_init 136 = .ok (.iconst 4, 1) := by decide +kernel
theorem dX6_init_137 : decode cX6_init 137 = .ok (.newarray .int, 2) := by decide +kernel
theorem dX6_init_139 : decode cX6_init 139 = .ok (.putfield 49, 3) := by decide +kernel
theorem dX6_init_142 : decode cX6_init 142 = .ok (.aload_n 0, 1) := by decide +kernel
theorem dX6_init_143 : decode cX6_init 143 = .ok (.bipush 84, 2) := by decide +kernel
theorem dX6_init_145 : decode cX6_init 145 = .ok (.newarray .int, 2) := by decide +kernel
theorem dX6_init_147 : decode cX6_init 147 = .ok (.putfield 52, 3) := by decide +kernel
theorem dX6_init_150 : decode cX6_init 150 = .ok (.aload_n 0, 1) := by decide +kernel
theorem dX6_init_151 : decode cX6_init 151 = .ok (.bipush 84, 2) := by decide +kernel
theorem dX6_init_153 : decode cX6_init 153 = .ok (.newarray .long, 2) := by decide +kernel
theorem dX6_init_155 : decode cX6_init 155 = .ok (.putfield 55, 3) := by decide +kernel
theorem dX6_init_158 : decode cX6_init 158 = .ok (.aload_n 0, 1) := by decide +kernel
theorem dX6_init_159 : decode cX6_init 159 = .ok (.bipush 84, 2) := by decide +kernel
theorem dX6_init_161 : decode cX6_init 161 = .ok (.newarray .boolean, 2) := by decide +kernel
theorem dX6_init_163 : decode cX6_init 163 = .ok (.putfield 58, 3) := by decide +kernel
theorem dX6_init_166 : decode cX6_init 166 = .ok (.aload_n 0, 1) := by decide +kernel
theorem dX6_init_167 : decode cX6_init 167 = .ok (.sipush 300, 3) := by decide +kernel
theorem dX6_init_170 : decode cX6_init 170 = .ok (.newarray .int, 2) := by decide +kernel
theorem dX6_init_172 : decode cX6_init 172 = .ok (.putfield 62, 3) := by decide +kernel
theorem dX6_init_175 : decode cX6_init 175 = .ok (.aload_n 0, 1) := by decide +kernel
theorem dX6_init_176 : decode cX6_init 176 = .ok (.sipush 300, 3) := by decide +kernel
theorem dX6_init_179 : decode cX6_init 179 = .ok (.newarray .int, 2) := by decide +kernel
theorem dX6_init_181 : decode cX6_init 181 = .ok (.putfield 65, 3) := by decide +kernel
theorem dX6_init_184 : decode cX6_init 184 = .ok (.aload_n 0, 1) := by decide +kernel
theorem dX6_init_185 : decode cX6_init 185 = .ok (.sipush 300, 3) := by decide +kernel
theorem dX6_init_188 : decode cX6_init 188 = .ok (.newarray .int, 2) := by decide +kernel
theorem dX6_init_190 : decode cX6_init 190 = .ok (.putfield 68, 3) := by decide +kernel
theorem dX6_init_193 : decode cX6_init 193 = .ok (.return_, 1) := by decide +kernel
theorem dX6_thrown_0 : decode cX6_thrown 0 = .ok (.aload_n 0, 1) := by decide +kernel
theorem dX6_thrown_1 : decode cX6_thrown 1 = .ok (.getfield 71, 3) := by decide +kernel
theorem dX6_thrown_4 : decode cX6_thrown 4 = .ok (.ireturn, 1) := by decide +kernel
theorem dX6_isMade_0 : decode cX6_isMade 0 = .ok (.iload_n 1, 1) := by decide +kernel
theorem dX6_isMade_1 : decode cX6_isMade 1 = .ok (.iconst 1, 1) := by decide +kernel
theorem dX6_isMade_2 : decode cX6_isMade 2 = .ok (.if_icmp .lt 22, 3) := by decide +kernel
theorem dX6_isMade_5 : decode cX6_isMade 5 = .ok (.iload_n 1, 1) := by decide +kernel
theorem dX6_isMade_6 : decode cX6_isMade 6 = .ok (.bipush 20, 2) := by decide +kernel
theorem dX6_isMade_8 : decode cX6_isMade 8 = .ok (.if_icmp .gt 16, 3) := by decide +kernel
theorem dX6_isMade_11 : decode cX6_isMade 11 = .ok (.aload_n 0, 1) := by decide +kernel
theorem dX6_isMade_12 : decode cX6_isMade 12 = .ok (.getfield 13, 3) := by decide +kernel
theorem dX6_isMade_15 : decode cX6_isMade 15 = .ok (.iload_n 1, 1) := by decide +kernel
theorem dX6_isMade_16 : decode cX6_isMade 16 = .ok (.iaload, 1) := by decide +kernel
theorem dX6_isMade_17 : decode cX6_isMade 17 = .ok (.ifCond .le 7, 3) := by decide +kernel
theorem dX6_isMade_20 : decode cX6_isMade 20 = .ok (.iconst 1, 1) := by decide +kernel
theorem dX6_isMade_21 : decode cX6_isMade 21 = .ok (.goto 4, 3) := by decide +kernel
theorem dX6_isMade_24 : decode cX6_isMade 24 = .ok (.iconst 0, 1) := by decide +kernel
theorem dX6_isMade_25 : decode cX6_isMade 25 = .ok (.ireturn, 1) := by decide +kernel
set_option maxRecDepth 20000 in
theorem ggX6_level_X6_isMade : GoodIn wsX6_level wsX6_isMade := goodIn_ca (goodIn_r _ [11, 4, 12, 13, 14, 15, 16, 17, 18, 19, 20, 21, 22, 23, 24, 25, 26, 27, 28, 29, 30, 31, 32, 33, 34, 35, 36, 37, 38] (by decide +kernel) (by decide +kernel)) (goodIn_sub (fun _ h => List.mem_cons_of_mem _ (List.mem_append_right _ h)) (by decide +kernel))
set_option maxRecDepth 20000 in
theorem gX6_level_X6_isMade : GoodIn wsX6_level (wsV RX6 77 RX6 yX6_isMade wsX6_isMade) := goodIn_app (goodIn_of _ (by decide +kernel)) ggX6_level_X6_isMade
theorem dX6_level_0 : decode cX6_level 0 = .ok (.aload_n 0, 1) := by decide +kernel
theorem dX6_level_1 : decode cX6_level 1 = .ok (.iconst 0, 1) := by decide +kernel
theorem dX6_level_2 : decode cX6_level 2 = .ok (.putfield 71, 3) := by decide +kernel
theorem dX6_level_5 : decode cX6_level 5 = .ok (.iload_n 1, 1) := by decide +kernel
theorem dX6_level_6 : decode cX6_level 6 = .ok (.iconst 1, 1) := by decide +kernel
theorem dX6_level_7 : decode cX6_level 7 = .ok (.if_icmp .lt 9, 3) := by decide +kernel
theorem dX6_level_10 : decode cX6_level 10 = .ok (.iload_n 1, 1) := by decide +kernel
theorem dX6_level_11 : decode cX6_level 11 = .ok (.bipush 20, 2) := by decide +kernel
theorem dX6_level_13 : decode cX6_level 13 = .ok (.if_icmp .le 5, 3) := by decide +kernel
theorem dX6_level_16 : decode cX6_level 16 = .ok (.iconst (-1), 1) := by decide +kernel
theorem dX6_level_17 : decode cX6_level 17 = .ok (.ireturn, 1) := by decide +kernel
theorem dX6_level_18 : decode cX6_level 18 = .ok (.iload_n 2, 1) := by decide +kernel
theorem dX6_level_19 : decode cX6_level 19 = .ok (.ifCond .lt 35, 3) := by decide +kernel
theorem dX6_level_22 : decode cX6_level 22 = .ok (.iload_n 2, 1) := by decide +kernel
theorem dX6_level_23 : decode cX6_level 23 = .ok (.iconst 2, 1) := by decide +kernel
theorem dX6_level_24 : decode cX6_level 24 = .ok (.if_icmp .gt 30, 3) := by decide +kernel
theorem dX6_level_27 : decode cX6_level 27 = .ok (.iload_n 3, 1) := by decide +kernel
theorem dX6_level_28 : decode cX6_level 28 = .ok (.iconst 1, 1) := by decide +kernel
theorem dX6_level_29 : decode cX6_level 29 = .ok (.if_icmp .lt 25, 3) := by decide +kernel
theorem dX6_level_32 : decode cX6_level 32 = .ok (.iload_n 3, 1) := by decide +kernel
theorem dX6_level_33 : decode cX6_level 33 = .ok (.bipush 10, 2) := by decide +kernel
theorem dX6_level_35 : decode cX6_level 35 = .ok (.if_icmp .gt 19, 3) := by decide +kernel
theorem dX6_level_38 : decode cX6_level 38 = .ok (.lload 4, 2) := by decide +kernel
theorem dX6_level_40 : decode cX6_level 40 = .ok (.lconst 0, 1) := by decide +kernel
theorem dX6_level_41 : decode cX6_level 41 = .ok (.lcmp, 1) := by decide +kernel
theorem dX6_level_42 : decode cX6_level 42 = .ok (.ifCond .lt 12, 3) := by decide +kernel
theorem dX6_level_45 : decode cX6_level 45 = .ok (.lload 4, 2) := by decide +kernel
theorem dX6_level_47 : decode cX6_level 47 = .ok (.ldc2_w 75, 3) := by decide +kernel
theorem dX6_level_50 : decode cX6_level 50 = .ok (.lcmp, 1) := by decide +kernel
theorem dX6_level_51 : decode cX6_level 51 = .ok (.ifCond .le 6, 3) := by decide +kernel
theorem dX6_level_54 : decode cX6_level 54 = .ok (.bipush (-2), 2) := by decide +kernel
theorem dX6_level_56 : decode cX6_level 56 = .ok (.ireturn, 1) := by decide +kernel
theorem dX6_level_57 : decode cX6_level 57 = .ok (.aload_n 0, 1) := by decide +kernel
theorem dX6_level_58 : decode cX6_level 58 = .ok (.iload_n 1, 1) := by decide +kernel
theorem dX6_level_59 : decode cX6_level 59 = .ok (.invokevirtual 77, 3) := by decide +kernel
theorem dX6_level_62 : decode cX6_level 62 = .ok (.ifCond .eq 6, 3) := by decide +kernel
theorem dX6_level_65 : decode cX6_level 65 = .ok (.bipush (-3), 2) := by decide +kernel
theorem dX6_level_67 : decode cX6_level 67 = .ok (.ireturn, 1) := by decide +kernel
theorem dX6_level_68 : decode cX6_level 68 = .ok (.aload_n 0, 1) := by decide +kernel
theorem dX6_level_69 : decode cX6_level 69 = .ok (.getfield 7, 3) := by decide +kernel
theorem dX6_level_72 : decode cX6_level 72 = .ok (.iload_n 1, 1) := by decide +kernel
theorem dX6_level_73 : decode cX6_level 73 = .ok (.iload_n 2, 1) := by decide +kernel
theorem dX6_level_74 : decode cX6_level 74 = .ok (.iastore, 1) := by decide +kernel
theorem dX6_level_75 : decode cX6_level 75 = .ok (.aload_n 0, 1) := by decide +kernel
theorem dX6_level_76 : decode cX6_level 76 = .ok (.getfield 13, 3) := by decide +kernel
theorem dX6_level_79 : decode cX6_level 79 = .ok (.iload_n 1, 1) := by decide +kernel
theorem dX6_level_80 : decode cX6_level 80 = .ok (.iload_n 3, 1) := by decide +kernel
theorem dX6_level_81 : decode cX6_level 81 = .ok (.iastore, 1) := by decide +kernel
theorem dX6_level_82 : decode cX6_level 82 = .ok (.aload_n 0, 1) := by decide +kernel
theorem dX6_level_83 : decode cX6_level 83 = .ok (.getfield 16, 3) := by decide +kernel
theorem dX6_level_86 : decode cX6_level 86 = .ok (.iload_n 1, 1) := by decide +kernel
theorem dX6_level_87 : decode cX6_level 87 = .ok (.lload 4, 2) := by decide +kernel
theorem dX6_level_89 : decode cX6_level 89 = .ok (.lastore, 1) := by decide +kernel
theorem dX6_level_90 : decode cX6_level 90 = .ok (.aload_n 0, 1) := by decide +kernel
theorem dX6_level_91 : decode cX6_level 91 = .ok (.dup, 1) := by decide +kernel
theorem dX6_level_92 : decode cX6_level 92 = .ok (.getfield 81, 3) := by decide +kernel
theorem dX6_level_95 : decode cX6_level 95 = .ok (.iconst 1, 1) := by decide +kernel
theorem dX6_level_96 : decode cX6_level 96 = .ok (.iadd, 1) := by decide +kernel
theorem dX6_level_97 : decode cX6_level 97 = .ok (.putfield 81, 3) := by decide +kernel
theorem dX6_level_100 : decode cX6_level 100 = .ok (.aload_n 0, 1) := by decide +kernel
theorem dX6_level_101 : decode cX6_level 101 = .ok (.getfield 81, 3) := by decide +kernel
theorem dX6_level_104 : decode cX6_level 104 = .ok (.ireturn, 1) := by decide +kernel
theorem dX6_tape_0 : decode cX6_tape 0 = .ok (.aload_n 0, 1) := by decide +kernel
theorem dX6_tape_1 : decode cX6_tape 1 = .ok (.iconst 0, 1) := by decide +kernel
theorem dX6_tape_2 : decode cX6_tape 2 = .ok (.putfield 71, 3) := by decide +kernel
theorem dX6_tape_5 : decode cX6_tape 5 = .ok (.aload_n 0, 1) := by decide +kernel
theorem dX6_tape_6 : decode cX6_tape 6 = .ok (.getfield 84, 3) := by decide +kernel
theorem dX6_tape_9 : decode cX6_tape 9 = .ok (.aload_n 0, 1) := by decide +kernel
theorem dX6_tape_10 : decode cX6_tape 10 = .ok (.getfield 87, 3) := by decide +kernel
theorem dX6_tape_13 : decode cX6_tape 13 = .ok (.isub, 1) := by decide +kernel
theorem dX6_tape_14 : decode cX6_tape 14 = .ok (.sipush 200, 3) := by decide +kernel
theorem dX6_tape_17 : decode cX6_tape 17 = .ok (.if_icmp .ne 4, 3) := by decide +kernel
theorem dX6_tape_20 : decode cX6_tape 20 = .ok (.return_, 1) := by decide +kernel
theorem dX6_tape_21 : decode cX6_tape 21 = .ok (.aload_n 0, 1) := by decide +kernel
theorem dX6_tape_22 : decode cX6_tape 22 = .ok (.getfield 20, 3) := by decide +kernel
theorem dX6_tape_25 : decode cX6_tape 25 = .ok (.aload_n 0, 1) := by decide +kernel
theorem dX6_tape_26 : decode cX6_tape 26 = .ok (.getfield 84, 3) := by decide +kernel
theorem dX6_tape_29 : decode cX6_tape 29 = .ok (.iload_n 1, 1) := by decide +kernel
theorem dX6_tape_30 : decode cX6_tape 30 = .ok (.iastore, 1) := by decide +kernel
theorem dX6_tape_31 : decode cX6_tape 31 = .ok (.aload_n 0, 1) := by decide +kernel
theorem dX6_tape_32 : decode cX6_tape 32 = .ok (.dup, 1) := by decide +kernel
theorem dX6_tape_33 : decode cX6_tape 33 = .ok (.getfield 84, 3) := by decide +kernel
theorem dX6_tape_36 : decode cX6_tape 36 = .ok (.iconst 1, 1) := by decide +kernel
theorem dX6_tape_37 : decode cX6_tape 37 = .ok (.iadd, 1) := by decide +kernel
theorem dX6_tape_38 : decode cX6_tape 38 = .ok (.putfield 84, 3) := by decide +kernel
theorem dX6_tape_41 : decode cX6_tape 41 = .ok (.return_, 1) := by decide +kernel
theorem dX6_isPlain_0 : decode cX6_isPlain 0 = .ok (.iload_n 0, 1) := by decide +kernel
theorem dX6_isPlain_1 : decode cX6_isPlain 1 = .ok (.sipush 255, 3) := by decide +kernel
theorem dX6_isPlain_4 : decode cX6_isPlain 4 = .ok (.iand, 1) := by decide +kernel
theorem dX6_isPlain_5 : decode cX6_isPlain 5 = .ok (.istore_n 1, 1) := by decide +kernel
theorem dX6_isPlain_6 : decode cX6_isPlain 6 = .ok (.iload_n 1, 1) := by decide +kernel
theorem dX6_isPlain_7 : decode cX6_isPlain 7 = .ok (.iload_n 0, 1) := by decide +kernel
theorem dX6_isPlain_8 : decode cX6_isPlain 8 = .ok (.bipush 8, 2) := by decide +kernel
theorem dX6_isPlain_10 : decode cX6_isPlain 10 = .ok (.ishr, 1) := by decide +kernel
theorem dX6_isPlain_11 : decode cX6_isPlain 11 = .ok (.sipush 255, 3) := by decide +kernel
theorem dX6_isPlain_14 : decode cX6_isPlain 14 = .ok (.iand, 1) := by decide +kernel
theorem dX6_isPlain_15 : decode cX6_isPlain 15 = .ok (.if_icmp .ne 31, 3) := by decide +kernel
theorem dX6_isPlain_18 : decode cX6_isPlain 18 = .ok (.iload_n 1, 1) := by decide +kernel
theorem dX6_isPlain_19 : decode cX6_isPlain 19 = .ok (.iload_n 0, 1) := by decide +kernel
theorem dX6_isPlain_20 : decode cX6_isPlain 20 = .ok (.bipush 16, 2) := by decide +kernel
theorem dX6_isPlain_22 : decode cX6_isPlain 22 = .ok (.ishr, 1) := by decide +kernel
theorem dX6_isPlain_23 : decode cX6_isPlain 23 = .ok (.sipush 255, 3) := by decide +kernel
theorem dX6_isPlain_26 : decode cX6_isPlain 26 = .ok (.iand, 1) := by decide +kernel
theorem dX6_isPlain_27 : decode cX6_isPlain 27 = .ok (.if_icmp .ne 19, 3) := by decide +kernel
theorem dX6_isPlain_30 : decode cX6_isPlain 30 = .ok (.iload_n 1, 1) := by decide +kernel
theorem dX6_isPlain_31 : decode cX6_isPlain 31 = .ok (.iload_n 0, 1) := by decide +kernel
theorem dX6_isPlain_32 : decode cX6_isPlain 32 = .ok (.bipush 24, 2) := by decide +kernel
theorem dX6_isPlain_34 : decode cX6_isPlain 34 = .ok (.ishr, 1) := by decide +kernel
theorem dX6_isPlain_35 : decode cX6_isPlain 35 = .ok (.sipush 255, 3) := by decide +kernel
theorem dX6_isPlain_38 : decode cX6_isPlain 38 = .ok (.iand, 1) := by decide +kernel
theorem dX6_isPlain_39 : decode cX6_isPlain 39 = .ok (.if_icmp .ne 7, 3) := by decide +kernel
theorem dX6_isPlain_42 : decode cX6_isPlain 42 = .ok (.iconst 1, 1) := by decide +kernel
theorem dX6_isPlain_43 : decode cX6_isPlain 43 = .ok (.goto 4, 3) := by decide +kernel
theorem dX6_isPlain_46 : decode cX6_isPlain 46 = .ok (.iconst 0, 1) := by decide +kernel
theorem dX6_isPlain_47 : decode cX6_isPlain 47 = .ok (.ireturn, 1) := by decide +kernel
theorem dX6_wasGiven_0 : decode cX6_wasGiven 0 = .ok (.iconst 0, 1) := by decide +kernel
theorem dX6_wasGiven_1 : decode cX6_wasGiven 1 = .ok (.istore_n 2, 1) := by decide +kernel
theorem dX6_wasGiven_2 : decode cX6_wasGiven 2 = .ok (.iload_n 2, 1) := by decide +kernel
theorem dX6_wasGiven_3 : decode cX6_wasGiven 3 = .ok (.aload_n 0, 1) := by decide +kernel
theorem dX6_wasGiven_4 : decode cX6_wasGiven 4 = .ok (.getfield 90, 3) := by decide +kernel
theorem dX6_wasGiven_7 : decode cX6_wasGiven 7 = .ok (.if_icmp .ge 21, 3) := by decide +kernel
theorem dX6_wasGiven_10 : decode cX6_wasGiven 10 = .ok (.aload_n 0, 1) := by decide +kernel
theorem dX6_wasGiven_11 : decode cX6_wasGiven 11 = .ok (.getfield 23, 3) := by decide +kernel
theorem dX6_wasGiven_14 : decode cX6_wasGiven 14 = .ok (.iload_n 2, 1) := by decide +kernel
theorem dX6_wasGiven_15 : decode cX6_wasGiven 15 = .ok (.iaload, 1) := by decide +kernel
theorem dX6_wasGiven_16 : decode cX6_wasGiven 16 = .ok (.iload_n 1, 1) := by decide +kernel
theorem dX6_wasGiven_17 : decode cX6_wasGiven 17 = .ok (.if_icmp .ne 5, 3) := by decide +kernel
theorem dX6_wasGiven_20 : decode cX6_wasGiven 20 = .ok (.iconst 1, 1) := by decide +kernel
theorem dX6_wasGiven_21 : decode cX6_wasGiven 21 = .ok (.ireturn, 1) := by decide +kernel
theorem dX6_wasGiven_22 : decode cX6_wasGiven 22 = .ok (.iinc 2 1, 3) := by decide +kernel
theorem dX6_wasGiven_25 : decode cX6_wasGiven 25 = .ok (.goto (-23), 3) := by decide +kernel
theorem dX6_wasGiven_28 : decode cX6_wasGiven 28 = .ok (.iconst 0, 1) := by decide +kernel
theorem dX6_wasGiven_29 : decode cX6_wasGiven 29 = .ok (.ireturn, 1) := by decide +kernel
theorem dX6_note_0 : decode cX6_note 0 = .ok (.aload_n 0, 1) := by decide +kernel
theorem dX6_note_1 : decode cX6_note 1 = .ok (.getfield 93, 3) := by decide +kernel
theorem dX6_note_4 : decode cX6_note 4 = .ok (.sipush 300, 3) := by decide +kernel
theorem dX6_note_7 : decode cX6_note 7 = .ok (.if_icmp .ge 38, 3) := by decide +kernel
theorem dX6_note_10 : decode cX6_note 10 = .ok (.aload_n 0, 1) := by decide +kernel
theorem dX6_note_11 : decode cX6_note 11 = .ok (.getfield 62, 3) := by decide +kernel
theorem dX6_note_14 : decode cX6_note 14 = .ok (.aload_n 0, 1) := by decide +kernel
theorem dX6_note_15 : decode cX6_note 15 = .ok (.getfield 93, 3) := by decide +kernel
theorem dX6_note_18 : decode cX6_note 18 = .ok (.aload_n 0, 1) := by decide +kernel
theorem dX6_note_19 : decode cX6_note 19 = .ok (.getfield 96, 3) := by decide +kernel
theorem dX6_note_22 : decode cX6_note 22 = .ok (.iconst 1, 1) := by decide +kernel
theorem dX6_note_23 : decode cX6_note 23 = .ok (.iadd, 1) := by decide +kernel
theorem dX6_note_24 : decode cX6_note 24 = .ok (.iastore, 1) := by decide +kernel
theorem dX6_note_25 : decode cX6_note 25 = .ok (.aload_n 0, 1) := by decide +kernel
theorem dX6_note_26 : decode cX6_note 26 = .ok (.getfield 65, 3) := by decide +kernel
theorem dX6_note_29 : decode cX6_note 29 = .ok (.aload_n 0, 1) := by decide +kernel
theorem dX6_note_30 : decode cX6_note 30 = .ok (.getfield 93, 3) := by decide +kernel
theorem dX6_note_33 : decode cX6_note 33 = .ok (.iload_n 1, 1) := by decide +kernel
theorem dX6_note_34 : decode cX6_note 34 = .ok (.iastore, 1) := by decide +kernel
theorem dX6_note_35 : decode cX6_note 35 = .ok (.aload_n 0, 1) := by decide +kernel
theorem dX6_note_36 : decode cX6_note 36 = .ok (.getfield 68, 3) := by decide +kernel
theorem dX6_note_39 : decode cX6_note 39 = .ok (.aload_n 0, 1) := by decide +kernel
theorem dX6_note_40 : decode cX6_note 40 = .ok (.getfield 93, 3) := by decide +kernel
theorem dX6_note_43 : decode cX6_note 43 = .ok (.iload_n 2, 1) := by decide +kernel
theorem dX6_note_44 : decode cX6_note 44 = .ok (.iastore, 1) := by decide +kernel
theorem dX6_note_45 : decode cX6_note 45 = .ok (.aload_n 0, 1) := by decide +kernel
theorem dX6_note_46 : decode cX6_note 46 = .ok (.dup, 1) := by decide +kernel
theorem dX6_note_47 : decode cX6_note 47 = .ok (.getfield 93, 3) := by decide +kernel
theorem dX6_note_50 : decode cX6_note 50 = .ok (.iconst 1, 1) := by decide +kernel
theorem dX6_note_51 : decode cX6_note 51 = .ok (.iadd, 1) := by decide +kernel
theorem dX6_note_52 : decode cX6_note 52 = .ok (.putfield 93, 3) := by decide +kernel
theorem dX6_note_55 : decode cX6_note 55 = .ok (.iload_n 2, 1) := by decide +kernel
theorem dX6_note_56 : decode cX6_note 56 = .ok (.ireturn, 1) := by decide +kernel
set_option maxRecDepth 20000 in
theorem ggX6_asked_X6_isPlain : GoodIn wsX6_asked wsX6_isPlain := goodIn_r _ [18] (by decide +kernel) (by decide +kernel)
set_option maxRecDepth 20000 in
theorem gX6_asked_X6_isPlain : GoodIn wsX6_asked (va_wsS RX6 103 yX6_isPlain wsX6_isPlain) := goodIn_app (goodIn_of _ (by decide +kernel)) ggX6_asked_X6_isPlain
set_option maxRecDepth 20000 in
theorem ggX6_asked_X6_wasGiven : GoodIn wsX6_asked wsX6_wasGiven := goodIn_ca (goodIn_r _ [22, 12, 11, 23, 24, 25, 26, 27, 28, 29, 30, 31, 32, 33, 34, 35, 36, 37, 38, 39, 40, 41, 42, 43, 44, 45, 46, 47, 48, 49] (by decide +kernel) (by decide +kernel)) (goodIn_sub (fun _ h => List.mem_cons_of_mem _ (List.mem_append_right _ h)) (by decide +kernel))
set_option maxRecDepth 20000 in
theorem gX6_asked_X6_wasGiven : GoodIn wsX6_asked (wsV RX6 106 RX6 yX6_wasGiven wsX6_wasGiven) := goodIn_app (goodIn_of _ (by decide +kernel)) ggX6_asked_X6_wasGiven
theorem dX6_asked_0 : decode cX6_asked 0 = .ok (.aload_n 0, 1) := by decide +kernel
theorem dX6_asked_1 : decode cX6_asked 1 = .ok (.getfield 26, 3) := by decide +kernel
theorem dX6_asked_4 : decode cX6_asked 4 = .ok (.aload_n 0, 1) := by decide +kernel
theorem dX6_asked_5 : decode cX6_asked 5 = .ok (.getfield 96, 3) := by decide +kernel
theorem dX6_asked_8 : decode cX6_asked 8 = .ok (.iaload, 1) := by decide +kernel
theorem dX6_asked_9 : decode cX6_asked 9 = .ok (.istore_n 2, 1) := by decide +kernel
theorem dX6_asked_10 : decode cX6_asked 10 = .ok (.iload_n 2, 1) := by decide +kernel
theorem dX6_asked_11 : decode cX6_asked 11 = .ok (.iload_n 1, 1) := by decide +kernel
theorem dX6_asked_12 : decode cX6_asked 12 = .ok (.bipush 11, 2) := by decide +kernel
theorem dX6_asked_14 : decode cX6_asked 14 = .ok (.if_icmp .ge 7, 3) := by decide +kernel
theorem dX6_asked_17 : decode cX6_asked 17 = .ok (.iconst 2, 1) := by decide +kernel
theorem dX6_asked_18 : decode cX6_asked 18 = .ok (.goto 4, 3) := by decide +kernel
theorem dX6_asked_21 : decode cX6_asked 21 = .ok (.iconst 3, 1) := by decide +kernel
theorem dX6_asked_22 : decode cX6_asked 22 = .ok (.if_icmp .ge 6, 3) := by decide +kernel
theorem dX6_asked_25 : decode cX6_asked 25 = .ok (.bipush (-18), 2) := by decide +kernel
theorem dX6_asked_27 : decode cX6_asked 27 = .ok (.ireturn, 1) := by decide +kernel
theorem dX6_asked_28 : decode cX6_asked 28 = .ok (.iload_n 1, 1) := by decide +kernel
theorem dX6_asked_29 : decode cX6_asked 29 = .ok (.bipush 10, 2) := by decide +kernel
theorem dX6_asked_31 : decode cX6_asked 31 = .ok (.if_icmp .le 23, 3) := by decide +kernel
theorem dX6_asked_34 : decode cX6_asked 34 = .ok (.aload_n 0, 1) := by decide +kernel
theorem dX6_asked_35 : decode cX6_asked 35 = .ok (.getfield 99, 3) := by decide +kernel
theorem dX6_asked_38 : decode cX6_asked 38 = .ok (.aload_n 0, 1) := by decide +kernel
theorem dX6_asked_39 : decode cX6_asked 39 = .ok (.getfield 31, 3) := by decide +kernel
theorem dX6_asked_42 : decode cX6_asked 42 = .ok (.aload_n 0, 1) := by decide +kernel
theorem dX6_asked_43 : decode cX6_asked 43 = .ok (.getfield 96, 3) := by decide +kernel
theorem dX6_asked_46 : decode cX6_asked 46 = .ok (.laload, 1) := by decide +kernel
theorem dX6_asked_47 : decode cX6_asked 47 = .ok (.lcmp, 1) := by decide +kernel
theorem dX6_asked_48 : decode cX6_asked 48 = .ok (.ifCond .lt 6, 3) := by decide +kernel
theorem dX6_asked_51 : decode cX6_asked 51 = .ok (.bipush (-51), 2) := by decide +kernel
theorem dX6_asked_53 : decode cX6_asked 53 = .ok (.ireturn, 1) := by decide +kernel
theorem dX6_asked_54 : decode cX6_asked 54 = .ok (.aload_n 0, 1) := by decide +kernel
theorem dX6_asked_55 : decode cX6_asked 55 = .ok (.getfield 34, 3) := by decide +kernel
theorem dX6_asked_58 : decode cX6_asked 58 = .ok (.aload_n 0, 1) := by decide +kernel
theorem dX6_asked_59 : decode cX6_asked 59 = .ok (.getfield 96, 3) := by decide +kernel
theorem dX6_asked_62 : decode cX6_asked 62 = .ok (.iaload, 1) := by decide +kernel
theorem dX6_asked_63 : decode cX6_asked 63 = .ok (.iload_n 1, 1) := by decide +kernel
theorem dX6_asked_64 : decode cX6_asked 64 = .ok (.if_icmp .ne 15, 3) := by decide +kernel
theorem dX6_asked_67 : decode cX6_asked 67 = .ok (.aload_n 0, 1) := by decide +kernel
theorem dX6_asked_68 : decode cX6_asked 68 = .ok (.getfield 43, 3) := by decide +kernel
theorem dX6_asked_71 : decode cX6_asked 71 = .ok (.aload_n 0, 1) := by decide +kernel
theorem dX6_asked_72 : decode cX6_asked 72 = .ok (.getfield 96, 3) := by decide +kernel
theorem dX6_asked_75 : decode cX6_asked 75 = .ok (.iconst 0, 1) := by decide +kernel
theorem dX6_asked_76 : decode cX6_asked 76 = .ok (.iastore, 1) := by decide +kernel
theorem dX6_asked_77 : decode cX6_asked 77 = .ok (.iconst 4, 1) := by decide +kernel
theorem dX6_asked_78 : decode cX6_asked 78 = .ok (.ireturn, 1) := by decide +kernel
theorem dX6_asked_79 : decode cX6_asked 79 = .ok (.aload_n 0, 1) := by decide +kernel
theorem dX6_asked_80 : decode cX6_asked 80 = .ok (.getfield 99, 3) := by decide +kernel
theorem dX6_asked_83 : decode cX6_asked 83 = .ok (.aload_n 0, 1) := by decide +kernel
theorem dX6_asked_84 : decode cX6_asked 84 = .ok (.getfield 55, 3) := by decide +kernel
theorem dX6_asked_87 : decode cX6_asked 87 = .ok (.bipush 21, 2) := by decide +kernel
theorem dX6_asked_89 : decode cX6_asked 89 = .ok (.aload_n 0, 1) := by decide +kernel
theorem dX6_asked_90 : decode cX6_asked 90 = .ok (.getfield 96, 3) := by decide +kernel
theorem dX6_asked_93 : decode cX6_asked 93 = .ok (.imul, 1) := by decide +kernel
theorem dX6_asked_94 : decode cX6_asked 94 = .ok (.iload_n 1, 1) := by decide +kernel
theorem dX6_asked_95 : decode cX6_asked 95 = .ok (.iadd, 1) := by decide +kernel
theorem dX6_asked_96 : decode cX6_asked 96 = .ok (.laload, 1) := by decide +kernel
theorem dX6_asked_97 : decode cX6_asked 97 = .ok (.lcmp, 1) := by decide +kernel
theorem dX6_asked_98 : decode cX6_asked 98 = .ok (.ifCond .ge 6, 3) := by decide +kernel
theorem dX6_asked_101 : decode cX6_asked 101 = .ok (.bipush (-55), 2) := by decide +kernel
theorem dX6_asked_103 : decode cX6_asked 103 = .ok (.ireturn, 1) := by decide +kernel
theorem dX6_asked_104 : decode cX6_asked 104 = .ok (.aload_n 0, 1) := by decide +kernel
theorem dX6_asked_105 : decode cX6_asked 105 = .ok (.getfield 87, 3) := by decide +kernel
theorem dX6_asked_108 : decode cX6_asked 108 = .ok (.aload_n 0, 1) := by decide +kernel
theorem dX6_asked_109 : decode cX6_asked 109 = .ok (.getfield 84, 3) := by decide +kernel
theorem dX6_asked_112 : decode cX6_asked 112 = .ok (.if_icmp .ge 47, 3) := by decide +kernel
theorem dX6_asked_115 : decode cX6_asked 115 = .ok (.aload_n 0, 1) := by decide +kernel
theorem dX6_asked_116 : decode cX6_asked 116 = .ok (.getfield 20, 3) := by decide +kernel
theorem dX6_asked_119 : decode cX6_asked 119 = .ok (.aload_n 0, 1) := by decide +kernel
theorem dX6_asked_120 : decode cX6_asked 120 = .ok (.getfield 87, 3) := by decide +kernel
theorem dX6_asked_123 : decode cX6_asked 123 = .ok (.iaload, 1) := by decide +kernel
theorem dX6_asked_124 : decode cX6_asked 124 = .ok (.invokestatic 103, 3) := by decide +kernel
theorem dX6_asked_127 : decode cX6_asked 127 = .ok (.ifCond .ne 19, 3) := by decide +kernel
theorem dX6_asked_130 : decode cX6_asked 130 = .ok (.aload_n 0, 1) := by decide +kernel
theorem dX6_asked_131 : decode cX6_asked 131 = .ok (.aload_n 0, 1) := by decide +kernel
theorem dX6_asked_132 : decode cX6_asked 132 = .ok (.getfield 20, 3) := by decide +kernel
theorem dX6_asked_135 : decode cX6_asked 135 = .ok (.aload_n 0, 1) := by decide +kernel
theorem dX6_asked_136 : decode cX6_asked 136 = .ok (.getfield 87, 3) := by decide +kernel
theorem dX6_asked_139 : decode cX6_asked 139 = .ok (.iaload, 1) := by decide +kernel
theorem dX6_asked_140 : decode cX6_asked 140 = .ok (.invokevirtual 106, 3) := by decide +kernel
theorem dX6_asked_143 : decode cX6_asked 143 = .ok (.ifCond .eq 16, 3) := by decide +kernel
theorem dX6_asked_146 : decode cX6_asked 146 = .ok (.aload_n 0, 1) := by decide +kernel
theorem dX6_asked_147 : decode cX6_asked 147 = .ok (.dup, 1) := by decide +kernel
theorem dX6_asked_148 : decode cX6_asked 148 = .ok (.getfield 87, 3) := by decide +kernel
theorem dX6_asked_151 : decode cX6_asked 151 = .ok (.iconst 1, 1) := by decide +kernel
theorem dX6_asked_152 : decode cX6_asked 152 = .ok (.iadd, 1) := by decide +kernel
theorem dX6_asked_153 : decode cX6_asked 153 = .ok (.putfield 87, 3) := by decide +kernel
theorem dX6_asked_156 : decode cX6_asked 156 = .ok (.goto (-52), 3) := by decide +kernel
theorem dX6_asked_159 : decode cX6_asked 159 = .ok (.aload_n 0, 1) := by decide +kernel
theorem dX6_asked_160 : decode cX6_asked 160 = .ok (.getfield 87, 3) := by decide +kernel
theorem dX6_asked_163 : decode cX6_asked 163 = .ok (.aload_n 0, 1) := by decide +kernel
theorem dX6_asked_164 : decode cX6_asked 164 = .ok (.getfield 84, 3) := by decide +kernel
theorem dX6_asked_167 : decode cX6_asked 167 = .ok (.if_icmp .ne 6, 3) := by decide +kernel
theorem dX6_asked_170 : decode cX6_asked 170 = .ok (.bipush (-34), 2) := by decide +kernel
theorem dX6_asked_172 : decode cX6_asked 172 = .ok (.ireturn, 1) := by decide +kernel
theorem dX6_asked_173 : decode cX6_asked 173 = .ok (.aload_n 0, 1) := by decide +kernel
theorem dX6_asked_174 : decode cX6_asked 174 = .ok (.getfield 20, 3) := by decide +kernel
theorem dX6_asked_177 : decode cX6_asked 177 = .ok (.aload_n 0, 1) := by decide +kernel
theorem dX6_asked_178 : decode cX6_asked 178 = .ok (.getfield 87, 3) := by decide +kernel
theorem dX6_asked_181 : decode cX6_asked 181 = .ok (.iaload, 1) := by decide +kernel
theorem dX6_asked_182 : decode cX6_asked 182 = .ok (.istore_n 3, 1) := by decide +kernel
theorem dX6_asked_183 : decode cX6_asked 183 = .ok (.aload_n 0, 1) := by decide +kernel
theorem dX6_asked_184 : decode cX6_asked 184 = .ok (.dup, 1) := by decide +kernel
theorem dX6_asked_185 : decode cX6_asked 185 = .ok (.getfield 87, 3) := by decide +kernel
theorem dX6_asked_188 : decode cX6_asked 188 = .ok (.iconst 1, 1) := by decide +kernel
theorem dX6_asked_189 : decode cX6_asked 189 = .ok (.iadd, 1) := by decide +kernel
theorem dX6_asked_190 : decode cX6_asked 190 = .ok (.putfield 87, 3) := by decide +kernel
theorem dX6_asked_193 : decode cX6_asked 193 = .ok (.aload_n 0, 1) := by decide +kernel
theorem dX6_asked_194 : decode cX6_asked 194 = .ok (.getfield 23, 3) := by decide +kernel
theorem dX6_asked_197 : decode cX6_asked 197 = .ok (.aload_n 0, 1) := by decide +kernel
theorem dX6_asked_198 : decode cX6_asked 198 = .ok (.getfield 90, 3) := by decide +kernel
theorem dX6_asked_201 : decode cX6_asked 201 = .ok (.iload_n 3, 1) := by decide +kernel
theorem dX6_asked_202 : decode cX6_asked 202 = .ok (.iastore, 1) := by decide +kernel
theorem dX6_asked_203 : decode cX6_asked 203 = .ok (.aload_n 0, 1) := by decide +kernel
theorem dX6_asked_204 : decode cX6_asked 204 = .ok (.dup, 1) := by decide +kernel
theorem dX6_asked_205 : decode cX6_asked 205 = .ok (.getfield 90, 3) := by decide +kernel
theorem dX6_asked_208 : decode cX6_asked 208 = .ok (.iconst 1, 1) := by decide +kernel
theorem dX6_asked_209 : decode cX6_asked 209 = .ok (.iadd, 1) := by decide +kernel
theorem dX6_asked_210 : decode cX6_asked 210 = .ok (.putfield 90, 3) := by decide +kernel
theorem dX6_asked_213 : decode cX6_asked 213 = .ok (.aload_n 0, 1) := by decide +kernel
theorem dX6_asked_214 : decode cX6_asked 214 = .ok (.getfield 43, 3) := by decide +kernel
theorem dX6_asked_217 : decode cX6_asked 217 = .ok (.aload_n 0, 1) := by decide +kernel
theorem dX6_asked_218 : decode cX6_asked 218 = .ok (.getfield 96, 3) := by decide +kernel
theorem dX6_asked_221 : decode cX6_asked 221 = .ok (.iload_n 3, 1) := by decide +kernel
theorem dX6_asked_222 : decode cX6_asked 222 = .ok (.iastore, 1) := by decide +kernel
theorem dX6_asked_223 : decode cX6_asked 223 = .ok (.aload_n 0, 1) := by decide +kernel
theorem dX6_asked_224 : decode cX6_asked 224 = .ok (.getfield 37, 3) := by decide +kernel
theorem dX6_asked_227 : decode cX6_asked 227 = .ok (.aload_n 0, 1) := by decide +kernel
theorem dX6_asked_228 : decode cX6_asked 228 = .ok (.getfield 96, 3) := by decide +kernel
theorem dX6_asked_231 : decode cX6_asked 231 = .ok (.iload_n 1, 1) := by decide +kernel
theorem dX6_asked_232 : decode cX6_asked 232 = .ok (.iastore, 1) := by decide +kernel
theorem dX6_asked_233 : decode cX6_asked 233 = .ok (.aload_n 0, 1) := by decide +kernel
theorem dX6_asked_234 : decode cX6_asked 234 = .ok (.getfield 40, 3) := by decide +kernel
theorem dX6_asked_237 : decode cX6_asked 237 = .ok (.aload_n 0, 1) := by decide +kernel
theorem dX6_asked_238 : decode cX6_asked 238 = .ok (.getfield 96, 3) := by decide +kernel
theorem dX6_asked_241 : decode cX6_asked 241 = .ok (.iload_n 3, 1) := by decide +kernel
theorem dX6_asked_242 : decode cX6_asked 242 = .ok (.iastore, 1) := by decide +kernel
theorem dX6_asked_243 : decode cX6_asked 243 = .ok (.iconst 4, 1) := by decide +kernel
theorem dX6_asked_244 : decode cX6_asked 244 = .ok (.ireturn, 1) := by decide +kernel
set_option maxRecDepth 20000 in
theorem ggX6_seed_X6_isMade : GoodIn wsX6_seed wsX6_isMade := goodIn_ca (goodIn_r _ [8, 9, 42, 43, 44, 45, 46, 47, 48, 49, 50, 51, 52, 53, 54, 55, 56, 57, 58, 59, 60, 61, 62, 63, 64, 65, 66, 67, 68] (by decide +kernel) (by decide +kernel)) (goodIn_sub (fun _ h => List.mem_cons_of_mem _ (List.mem_append_right _ h)) (by decide +kernel))
set_option maxRecDepth 20000 in
theorem gX6_seed_X6_isMade : GoodIn wsX6_seed (wsV RX6 77 RX6 yX6_isMade wsX6_isMade) := goodIn_app (goodIn_of _ (by decide +kernel)) ggX6_seed_X6_isMade
set_option maxRecDepth 20000 in
theorem ggX6_seed_X6_asked : GoodIn wsX6_seed wsX6_asked := goodIn_ca (goodIn_r _ [13, 14, 15, 2, 16, 17, 18, 19, 20, 21, 22, 23, 24, 25, 26, 27, 28, 7, 29, 30, 31, 32, 33, 42, 43, 44, 45, 46, 47, 48, 49, 50, 51, 52, 53, 54, 55, 56, 57, 58, 59, 60, 61, 62, 63, 64, 65, 66, 67, 68] (by decide +kernel) (by decide +kernel)) (goodIn_sub (fun _ h => List.mem_cons_of_mem _ (List.mem_append_right _ h)) (by decide +kernel))
set_option maxRecDepth 20000 in
theorem gX6_seed_X6_asked : GoodIn wsX6_seed (wsV RX6 111 RX6 yX6_asked wsX6_asked) := goodIn_app (goodIn_of _ (by decide +kernel)) ggX6_seed_X6_asked
set_option maxRecDepth 20000 in
theorem ggX6_seed_X6_note : GoodIn wsX6_seed wsX6_note := goodIn_ca (goodIn_r _ [37, 38, 39, 15, 40, 41, 42, 43, 44, 45, 46, 47, 48, 49, 50, 51, 52, 53, 54, 55, 56, 57, 58, 59, 60, 61, 62, 63, 64, 65, 66, 67, 68] (by decide +kernel) (by decide +kernel)) (goodIn_sub (fun _ h => List.mem_cons_of_mem _ (List.mem_append_right _ h)) (by decide +kernel))
set_option maxRecDepth 20000 in
theorem gX6_seed_X6_note : GoodIn wsX6_seed (wsV RX6 115 RX6 yX6_note wsX6_note) := goodIn_app (goodIn_of _ (by decide +kernel)) ggX6_seed_X6_note
theorem dX6_seed_0 : decode cX6_seed 0 = .ok (.aload_n 0, 1) := by decide +kernel
theorem dX6_seed_1 : decode cX6_seed 1 = .ok (.iconst 0, 1) := by decide +kernel
theorem dX6_seed_2 : decode cX6_seed 2 = .ok (.putfield 71, 3) := by decide +kernel
theorem dX6_seed_5 : decode cX6_seed 5 = .ok (.aload_n 0, 1) := by decide +kernel
theorem dX6_seed_6 : decode cX6_seed 6 = .ok (.iload_n 1, 1) := by decide +kernel
theorem dX6_seed_7 : decode cX6_seed 7 = .ok (.invokevirtual 77, 3) := by decide +kernel
theorem dX6_seed_10 : decode cX6_seed 10 = .ok (.ifCond .ne 5, 3) := by decide +kernel
theorem dX6_seed_13 : decode cX6_seed 13 = .ok (.iconst (-1), 1) := by decide +kernel
theorem dX6_seed_14 : decode cX6_seed 14 = .ok (.ireturn, 1) := by decide +kernel
theorem dX6_seed_15 : decode cX6_seed 15 = .ok (.lload_n 2, 1) := by decide +kernel
theorem dX6_seed_16 : decode cX6_seed 16 = .ok (.aload_n 0, 1) := by decide +kernel
theorem dX6_seed_17 : decode cX6_seed 17 = .ok (.getfield 99, 3) := by decide +kernel
theorem dX6_seed_20 : decode cX6_seed 20 = .ok (.lcmp, 1) := by decide +kernel
theorem dX6_seed_21 : decode cX6_seed 21 = .ok (.ifCond .lt 11, 3) := by decide +kernel
theorem dX6_seed_24 : decode cX6_seed 24 = .ok (.lload_n 2, 1) := by decide +kernel
theorem dX6_seed_25 : decode cX6_seed 25 = .ok (.ldc2_w 109, 3) := by decide +kernel
theorem dX6_seed_28 : decode cX6_seed 28 = .ok (.lcmp, 1) := by decide +kernel
theorem dX6_seed_29 : decode cX6_seed 29 = .ok (.ifCond .le 6, 3) := by decide +kernel
theorem dX6_seed_32 : decode cX6_seed 32 = .ok (.bipush (-2), 2) := by decide +kernel
theorem dX6_seed_34 : decode cX6_seed 34 = .ok (.ireturn, 1) := by decide +kernel
theorem dX6_seed_35 : decode cX6_seed 35 = .ok (.aload_n 0, 1) := by decide +kernel
theorem dX6_seed_36 : decode cX6_seed 36 = .ok (.lload_n 2, 1) := by decide +kernel
theorem dX6_seed_37 : decode cX6_seed 37 = .ok (.putfield 99, 3) := by decide +kernel
theorem dX6_seed_40 : decode cX6_seed 40 = .ok (.aload_n 0, 1) := by decide +kernel
theorem dX6_seed_41 : decode cX6_seed 41 = .ok (.iload_n 1, 1) := by decide +kernel
theorem dX6_seed_42 : decode cX6_seed 42 = .ok (.aload_n 0, 1) := by decide +kernel
theorem dX6_seed_43 : decode cX6_seed 43 = .ok (.iload_n 1, 1) := by decide +kernel
theorem dX6_seed_44 : decode cX6_seed 44 = .ok (.invokevirtual 111, 3) := by decide +kernel
theorem dX6_seed_47 : decode cX6_seed 47 = .ok (.invokevirtual 115, 3) := by decide +kernel
theorem dX6_seed_50 : decode cX6_seed 50 = .ok (.ireturn, 1) := by decide +kernel
theorem dX6_keyTo_0 : decode cX6_keyTo 0 = .ok (.aload_n 0, 1) := by decide +kernel
theorem dX6_keyTo_1 : decode cX6_keyTo 1 = .ok (.getfield 7, 3) := by decide +kernel
theorem dX6_keyTo_4 : decode cX6_keyTo 4 = .ok (.iload_n 1, 1) := by decide +kernel
theorem dX6_keyTo_5 : decode cX6_keyTo 5 = .ok (.iaload, 1) := by decide +kernel
theorem dX6_keyTo_6 : decode cX6_keyTo 6 = .ok (.ifCond .ne 8, 3) := by decide +kernel
theorem dX6_keyTo_9 : decode cX6_keyTo 9 = .ok (.iload_n 2, 1) := by decide +kernel
theorem dX6_keyTo_10 : decode cX6_keyTo 10 = .ok (.ldc 119, 2) := by decide +kernel
theorem dX6_keyTo_12 : decode cX6_keyTo 12 = .ok (.ixor, 1) := by decide +kernel
theorem dX6_keyTo_13 : decode cX6_keyTo 13 = .ok (.ireturn, 1) := by decide +kernel
theorem dX6_keyTo_14 : decode cX6_keyTo 14 = .ok (.aload_n 0, 1) := by decide +kernel
theorem dX6_keyTo_15 : decode cX6_keyTo 15 = .ok (.getfield 7, 3) := by decide +kernel
theorem dX6_keyTo_18 : decode cX6_keyTo 18 = .ok (.iload_n 1, 1) := by decide +kernel
theorem dX6_keyTo_19 : decode cX6_keyTo 19 = .ok (.iaload, 1) := by decide +kernel
theorem dX6_keyTo_20 : decode cX6_keyTo 20 = .ok (.iconst 1, 1) := by decide +kernel
theorem dX6_keyTo_21 : decode cX6_keyTo 21 = .ok (.if_icmp .ne 18, 3) := by decide +kernel
theorem dX6_keyTo_24 : decode cX6_keyTo 24 = .ok (.iload_n 2, 1) := by decide +kernel
theorem dX6_keyTo_25 : decode cX6_keyTo 25 = .ok (.bipush 7, 2) := by decide +kernel
theorem dX6_keyTo_27 : decode cX6_keyTo 27 = .ok (.ishl, 1) := by decide +kernel
theorem dX6_keyTo_28 : decode cX6_keyTo 28 = .ok (.iload_n 2, 1) := by decide +kernel
theorem dX6_keyTo_29 : decode cX6_keyTo 29 = .ok (.bipush 25, 2) := by decide +kernel
theorem dX6_keyTo_31 : decode cX6_keyTo 31 = .ok (.iushr, 1) := by decide +kernel
theorem dX6_keyTo_32 : decode cX6_keyTo 32 = .ok (.ior, 1) := by decide +kernel
theorem dX6_keyTo_33 : decode cX6_keyTo 33 = .ok (.ldc 120, 2) := by decide +kernel
theorem dX6_keyTo_35 : decode cX6_keyTo 35 = .ok (.imul, 1) := by decide +kernel
theorem dX6_keyTo_36 : decode cX6_keyTo 36 = .ok (.iload_n 1, 1) := by decide +kernel
theorem dX6_keyTo_37 : decode cX6_keyTo 37 = .ok (.iadd, 1) := by decide +kernel
theorem dX6_keyTo_38 : decode cX6_keyTo 38 = .ok (.ireturn, 1) := by decide +kernel
theorem dX6_keyTo_39 : decode cX6_keyTo 39 = .ok (.iload_n 2, 1) := by decide +kernel
theorem dX6_keyTo_40 : decode cX6_keyTo 40 = .ok (.iload_n 1, 1) := by decide +kernel
theorem dX6_keyTo_41 : decode cX6_keyTo 41 = .ok (.ixor, 1) := by decide +kernel
theorem dX6_keyTo_42 : decode cX6_keyTo 42 = .ok (.istore_n 3, 1) := by decide +kernel
theorem dX6_keyTo_43 : decode cX6_keyTo 43 = .ok (.iconst 0, 1) := by decide +kernel
theorem dX6_keyTo_44 : decode cX6_keyTo 44 = .ok (.istore 4, 2) := by decide +kernel
theorem dX6_keyTo_46 : decode cX6_keyTo 46 = .ok (.iload 4, 2) := by decide +kernel
theorem dX6_keyTo_48 : decode cX6_keyTo 48 = .ok (.bipush 32, 2) := by decide +kernel
theorem dX6_keyTo_50 : decode cX6_keyTo 50 = .ok (.if_icmp .ge 28, 3) := by decide +kernel
theorem dX6_keyTo_53 : decode cX6_keyTo 53 = .ok (.iload_n 3, 1) := by decide +kernel
theorem dX6_keyTo_54 : decode cX6_keyTo 54 = .ok (.iconst 2, 1) := by decide +kernel
theorem dX6_keyTo_55 : decode cX6_keyTo 55 = .ok (.irem, 1) := by decide +kernel
theorem dX6_keyTo_56 : decode cX6_keyTo 56 = .ok (.ifCond .ne 9, 3) := by decide +kernel
theorem dX6_keyTo_59 : decode cX6_keyTo 59 = .ok (.iload_n 3, 1) := by decide +kernel
theorem dX6_keyTo_60 : decode cX6_keyTo 60 = .ok (.iconst 1, 1) := by decide +kernel
theorem dX6_keyTo_61 : decode cX6_keyTo 61 = .ok (.iushr, 1) := by decide +kernel
theorem dX6_keyTo_62 : decode cX6_keyTo 62 = .ok (.goto 9, 3) := by decide +kernel
theorem dX6_keyTo_65 : decode cX6_keyTo 65 = .ok (.iload_n 3, 1) := by decide +kernel
theorem dX6_keyTo_66 : decode cX6_keyTo 66 = .ok (.iconst 1, 1) := by decide +kernel
theorem dX6_keyTo_67 : decode cX6_keyTo 67 = .ok (.iushr, 1) := by decide +kernel
theorem dX6_keyTo_68 : decode cX6_keyTo 68 = .ok (.ldc 121, 2) := by decide +kernel
theorem dX6_keyTo_70 : decode cX6_keyTo 70 = .ok (.ixor, 1) := by decide +kernel
theorem dX6_keyTo_71 : decode cX6_keyTo 71 = .ok (.istore_n 3, 1) := by decide +kernel
theorem dX6_keyTo_72 : decode cX6_keyTo 72 = .ok (.iinc 4 1, 3) := by decide +kernel
theorem dX6_keyTo_75 : decode cX6_keyTo 75 = .ok (.goto (-29), 3) := by decide +kernel
theorem dX6_keyTo_78 : decode cX6_keyTo 78 = .ok (.iload_n 3, 1) := by decide +kernel
theorem dX6_keyTo_79 : decode cX6_keyTo 79 = .ok (.ireturn, 1) := by decide +kernel
set_option maxRecDepth 20000 in
theorem ggX6_came_X6_keyTo : GoodIn wsX6_came wsX6_keyTo := goodIn_ca (goodIn_r _ [15, 16, 17, 18, 19, 20, 21, 22, 23, 24, 25, 26, 27, 28, 29, 30, 31, 32, 33, 34, 35, 36, 37, 38, 39, 40, 41, 42, 43, 44, 45, 46] (by decide +kernel) (by decide +kernel)) (goodIn_sub (fun _ h => List.mem_cons_of_mem _ (List.mem_append_right _ h)) (by decide +kernel))
set_option maxRecDepth 20000 in
theorem gX6_came_X6_keyTo : GoodIn wsX6_came (wsV RX6 122 RX6 yX6_keyTo wsX6_keyTo) := goodIn_app (goodIn_of _ (by decide +kernel)) ggX6_came_X6_keyTo
theorem dX6_came_0 : decode cX6_came 0 = .ok (.iload_n 2, 1) := by decide +kernel
theorem dX6_came_1 : decode cX6_came 1 = .ok (.iconst 4, 1) := by decide +kernel
theorem dX6_came_2 : decode cX6_came 2 = .ok (.if_icmp .eq 6, 3) := by decide +kernel
theorem dX6_came_5 : decode cX6_came 5 = .ok (.bipush (-19), 2) := by decide +kernel
theorem dX6_came_7 : decode cX6_came 7 = .ok (.ireturn, 1) := by decide +kernel
theorem dX6_came_8 : decode cX6_came 8 = .ok (.aload_n 0, 1) := by decide +kernel
theorem dX6_came_9 : decode cX6_came 9 = .ok (.getfield 37, 3) := by decide +kernel
theorem dX6_came_12 : decode cX6_came 12 = .ok (.aload_n 0, 1) := by decide +kernel
theorem dX6_came_13 : decode cX6_came 13 = .ok (.getfield 96, 3) := by decide +kernel
theorem dX6_came_16 : decode cX6_came 16 = .ok (.iaload, 1) := by decide +kernel
theorem dX6_came_17 : decode cX6_came 17 = .ok (.iload_n 1, 1) := by decide +kernel
theorem dX6_came_18 : decode cX6_came 18 = .ok (.if_icmp .eq 6, 3) := by decide +kernel
theorem dX6_came_21 : decode cX6_came 21 = .ok (.bipush (-36), 2) := by decide +kernel
theorem dX6_came_23 : decode cX6_came 23 = .ok (.ireturn, 1) := by decide +kernel
theorem dX6_came_24 : decode cX6_came 24 = .ok (.aload_n 0, 1) := by decide +kernel
theorem dX6_came_25 : decode cX6_came 25 = .ok (.getfield 37, 3) := by decide +kernel
theorem dX6_came_28 : decode cX6_came 28 = .ok (.aload_n 0, 1) := by decide +kernel
theorem dX6_came_29 : decode cX6_came 29 = .ok (.getfield 96, 3) := by decide +kernel
theorem dX6_came_32 : decode cX6_came 32 = .ok (.iconst 0, 1) := by decide +kernel
theorem dX6_came_33 : decode cX6_came 33 = .ok (.iastore, 1) := by decide +kernel
theorem dX6_came_34 : decode cX6_came 34 = .ok (.bipush 21, 2) := by decide +kernel
theorem dX6_came_36 : decode cX6_came 36 = .ok (.aload_n 0, 1) := by decide +kernel
theorem dX6_came_37 : decode cX6_came 37 = .ok (.getfield 96, 3) := by decide +kernel
theorem dX6_came_40 : decode cX6_came 40 = .ok (.imul, 1) := by decide +kernel
theorem dX6_came_41 : decode cX6_came 41 = .ok (.iload_n 1, 1) := by decide +kernel
theorem dX6_came_42 : decode cX6_came 42 = .ok (.iadd, 1) := by decide +kernel
theorem dX6_came_43 : decode cX6_came 43 = .ok (.istore 4, 2) := by decide +kernel
theorem dX6_came_45 : decode cX6_came 45 = .ok (.iload_n 3, 1) := by decide +kernel
theorem dX6_came_46 : decode cX6_came 46 = .ok (.aload_n 0, 1) := by decide +kernel
theorem dX6_came_47 : decode cX6_came 47 = .ok (.iload_n 1, 1) := by decide +kernel
theorem dX6_came_48 : decode cX6_came 48 = .ok (.aload_n 0, 1) := by decide +kernel
theorem dX6_came_49 : decode cX6_came 49 = .ok (.getfield 40, 3) := by decide +kernel
theorem dX6_came_52 : decode cX6_came 52 = .ok (.aload_n 0, 1) := by decide +kernel
theorem dX6_came_53 : decode cX6_came 53 = .ok (.getfield 96, 3) := by decide +kernel
theorem dX6_came_56 : decode cX6_came 56 = .ok (.iaload, 1) := by decide +kernel
theorem dX6_came_57 : decode cX6_came 57 = .ok (.invokevirtual 122, 3) := by decide +kernel
theorem dX6_came_60 : decode cX6_came 60 = .ok (.if_icmp .ne 23, 3) := by decide +kernel
theorem dX6_came_63 : decode cX6_came 63 = .ok (.aload_n 0, 1) := by decide +kernel
theorem dX6_came_64 : decode cX6_came 64 = .ok (.getfield 34, 3) := by decide +kernel
theorem dX6_came_67 : decode cX6_came 67 = .ok (.aload_n 0, 1) := by decide +kernel
theorem dX6_came_68 : decode cX6_came 68 = .ok (.getfield 96, 3) := by decide +kernel
theorem dX6_came_71 : decode cX6_came 71 = .ok (.iload_n 1, 1) := by decide +kernel
theorem dX6_came_72 : decode cX6_came 72 = .ok (.iastore, 1) := by decide +kernel
theorem dX6_came_73 : decode cX6_came 73 = .ok (.aload_n 0, 1) := by decide +kernel
theorem dX6_came_74 : decode cX6_came 74 = .ok (.getfield 52, 3) := by decide +kernel
theorem dX6_came_77 : decode cX6_came 77 = .ok (.iload 4, 2) := by decide +kernel
theorem dX6_came_79 : decode cX6_came 79 = .ok (.iconst 0, 1) := by decide +kernel
theorem dX6_came_80 : decode cX6_came 80 = .ok (.iastore, 1) := by decide +kernel
theorem dX6_came_81 : decode cX6_came 81 = .ok (.iconst 1, 1) := by decide +kernel
theorem dX6_came_82 : decode cX6_came 82 = .ok (.ireturn, 1) := by decide +kernel
theorem dX6_came_83 : decode cX6_came 83 = .ok (.aload_n 0, 1) := by decide +kernel
theorem dX6_came_84 : decode cX6_came 84 = .ok (.getfield 52, 3) := by decide +kernel
theorem dX6_came_87 : decode cX6_came 87 = .ok (.iload 4, 2) := by decide +kernel
theorem dX6_came_89 : decode cX6_came 89 = .ok (.dup2, 1) := by decide +kernel
theorem dX6_came_90 : decode cX6_came 90 = .ok (.iaload, 1) := by decide +kernel
theorem dX6_came_91 : decode cX6_came 91 = .ok (.iconst 1, 1) := by decide +kernel
theorem dX6_came_92 : decode cX6_came 92 = .ok (.iadd, 1) := by decide +kernel
theorem dX6_came_93 : decode cX6_came 93 = .ok (.iastore, 1) := by decide +kernel
theorem dX6_came_94 : decode cX6_came 94 = .ok (.aload_n 0, 1) := by decide +kernel
theorem dX6_came_95 : decode cX6_came 95 = .ok (.getfield 52, 3) := by decide +kernel
theorem dX6_came_98 : decode cX6_came 98 = .ok (.iload 4, 2) := by decide +kernel
theorem dX6_came_100 : decode cX6_came 100 = .ok (.iaload, 1) := by decide +kernel
theorem dX6_came_101 : decode cX6_came 101 = .ok (.aload_n 0, 1) := by decide +kernel
theorem dX6_came_102 : decode cX6_came 102 = .ok (.getfield 13, 3) := by decide +kernel
theorem dX6_came_105 : decode cX6_came 105 = .ok (.iload_n 1, 1) := by decide +kernel
theorem dX6_came_106 : decode cX6_came 106 = .ok (.iaload, 1) := by decide +kernel
theorem dX6_came_107 : decode cX6_came 107 = .ok (.if_icmp .ge 6, 3) := by decide +kernel
theorem dX6_came_110 : decode cX6_came 110 = .ok (.bipush (-53), 2) := by decide +kernel
theorem dX6_came_112 : decode cX6_came 112 = .ok (.ireturn, 1) := by decide +kernel
theorem dX6_came_113 : decode cX6_came 113 = .ok (.aload_n 0, 1) := by decide +kernel
theorem dX6_came_114 : decode cX6_came 114 = .ok (.getfield 52, 3) := by decide +kernel
theorem dX6_came_117 : decode cX6_came 117 = .ok (.iload 4, 2) := by decide +kernel
theorem dX6_came_119 : decode cX6_came 119 = .ok (.iconst 0, 1) := by decide +kernel
theorem dX6_came_120 : decode cX6_came 120 = .ok (.iastore, 1) := by decide +kernel
theorem dX6_came_121 : decode cX6_came 121 = .ok (.aload_n 0, 1) := by decide +kernel
theorem dX6_came_122 : decode cX6_came 122 = .ok (.getfield 55, 3) := by decide +kernel
theorem dX6_came_125 : decode cX6_came 125 = .ok (.iload 4, 2) := by decide +kernel
theorem dX6_came_127 : decode cX6_came 127 = .ok (.aload_n 0, 1) := by decide +kernel
theorem dX6_came_128 : decode cX6_came 128 = .ok (.getfield 99, 3) := by decide +kernel
theorem dX6_came_131 : decode cX6_came 131 = .ok (.aload_n 0, 1) := by decide +kernel
theorem dX6_came_132 : decode cX6_came 132 = .ok (.getfield 16, 3) := by decide +kernel
theorem dX6_came_135 : decode cX6_came 135 = .ok (.iload_n 1, 1) := by decide +kernel
theorem dX6_came_136 : decode cX6_came 136 = .ok (.laload, 1) := by decide +kernel
theorem dX6_came_137 : decode cX6_came 137 = .ok (.ladd, 1) := by decide +kernel
theorem dX6_came_138 : decode cX6_came 138 = .ok (.lastore, 1) := by decide +kernel
theorem dX6_came_139 : decode cX6_came 139 = .ok (.aload_n 0, 1) := by decide +kernel
theorem dX6_came_140 : decode cX6_came 140 = .ok (.getfield 58, 3) := by decide +kernel
theorem dX6_came_143 : decode cX6_came 143 = .ok (.iload 4, 2) := by decide +kernel
theorem dX6_came_145 : decode cX6_came 145 = .ok (.iconst 1, 1) := by decide +kernel
theorem dX6_came_146 : decode cX6_came 146 = .ok (.bastore, 1) := by decide +kernel
theorem dX6_came_147 : decode cX6_came 147 = .ok (.bipush (-54), 2) := by decide +kernel
theorem dX6_came_149 : decode cX6_came 149 = .ok (.ireturn, 1) := by decide +kernel
set_option maxRecDepth 20000 in
theorem ggX6_key_X6_isMade : GoodIn wsX6_key wsX6_isMade := goodIn_ca (goodIn_r _ [9, 10, 39, 40, 41, 42, 43, 44, 45, 46, 47, 48, 49, 50, 51, 52, 53, 54, 55, 56, 57, 58, 59, 60, 61, 62, 63, 64, 65] (by decide +kernel) (by decide +kernel)) (goodIn_sub (fun _ h => List.mem_cons_of_mem _ (List.mem_append_right _ h)) (by decide +kernel))
set_option maxRecDepth 20000 in
theorem gX6_key_X6_isMade : GoodIn wsX6_key (wsV RX6 77 RX6 yX6_isMade wsX6_isMade) := goodIn_app (goodIn_of _ (by decide +kernel)) ggX6_key_X6_isMade
set_option maxRecDepth 20000 in
theorem ggX6_key_X6_came : GoodIn wsX6_key wsX6_came := goodIn_ca (goodIn_r _ [14, 15, 3, 16, 17, 18, 10, 19, 20, 21, 22, 23, 24, 25, 8, 26, 27, 28, 29, 30, 39, 40, 41, 42, 43, 44, 45, 46, 47, 48, 49, 50, 51, 52, 53, 54, 55, 56, 57, 58, 59, 60, 61, 62, 63, 64, 65] (by decide +kernel) (by decide +kernel)) (goodIn_sub (fun _ h => List.mem_cons_of_mem _ (List.mem_append_right _ h)) (by decide +kernel))
set_option maxRecDepth 20000 in
theorem gX6_key_X6_came : GoodIn wsX6_key (wsV RX6 125 RX6 yX6_came wsX6_came) := goodIn_app (goodIn_of _ (by decide +kernel)) ggX6_key_X6_came
set_option maxRecDepth 20000 in
theorem ggX6_key_X6_note : GoodIn wsX6_key wsX6_note := goodIn_ca (goodIn_r _ [34, 35, 36, 3, 37, 38, 39, 40, 41, 42, 43, 44, 45, 46, 47, 48, 49, 50, 51, 52, 53, 54, 55, 56, 57, 58, 59, 60, 61, 62, 63, 64, 65] (by decide +kernel) (by decide +kernel)) (goodIn_sub (fun _ h => List.mem_cons_of_mem _ (List.mem_append_right _ h)) (by decide +kernel))
set_option maxRecDepth 20000 in
theorem gX6_key_X6_note : GoodIn wsX6_key (wsV RX6 115 RX6 yX6_note wsX6_note) := goodIn_app (goodIn_of _ (by decide +kernel)) ggX6_key_X6_note
theorem dX6_key_0 : decode cX6_key 0 = .ok (.aload_n 0, 1) := by decide +kernel
theorem dX6_key_1 : decode cX6_key 1 = .ok (.iconst 0, 1) := by decide +kernel
theorem dX6_key_2 : decode cX6_key 2 = .ok (.putfield 71, 3) := by decide +kernel
theorem dX6_key_5 : decode cX6_key 5 = .ok (.aload_n 0, 1) := by decide +kernel
theorem dX6_key_6 : decode cX6_key 6 = .ok (.getfield 49, 3) := by decide +kernel
theorem dX6_key_9 : decode cX6_key 9 = .ok (.aload_n 0, 1) := by decide +kernel
theorem dX6_key_10 : decode cX6_key 10 = .ok (.getfield 96, 3) := by decide +kernel
theorem dX6_key_13 : decode cX6_key 13 = .ok (.aload_n 0, 1) := by decide +kernel
theorem dX6_key_14 : decode cX6_key 14 = .ok (.getfield 49, 3) := by decide +kernel
theorem dX6_key_17 : decode cX6_key 17 = .ok (.aload_n 0, 1) := by decide +kernel
theorem dX6_key_18 : decode cX6_key 18 = .ok (.getfield 96, 3) := by decide +kernel
theorem dX6_key_21 : decode cX6_key 21 = .ok (.iaload, 1) := by decide +kernel
theorem dX6_key_22 : decode cX6_key 22 = .ok (.bipush 8, 2) := by decide +kernel
theorem dX6_key_24 : decode cX6_key 24 = .ok (.ishl, 1) := by decide +kernel
theorem dX6_key_25 : decode cX6_key 25 = .ok (.iload_n 2, 1) := by decide +kernel
theorem dX6_key_26 : decode cX6_key 26 = .ok (.sipush 255, 3) := by decide +kernel
theorem dX6_key_29 : decode cX6_key 29 = .ok (.iand, 1) := by decide +kernel
theorem dX6_key_30 : decode cX6_key 30 = .ok (.ior, 1) := by decide +kernel
theorem dX6_key_31 : decode cX6_key 31 = .ok (.iastore, 1) := by decide +kernel
theorem dX6_key_32 : decode cX6_key 32 = .ok (.aload_n 0, 1) := by decide +kernel
theorem dX6_key_33 : decode cX6_key 33 = .ok (.getfield 46, 3) := by decide +kernel
theorem dX6_key_36 : decode cX6_key 36 = .ok (.aload_n 0, 1) := by decide +kernel
theorem dX6_key_37 : decode cX6_key 37 = .ok (.getfield 96, 3) := by decide +kernel
theorem dX6_key_40 : decode cX6_key 40 = .ok (.dup2, 1) := by decide +kernel
theorem dX6_key_41 : decode cX6_key 41 = .ok (.iaload, 1) := by decide +kernel
theorem dX6_key_42 : decode cX6_key 42 = .ok (.iconst 1, 1) := by decide +kernel
theorem dX6_key_43 : decode cX6_key 43 = .ok (.iadd, 1) := by decide +kernel
theorem dX6_key_44 : decode cX6_key 44 = .ok (.iastore, 1) := by decide +kernel
theorem dX6_key_45 : decode cX6_key 45 = .ok (.iload_n 3, 1) := by decide +kernel
theorem dX6_key_46 : decode cX6_key 46 = .ok (.ifCond .ne 5, 3) := by decide +kernel
theorem dX6_key_49 : decode cX6_key 49 = .ok (.iconst 0, 1) := by decide +kernel
theorem dX6_key_50 : decode cX6_key 50 = .ok (.ireturn, 1) := by decide +kernel
theorem dX6_key_51 : decode cX6_key 51 = .ok (.aload_n 0, 1) := by decide +kernel
theorem dX6_key_52 : decode cX6_key 52 = .ok (.getfield 46, 3) := by decide +kernel
theorem dX6_key_55 : decode cX6_key 55 = .ok (.aload_n 0, 1) := by decide +kernel
theorem dX6_key_56 : decode cX6_key 56 = .ok (.getfield 96, 3) := by decide +kernel
theorem dX6_key_59 : decode cX6_key 59 = .ok (.iaload, 1) := by decide +kernel
theorem dX6_key_60 : decode cX6_key 60 = .ok (.istore 4, 2) := by decide +kernel
theorem dX6_key_62 : decode cX6_key 62 = .ok (.aload_n 0, 1) := by decide +kernel
theorem dX6_key_63 : decode cX6_key 63 = .ok (.getfield 49, 3) := by decide +kernel
theorem dX6_key_66 : decode cX6_key 66 = .ok (.aload_n 0, 1) := by decide +kernel
theorem dX6_key_67 : decode cX6_key 67 = .ok (.getfield 96, 3) := by decide +kernel
theorem dX6_key_70 : decode cX6_key 70 = .ok (.iaload, 1) := by decide +kernel
theorem dX6_key_71 : decode cX6_key 71 = .ok (.istore 5, 2) := by decide +kernel
theorem dX6_key_73 : decode cX6_key 73 = .ok (.aload_n 0, 1) := by decide +kernel
theorem dX6_key_74 : decode cX6_key 74 = .ok (.getfield 46, 3) := by decide +kernel
theorem dX6_key_77 : decode cX6_key 77 = .ok (.aload_n 0, 1) := by decide +kernel
theorem dX6_key_78 : decode cX6_key 78 = .ok (.getfield 96, 3) := by decide +kernel
theorem dX6_key_81 : decode cX6_key 81 = .ok (.iconst 0, 1) := by decide +kernel
theorem dX6_key_82 : decode cX6_key 82 = .ok (.iastore, 1) := by decide +kernel
theorem dX6_key_83 : decode cX6_key 83 = .ok (.aload_n 0, 1) := by decide +kernel
theorem dX6_key_84 : decode cX6_key 84 = .ok (.getfield 49, 3) := by decide +kernel
theorem dX6_key_87 : decode cX6_key 87 = .ok (.aload_n 0, 1) := by decide +kernel
theorem dX6_key_88 : decode cX6_key 88 = .ok (.getfield 96, 3) := by decide +kernel
theorem dX6_key_91 : decode cX6_key 91 = .ok (.iconst 0, 1) := by decide +kernel
theorem dX6_key_92 : decode cX6_key 92 = .ok (.iastore, 1) := by decide +kernel
theorem dX6_key_93 : decode cX6_key 93 = .ok (.aload_n 0, 1) := by decide +kernel
theorem dX6_key_94 : decode cX6_key 94 = .ok (.iload_n 1, 1) := by decide +kernel
theorem dX6_key_95 : decode cX6_key 95 = .ok (.invokevirtual 77, 3) := by decide +kernel
theorem dX6_key_98 : decode cX6_key 98 = .ok (.ifCond .eq 20, 3) := by decide +kernel
theorem dX6_key_101 : decode cX6_key 101 = .ok (.aload_n 0, 1) := by decide +kernel
theorem dX6_key_102 : decode cX6_key 102 = .ok (.iload_n 1, 1) := by decide +kernel
theorem dX6_key_103 : decode cX6_key 103 = .ok (.aload_n 0, 1) := by decide +kernel
theorem dX6_key_104 : decode cX6_key 104 = .ok (.iload_n 1, 1) := by decide +kernel
theorem dX6_key_105 : decode cX6_key 105 = .ok (.iload 4, 2) := by decide +kernel
theorem dX6_key_107 : decode cX6_key 107 = .ok (.iload 5, 2) := by decide +kernel
theorem dX6_key_109 : decode cX6_key 109 = .ok (.invokevirtual 125, 3) := by decide +kernel
theorem dX6_key_112 : decode cX6_key 112 = .ok (.invokevirtual 115, 3) := by decide +kernel
theorem dX6_key_115 : decode cX6_key 115 = .ok (.goto 4, 3) := by decide +kernel
theorem dX6_key_118 : decode cX6_key 118 = .ok (.iconst (-1), 1) := by decide +kernel
theorem dX6_key_119 : decode cX6_key 119 = .ok (.ireturn, 1) := by decide +kernel
theorem dX6_out_0 : decode cX6_out 0 = .ok (.aload_n 0, 1) := by decide +kernel
theorem dX6_out_1 : decode cX6_out 1 = .ok (.iload_n 1, 1) := by decide +kernel
theorem dX6_out_2 : decode cX6_out 2 = .ok (.ifCond .lt 8, 3) := by decide +kernel
theorem dX6_out_5 : decode cX6_out 5 = .ok (.iload_n 1, 1) := by decide +kernel
theorem dX6_out_6 : decode cX6_out 6 = .ok (.iconst 3, 1) := by decide +kernel
theorem dX6_out_7 : decode cX6_out 7 = .ok (.if_icmp .le 7, 3) := by decide +kernel
theorem dX6_out_10 : decode cX6_out 10 = .ok (.iconst 1, 1) := by decide +kernel
theorem dX6_out_11 : decode cX6_out 11 = .ok (.goto 4, 3) := by decide +kernel
theorem dX6_out_14 : decode cX6_out 14 = .ok (.iconst 0, 1) := by decide +kernel
theorem dX6_out_15 : decode cX6_out 15 = .ok (.putfield 71, 3) := by decide +kernel
theorem dX6_out_18 : decode cX6_out 18 = .ok (.aload_n 0, 1) := by decide +kernel
theorem dX6_out_19 : decode cX6_out 19 = .ok (.getfield 71, 3) := by decide +kernel
theorem dX6_out_22 : decode cX6_out 22 = .ok (.ifCond .le 7, 3) := by decide +kernel
theorem dX6_out_25 : decode cX6_out 25 = .ok (.iconst 0, 1) := by decide +kernel
theorem dX6_out_26 : decode cX6_out 26 = .ok (.goto 21, 3) := by decide +kernel
theorem dX6_out_29 : decode cX6_out 29 = .ok (.aload_n 0, 1) := by decide +kernel
theorem dX6_out_30 : decode cX6_out 30 = .ok (.getfield 43, 3) := by decide +kernel
theorem dX6_out_33 : decode cX6_out 33 = .ok (.aload_n 0, 1) := by decide +kernel
theorem dX6_out_34 : decode cX6_out 34 = .ok (.getfield 96, 3) := by decide +kernel
theorem dX6_out_37 : decode cX6_out 37 = .ok (.iaload, 1) := by decide +kernel
theorem dX6_out_38 : decode cX6_out 38 = .ok (.bipush 24, 2) := by decide +kernel
theorem dX6_out_40 : decode cX6_out 40 = .ok (.bipush 8, 2) := by decide +kernel
theorem dX6_out_42 : decode cX6_out 42 = .ok (.iload_n 1, 1) := by decide +kernel
theorem dX6_out_43 : decode cX6_out 43 = .ok (.imul, 1) := by decide +kernel
theorem dX6_out_44 : decode cX6_out 44 = .ok (.isub, 1) := by decide +kernel
theorem dX6_out_45 : decode cX6_out 45 = .ok (.ishr, 1) := by decide +kernel
theorem dX6_out_46 : decode cX6_out 46 = .ok (.i2b, 1) := by decide +kernel
theorem dX6_out_47 : decode cX6_out 47 = .ok (.ireturn, 1) := by decide +kernel
set_option maxRecDepth 20000 in
theorem ggX6_open_X6_isMade : GoodIn wsX6_open wsX6_isMade := goodIn_ca (goodIn_r _ [8, 9, 10, 11, 12, 13, 14, 15, 16, 17, 18, 19, 20, 21, 22, 23, 24, 25, 26, 27, 28, 29, 30, 31, 32, 33, 34, 35, 36] (by decide +kernel) (by decide +kernel)) (goodIn_sub (fun _ h => List.mem_cons_of_mem _ (List.mem_append_right _ h)) (by decide +kernel))
set_option maxRecDepth 20000 in
theorem gX6_open_X6_isMade : GoodIn wsX6_open (wsV RX6 77 RX6 yX6_isMade wsX6_isMade) := goodIn_app (goodIn_of _ (by decide +kernel)) ggX6_open_X6_isMade
theorem dX6_open_0 : decode cX6_open 0 = .ok (.aload_n 0, 1) := by decide +kernel
theorem dX6_open_1 : decode cX6_open 1 = .ok (.iconst 0, 1) := by decide +kernel
theorem dX6_open_2 : decode cX6_open 2 = .ok (.putfield 71, 3) := by decide +kernel
theorem dX6_open_5 : decode cX6_open 5 = .ok (.aload_n 0, 1) := by decide +kernel
theorem dX6_open_6 : decode cX6_open 6 = .ok (.iload_n 1, 1) := by decide +kernel
theorem dX6_open_7 : decode cX6_open 7 = .ok (.invokevirtual 77, 3) := by decide +kernel
theorem dX6_open_10 : decode cX6_open 10 = .ok (.ifCond .ne 7, 3) := by decide +kernel
theorem dX6_open_13 : decode cX6_open 13 = .ok (.iconst (-1), 1) := by decide +kernel
theorem dX6_open_14 : decode cX6_open 14 = .ok (.goto 21, 3) := by decide +kernel
theorem dX6_open_17 : decode cX6_open 17 = .ok (.aload_n 0, 1) := by decide +kernel
theorem dX6_open_18 : decode cX6_open 18 = .ok (.getfield 34, 3) := by decide +kernel
theorem dX6_open_21 : decode cX6_open 21 = .ok (.aload_n 0, 1) := by decide +kernel
theorem dX6_open_22 : decode cX6_open 22 = .ok (.getfield 96, 3) := by decide +kernel
theorem dX6_open_25 : decode cX6_open 25 = .ok (.iaload, 1) := by decide +kernel
theorem dX6_open_26 : decode cX6_open 26 = .ok (.iload_n 1, 1) := by decide +kernel
theorem dX6_open_27 : decode cX6_open 27 = .ok (.if_icmp .ne 7, 3) := by decide +kernel
theorem dX6_open_30 : decode cX6_open 30 = .ok (.iconst 1, 1) := by decide +kernel
theorem dX6_open_31 : decode cX6_open 31 = .ok (.goto 4, 3) := by decide +kernel
theorem dX6_open_34 : decode cX6_open 34 = .ok (.iconst 0, 1) := by decide +kernel
theorem dX6_open_35 : decode cX6_open 35 = .ok (.ireturn, 1) := by decide +kernel
theorem dX6_begin_0 : decode cX6_begin 0 = .ok (.aload_n 0, 1) := by decide +kernel
theorem dX6_begin_1 : decode cX6_begin 1 = .ok (.getfield 26, 3) := by decide +kernel
theorem dX6_begin_4 : decode cX6_begin 4 = .ok (.iload_n 1, 1) := by decide +kernel
theorem dX6_begin_5 : decode cX6_begin 5 = .ok (.iload_n 2, 1) := by decide +kernel
theorem dX6_begin_6 : decode cX6_begin 6 = .ok (.iastore, 1) := by decide +kernel
theorem dX6_begin_7 : decode cX6_begin 7 = .ok (.aload_n 0, 1) := by decide +kernel
theorem dX6_begin_8 : decode cX6_begin 8 = .ok (.getfield 37, 3) := by decide +kernel
theorem dX6_begin_11 : decode cX6_begin 11 = .ok (.iload_n 1, 1) := by decide +kernel
theorem dX6_begin_12 : decode cX6_begin 12 = .ok (.iconst 0, 1) := by decide +kernel
theorem dX6_begin_13 : decode cX6_begin 13 = .ok (.iastore, 1) := by decide +kernel
theorem dX6_begin_14 : decode cX6_begin 14 = .ok (.aload_n 0, 1) := by decide +kernel
theorem dX6_begin_15 : decode cX6_begin 15 = .ok (.getfield 34, 3) := by decide +kernel
theorem dX6_begin_18 : decode cX6_begin 18 = .ok (.iload_n 1, 1) := by decide +kernel
theorem dX6_begin_19 : decode cX6_begin 19 = .ok (.iconst 0, 1) := by decide +kernel
theorem dX6_begin_20 : decode cX6_begin 20 = .ok (.iastore, 1) := by decide +kernel
theorem dX6_begin_21 : decode cX6_begin 21 = .ok (.aload_n 0, 1) := by decide +kernel
theorem dX6_begin_22 : decode cX6_begin 22 = .ok (.getfield 31, 3) := by decide +kernel
theorem dX6_begin_25 : decode cX6_begin 25 = .ok (.iload_n 1, 1) := by decide +kernel
theorem dX6_begin_26 : decode cX6_begin 26 = .ok (.ldc2_w 29, 3) := by decide +kernel
theorem dX6_begin_29 : decode cX6_begin 29 = .ok (.lastore, 1) := by decide +kernel
theorem dX6_begin_30 : decode cX6_begin 30 = .ok (.return_, 1) := by decide +kernel
set_option maxRecDepth 20000 in
theorem ggX6_session_X6_begin : GoodIn wsX6_session wsX6_begin := goodIn_ca (goodIn_r _ [8, 2, 9, 10, 11, 12, 13, 14, 15, 16, 17, 18, 19, 20, 21, 22, 23, 24, 25, 26, 27, 28, 29, 30, 31, 32, 33, 34, 35, 36, 37, 38, 39] (by decide +kernel) (by decide +kernel)) (goodIn_sub (fun _ h => List.mem_cons_of_mem _ (List.mem_append_right _ h)) (by decide +kernel))
set_option maxRecDepth 20000 in
theorem gX6_session_X6_begin : GoodIn wsX6_session (wsV RX6 129 RX6 yX6_begin wsX6_begin) := goodIn_app (goodIn_of _ (by decide +kernel)) ggX6_session_X6_begin
theorem dX6_session_0 : decode cX6_session 0 = .ok (.aload_n 0, 1) := by decide +kernel
theorem dX6_session_1 : decode cX6_session 1 = .ok (.iconst 0, 1) := by decide +kernel
theorem dX6_session_2 : decode cX6_session 2 = .ok (.putfield 71, 3) := by decide +kernel
theorem dX6_session_5 : decode cX6_session 5 = .ok (.iload_n 1, 1) := by decide +kernel
theorem dX6_session_6 : decode cX6_session 6 = .ok (.iconst 1, 1) := by decide +kernel
theorem dX6_session_7 : decode cX6_session 7 = .ok (.if_icmp .lt 8, 3) := by decide +kernel
theorem dX6_session_10 : decode cX6_session 10 = .ok (.iload_n 1, 1) := by decide +kernel
theorem dX6_session_11 : decode cX6_session 11 = .ok (.iconst 3, 1) := by decide +kernel
theorem dX6_session_12 : decode cX6_session 12 = .ok (.if_icmp .le 6, 3) := by decide +kernel
theorem dX6_session_15 : decode cX6_session 15 = .ok (.bipush (-2), 2) := by decide +kernel
theorem dX6_session_17 : decode cX6_session 17 = .ok (.ireturn, 1) := by decide +kernel
theorem dX6_session_18 : decode cX6_session 18 = .ok (.aload_n 0, 1) := by decide +kernel
theorem dX6_session_19 : decode cX6_session 19 = .ok (.getfield 26, 3) := by decide +kernel
theorem dX6_session_22 : decode cX6_session 22 = .ok (.aload_n 0, 1) := by decide +kernel
theorem dX6_session_23 : decode cX6_session 23 = .ok (.getfield 96, 3) := by decide +kernel
theorem dX6_session_26 : decode cX6_session 26 = .ok (.iaload, 1) := by decide +kernel
theorem dX6_session_27 : decode cX6_session 27 = .ok (.istore_n 2, 1) := by decide +kernel
theorem dX6_session_28 : decode cX6_session 28 = .ok (.aload_n 0, 1) := by decide +kernel
theorem dX6_session_29 : decode cX6_session 29 = .ok (.aload_n 0, 1) := by decide +kernel
theorem dX6_session_30 : decode cX6_session 30 = .ok (.getfield 96, 3) := by decide +kernel
theorem dX6_session_33 : decode cX6_session 33 = .ok (.iload_n 1, 1) := by decide +kernel
theorem dX6_session_34 : decode cX6_session 34 = .ok (.invokevirtual 129, 3) := by decide +kernel
theorem dX6_session_37 : decode cX6_session 37 = .ok (.iload_n 2, 1) := by decide +kernel
theorem dX6_session_38 : decode cX6_session 38 = .ok (.ireturn, 1) := by decide +kernel
set_option maxRecDepth 20000 in
theorem ggX6_reset_X6_begin : GoodIn wsX6_reset wsX6_begin := goodIn_ca (goodIn_r _ [10, 11, 12, 2, 13, 14, 15, 16, 17, 18, 19, 20, 21, 22, 23, 24, 25, 26, 27, 28, 29, 30, 31, 32, 33, 34, 35, 36, 37, 38, 39, 40, 41] (by decide +kernel) (by decide +kernel)) (goodIn_sub (fun _ h => List.mem_cons_of_mem _ (List.mem_append_right _ h)) (by decide +kernel))
set_option maxRecDepth 20000 in
theorem gX6_reset_X6_begin : GoodIn wsX6_reset (wsV RX6 129 RX6 yX6_begin wsX6_begin) := goodIn_app (goodIn_of _ (by decide +kernel)) ggX6_reset_X6_begin
theorem dX6_reset_0 : decode cX6_reset 0 = .ok (.aload_n 0, 1) := by decide +kernel
theorem dX6_reset_1 : decode cX6_reset 1 = .ok (.iconst 0, 1) := by decide +kernel
theorem dX6_reset_2 : decode cX6_reset 2 = .ok (.putfield 71, 3) := by decide +kernel
theorem dX6_reset_5 : decode cX6_reset 5 = .ok (.iconst 0, 1) := by decide +kernel
theorem dX6_reset_6 : decode cX6_reset 6 = .ok (.istore_n 1, 1) := by decide +kernel
theorem dX6_reset_7 : decode cX6_reset 7 = .ok (.iconst 0, 1) := by decide +kernel
theorem dX6_reset_8 : decode cX6_reset 8 = .ok (.istore_n 2, 1) := by decide +kernel
theorem dX6_reset_9 : decode cX6_reset 9 = .ok (.iload_n 2, 1) := by decide +kernel
theorem dX6_reset_10 : decode cX6_reset 10 = .ok (.iconst 4, 1) := by decide +kernel
theorem dX6_reset_11 : decode cX6_reset 11 = .ok (.if_icmp .ge 46, 3) := by decide +kernel
theorem dX6_reset_14 : decode cX6_reset 14 = .ok (.aload_n 0, 1) := by decide +kernel
theorem dX6_reset_15 : decode cX6_reset 15 = .ok (.getfield 34, 3) := by decide +kernel
theorem dX6_reset_18 : decode cX6_reset 18 = .ok (.iload_n 2, 1) := by decide +kernel
theorem dX6_reset_19 : decode cX6_reset 19 = .ok (.iaload, 1) := by decide +kernel
theorem dX6_reset_20 : decode cX6_reset 20 = .ok (.ifCond .le 9, 3) := by decide +kernel
theorem dX6_reset_23 : decode cX6_reset 23 = .ok (.iload_n 1, 1) := by decide +kernel
theorem dX6_reset_24 : decode cX6_reset 24 = .ok (.iconst 1, 1) := by decide +kernel
theorem dX6_reset_25 : decode cX6_reset 25 = .ok (.iadd, 1) := by decide +kernel
theorem dX6_reset_26 : decode cX6_reset 26 = .ok (.goto 4, 3) := by decide +kernel
theorem dX6_reset_29 : decode cX6_reset 29 = .ok (.iload_n 1, 1) := by decide +kernel
theorem dX6_reset_30 : decode cX6_reset 30 = .ok (.istore_n 1, 1) := by decide +kernel
theorem dX6_reset_31 : decode cX6_reset 31 = .ok (.aload_n 0, 1) := by decide +kernel
theorem dX6_reset_32 : decode cX6_reset 32 = .ok (.iload_n 2, 1) := by decide +kernel
theorem dX6_reset_33 : decode cX6_reset 33 = .ok (.iconst 1, 1) := by decide +kernel
theorem dX6_reset_34 : decode cX6_reset 34 = .ok (.invokevirtual 129, 3) := by decide +kernel
theorem dX6_reset_37 : decode cX6_reset 37 = .ok (.aload_n 0, 1) := by decide +kernel
theorem dX6_reset_38 : decode cX6_reset 38 = .ok (.getfield 46, 3) := by decide +kernel
theorem dX6_reset_41 : decode cX6_reset 41 = .ok (.iload_n 2, 1) := by decide +kernel
theorem dX6_reset_42 : decode cX6_reset 42 = .ok (.iconst 0, 1) := by decide +kernel
theorem dX6_reset_43 : decode cX6_reset 43 = .ok (.iastore, 1) := by decide +kernel
theorem dX6_reset_44 : decode cX6_reset 44 = .ok (.aload_n 0, 1) := by decide +kernel
theorem dX6_reset_45 : decode cX6_reset 45 = .ok (.getfield 49, 3) := by decide +kernel
theorem dX6_reset_48 : decode cX6_reset 48 = .ok (.iload_n 2, 1) := by decide +kernel
theorem dX6_reset_49 : decode cX6_reset 49 = .ok (.iconst 0, 1) := by decide +kernel
theorem dX6_reset_50 : decode cX6_reset 50 = .ok (.iastore, 1) := by decide +kernel
theorem dX6_reset_51 : decode cX6_reset 51 = .ok (.iinc 2 1, 3) := by decide +kernel
theorem dX6_reset_54 : decode cX6_reset 54 = .ok (.goto (-45), 3) := by decide +kernel
theorem dX6_reset_57 : decode cX6_reset 57 = .ok (.aload_n 0, 1) := by decide +kernel
theorem dX6_reset_58 : decode cX6_reset 58 = .ok (.iconst 0, 1) := by decide +kernel
theorem dX6_reset_59 : decode cX6_reset 59 = .ok (.putfield 90, 3) := by decide +kernel
theorem dX6_reset_62 : decode cX6_reset 62 = .ok (.iload_n 1, 1) := by decide +kernel
theorem dX6_reset_63 : decode cX6_reset 63 = .ok (.ireturn, 1) := by decide +kernel
theorem dX6_role_0 : decode cX6_role 0 = .ok (.aload_n 0, 1) := by decide +kernel
theorem dX6_role_1 : decode cX6_role 1 = .ok (.iconst 0, 1) := by decide +kernel
theorem dX6_role_2 : decode cX6_role 2 = .ok (.putfield 71, 3) := by decide +kernel
theorem dX6_role_5 : decode cX6_role 5 = .ok (.iload_n 1, 1) := by decide +kernel
theorem dX6_role_6 : decode cX6_role 6 = .ok (.iconst 1, 1) := by decide +kernel
theorem dX6_role_7 : decode cX6_role 7 = .ok (.if_icmp .lt 9, 3) := by decide +kernel
theorem dX6_role_10 : decode cX6_role 10 = .ok (.iload_n 1, 1) := by decide +kernel
theorem dX6_role_11 : decode cX6_role 11 = .ok (.bipush 8, 2) := by decide +kernel
theorem dX6_role_13 : decode cX6_role 13 = .ok (.if_icmp .le 5, 3) := by decide +kernel
theorem dX6_role_16 : decode cX6_role 16 = .ok (.iconst (-1), 1) := by decide +kernel
theorem dX6_role_17 : decode cX6_role 17 = .ok (.ireturn, 1) := by decide +kernel
theorem dX6_role_18 : decode cX6_role 18 = .ok (.iload_n 2, 1) := by decide +kernel
theorem dX6_role_19 : decode cX6_role 19 = .ok (.ifCond .eq 12, 3) := by decide +kernel
theorem dX6_role_22 : decode cX6_role 22 = .ok (.lload_n 3, 1) := by decide +kernel
theorem dX6_role_23 : decode cX6_role 23 = .ok (.aload_n 0, 1) := by decide +kernel
theorem dX6_role_24 : decode cX6_role 24 = .ok (.getfield 99, 3) := by decide +kernel
theorem dX6_role_27 : decode cX6_role 27 = .ok (.lcmp, 1) := by decide +kernel
theorem dX6_role_28 : decode cX6_role 28 = .ok (.ifCond .gt 5, 3) := by decide +kernel
theorem dX6_role_31 : decode cX6_role 31 = .ok (.iconst 0, 1) := by decide +kernel
theorem dX6_role_32 : decode cX6_role 32 = .ok (.ireturn, 1) := by decide +kernel
theorem dX6_role_33 : decode cX6_role 33 = .ok (.aload_n 0, 1) := by decide +kernel
theorem dX6_role_34 : decode cX6_role 34 = .ok (.getfield 31, 3) := by decide +kernel
theorem dX6_role_37 : decode cX6_role 37 = .ok (.aload_n 0, 1) := by decide +kernel
theorem dX6_role_38 : decode cX6_role 38 = .ok (.getfield 96, 3) := by decide +kernel
theorem dX6_role_41 : decode cX6_role 41 = .ok (.lload_n 3, 1) := by decide +kernel
theorem dX6_role_42 : decode cX6_role 42 = .ok (.lastore, 1) := by decide +kernel
theorem dX6_role_43 : decode cX6_role 43 = .ok (.iconst 1, 1) := by decide +kernel
theorem dX6_role_44 : decode cX6_role 44 = .ok (.ireturn, 1) := by decide +kernel
set_option maxRecDepth 20000 in
theorem ggX6_left_X6_isMade : GoodIn wsX6_left wsX6_isMade := goodIn_ca (goodIn_r _ [11, 12, 13, 14, 15, 16, 17, 18, 19, 20, 21, 22, 23, 24, 25, 26, 27, 28, 29, 30, 31, 32, 33, 34, 35, 36, 37, 38, 39] (by decide +kernel) (by decide +kernel)) (goodIn_sub (fun _ h => List.mem_cons_of_mem _ (List.mem_append_right _ h)) (by decide +kernel))
set_option maxRecDepth 20000 in
theorem gX6_left_X6_isMade : GoodIn wsX6_left (wsV RX6 77 RX6 yX6_isMade wsX6_isMade) := goodIn_app (goodIn_of _ (by decide +kernel)) ggX6_left_X6_isMade
theorem dX6_left_0 : decode cX6_left 0 = .ok (.aload_n 0, 1) := by decide +kernel
theorem dX6_left_1 : decode cX6_left 1 = .ok (.iconst 0, 1) := by decide +kernel
theorem dX6_left_2 : decode cX6_left 2 = .ok (.putfield 71, 3) := by decide +kernel
theorem dX6_left_5 : decode cX6_left 5 = .ok (.aload_n 0, 1) := by decide +kernel
theorem dX6_left_6 : decode cX6_left 6 = .ok (.iload_n 1, 1) := by decide +kernel
theorem dX6_left_7 : decode cX6_left 7 = .ok (.invokevirtual 77, 3) := by decide +kernel
theorem dX6_left_10 : decode cX6_left 10 = .ok (.ifCond .ne 5, 3) := by decide +kernel
theorem dX6_left_13 : decode cX6_left 13 = .ok (.iconst (-1), 1) := by decide +kernel
theorem dX6_left_14 : decode cX6_left 14 = .ok (.ireturn, 1) := by decide +kernel
theorem dX6_left_15 : decode cX6_left 15 = .ok (.aload_n 0, 1) := by decide +kernel
theorem dX6_left_16 : decode cX6_left 16 = .ok (.getfield 55, 3) := by decide +kernel
theorem dX6_left_19 : decode cX6_left 19 = .ok (.bipush 21, 2) := by decide +kernel
theorem dX6_left_21 : decode cX6_left 21 = .ok (.aload_n 0, 1) := by decide +kernel
theorem dX6_left_22 : decode cX6_left 22 = .ok (.getfield 96, 3) := by decide +kernel
theorem dX6_left_25 : decode cX6_left 25 = .ok (.imul, 1) := by decide +kernel
theorem dX6_left_26 : decode cX6_left 26 = .ok (.iload_n 1, 1) := by decide +kernel
theorem dX6_left_27 : decode cX6_left 27 = .ok (.iadd, 1) := by decide +kernel
theorem dX6_left_28 : decode cX6_left 28 = .ok (.laload, 1) := by decide +kernel
theorem dX6_left_29 : decode cX6_left 29 = .ok (.lstore 4, 2) := by decide +kernel
theorem dX6_left_31 : decode cX6_left 31 = .ok (.aload_n 0, 1) := by decide +kernel
theorem dX6_left_32 : decode cX6_left 32 = .ok (.getfield 58, 3) := by decide +kernel
theorem dX6_left_35 : decode cX6_left 35 = .ok (.bipush 21, 2) := by decide +kernel
theorem dX6_left_37 : decode cX6_left 37 = .ok (.aload_n 0, 1) := by decide +kernel
theorem dX6_left_38 : decode cX6_left 38 = .ok (.getfield 96, 3) := by decide +kernel
theorem dX6_left_41 : decode cX6_left 41 = .ok (.imul, 1) := by decide +kernel
theorem dX6_left_42 : decode cX6_left 42 = .ok (.iload_n 1, 1) := by decide +kernel
theorem dX6_left_43 : decode cX6_left 43 = .ok (.iadd, 1) := by decide +kernel
theorem dX6_left_44 : decode cX6_left 44 = .ok (.baload, 1) := by decide +kernel
theorem dX6_left_45 : decode cX6_left 45 = .ok (.ifCond .eq 10, 3) := by decide +kernel
theorem dX6_left_48 : decode cX6_left 48 = .ok (.lload_n 2, 1) := by decide +kernel
theorem dX6_left_49 : decode cX6_left 49 = .ok (.lload 4, 2) := by decide +kernel
theorem dX6_left_51 : decode cX6_left 51 = .ok (.lcmp, 1) := by decide +kernel
theorem dX6_left_52 : decode cX6_left 52 = .ok (.ifCond .lt 5, 3) := by decide +kernel
theorem dX6_left_55 : decode cX6_left 55 = .ok (.iconst 0, 1) := by decide +kernel
theorem dX6_left_56 : decode cX6_left 56 = .ok (.ireturn, 1) := by decide +kernel
theorem dX6_left_57 : decode cX6_left 57 = .ok (.lload_n 2, 1) := by decide +kernel
theorem dX6_left_58 : decode cX6_left 58 = .ok (.lload 4, 2) := by decide +kernel
theorem dX6_left_60 : decode cX6_left 60 = .ok (.ldc2_w 133, 3) := by decide +kernel
theorem dX6_left_63 : decode cX6_left 63 = .ok (.lsub, 1) := by decide +kernel
theorem dX6_left_64 : decode cX6_left 64 = .ok (.lcmp, 1) := by decide +kernel
theorem dX6_left_65 : decode cX6_left 65 = .ok (.ifCond .ge 8, 3) := by decide +kernel
theorem dX6_left_68 : decode cX6_left 68 = .ok (.ldc 135, 2) := by decide +kernel
theorem dX6_left_70 : decode cX6_left 70 = .ok (.goto 8, 3) := by decide +kernel
theorem dX6_left_73 : decode cX6_left 73 = .ok (.lload 4, 2) := by decide +kernel
theorem dX6_left_75 : decode cX6_left 75 = .ok (.lload_n 2, 1) := by decide +kernel
theorem dX6_left_76 : decode cX6_left 76 = .ok (.lsub, 1) := by decide +kernel
theorem dX6_left_77 : decode cX6_left 77 = .ok (.l2i, 1) := by decide +kernel
theorem dX6_left_78 : decode cX6_left 78 = .ok (.ireturn, 1) := by decide +kernel
theorem dX6_log_0 : decode cX6_log 0 = .ok (.aload_n 0, 1) := by decide +kernel
theorem dX6_log_1 : decode cX6_log 1 = .ok (.iconst 0, 1) := by decide +kernel
theorem dX6_log_2 : decode cX6_log 2 = .ok (.putfield 71, 3) := by decide +kernel
theorem dX6_log_5 : decode cX6_log 5 = .ok (.iload_n 1, 1) := by decide +kernel
theorem dX6_log_6 : decode cX6_log 6 = .ok (.iconst (-1), 1) := by decide +kernel
theorem dX6_log_7 : decode cX6_log 7 = .ok (.if_icmp .ne 12, 3) := by decide +kernel
theorem dX6_log_10 : decode cX6_log 10 = .ok (.iload_n 2, 1) := by decide +kernel
theorem dX6_log_11 : decode cX6_log 11 = .ok (.ifCond .ne 8, 3) := by decide +kernel
theorem dX6_log_14 : decode cX6_log 14 = .ok (.aload_n 0, 1) := by decide +kernel
theorem dX6_log_15 : decode cX6_log 15 = .ok (.getfield 93, 3) := by decide +kernel
theorem dX6_log_18 : decode cX6_log 18 = .ok (.ireturn, 1) := by decide +kernel
theorem dX6_log_19 : decode cX6_log 19 = .ok (.iload_n 1, 1) := by decide +kernel
theorem dX6_log_20 : decode cX6_log 20 = .ok (.ifCond .lt 18, 3) := by decide +kernel
theorem dX6_log_23 : decode cX6_log 23 = .ok (.iload_n 1, 1) := by decide +kernel
theorem dX6_log_24 : decode cX6_log 24 = .ok (.aload_n 0, 1) := by decide +kernel
theorem dX6_log_25 : decode cX6_log 25 = .ok (.getfield 93, 3) := by decide +kernel
theorem dX6_log_28 : decode cX6_log 28 = .ok (.if_icmp .ge 10, 3) := by decide +kernel
theorem dX6_log_31 : decode cX6_log 31 = .ok (.iload_n 1, 1) := by decide +kernel
theorem dX6_log_32 : decode cX6_log 32 = .ok (.sipush 299, 3) := by decide +kernel
theorem dX6_log_35 : decode cX6_log 35 = .ok (.if_icmp .le 5, 3) := by decide +kernel
theorem dX6_log_38 : decode cX6_log 38 = .ok (.iconst (-1), 1) := by decide +kernel
theorem dX6_log_39 : decode cX6_log 39 = .ok (.ireturn, 1) := by decide +kernel
theorem dX6_log_40 : decode cX6_log 40 = .ok (.iload_n 2, 1) := by decide +kernel
theorem dX6_log_41 : decode cX6_log 41 = .ok (.ifCond .lt 8, 3) := by decide +kernel
theorem dX6_log_44 : decode cX6_log 44 = .ok (.iload_n 2, 1) := by decide +kernel
theorem dX6_log_45 : decode cX6_log 45 = .ok (.iconst 2, 1) := by decide +kernel
theorem dX6_log_46 : decode cX6_log 46 = .ok (.if_icmp .le 6, 3) := by decide +kernel
theorem dX6_log_49 : decode cX6_log 49 = .ok (.bipush (-2), 2) := by decide +kernel
theorem dX6_log_51 : decode cX6_log 51 = .ok (.ireturn, 1) := by decide +kernel
theorem dX6_log_52 : decode cX6_log 52 = .ok (.iload_n 2, 1) := by decide +kernel
theorem dX6_log_53 : decode cX6_log 53 = .ok (.ifCond .ne 12, 3) := by decide +kernel
theorem dX6_log_56 : decode cX6_log 56 = .ok (.aload_n 0, 1) := by decide +kernel
theorem dX6_log_57 : decode cX6_log 57 = .ok (.getfield 62, 3) := by decide +kernel
theorem dX6_log_60 : decode cX6_log 60 = .ok (.iload_n 1, 1) := by decide +kernel
theorem dX6_log_61 : decode cX6_log 61 = .ok (.iaload, 1) := by decide +kernel
theorem dX6_log_62 : decode cX6_log 62 = .ok (.goto 23, 3) := by decide +kernel
theorem dX6_log_65 : decode cX6_log 65 = .ok (.iload_n 2, 1) := by decide +kernel
theorem dX6_log_66 : decode cX6_log 66 = .ok (.iconst 1, 1) := by decide +kernel
theorem dX6_log_67 : decode cX6_log 67 = .ok (.if_icmp .ne 12, 3) := by decide +kernel
theorem dX6_log_70 : decode cX6_log 70 = .ok (.aload_n 0, 1) := by decide +kernel
theorem dX6_log_71 : decode cX6_log 71 = .ok (.getfield 65, 3) := by decide +kernel
theorem dX6_log_74 : decode cX6_log 74 = .ok (.iload_n 1, 1) := by decide +kernel
theorem dX6_log_75 : decode cX6_log 75 = .ok (.iaload, 1) := by decide +kernel
theorem dX6_log_76 : decode cX6_log 76 = .ok (.goto 9, 3) := by decide +kernel
theorem dX6_log_79 : decode cX6_log 79 = .ok (.aload_n 0, 1) := by decide +kernel
theorem dX6_log_80 : decode cX6_log 80 = .ok (.getfield 68, 3) := by decide +kernel
theorem dX6_log_83 : decode cX6_log 83 = .ok (.iload_n 1, 1) := by decide +kernel
theorem dX6_log_84 : decode cX6_log 84 = .ok (.iaload, 1) := by decide +kernel
theorem dX6_log_85 : decode cX6_log 85 = .ok (.ireturn, 1) := by decide +kernel
theorem dX6_digit_0 : decode cX6_digit 0 = .ok (.aload_n 0, 1) := by decide +kernel
theorem dX6_digit_1 : decode cX6_digit 1 = .ok (.getfield 43, 3) := by decide +kernel
theorem dX6_digit_4 : decode cX6_digit 4 = .ok (.aload_n 0, 1) := by decide +kernel
theorem dX6_digit_5 : decode cX6_digit 5 = .ok (.getfield 96, 3) := by decide +kernel
theorem dX6_digit_8 : decode cX6_digit 8 = .ok (.iaload, 1) := by decide +kernel
theorem dX6_digit_9 : decode cX6_digit 9 = .ok (.i2l, 1) := by decide +kernel
theorem dX6_digit_10 : decode cX6_digit 10 = .ok (.ldc2_w 136, 3) := by decide +kernel
theorem dX6_digit_13 : decode cX6_digit 13 = .ok (.land, 1) := by decide +kernel
theorem dX6_digit_14 : decode cX6_digit 14 = .ok (.lstore_n 2, 1) := by decide +kernel
theorem dX6_digit_15 : decode cX6_digit 15 = .ok (.iconst 1, 1) := by decide +kernel
theorem dX6_digit_16 : decode cX6_digit 16 = .ok (.istore 4, 2) := by decide +kernel
theorem dX6_digit_18 : decode cX6_digit 18 = .ok (.lload_n 2, 1) := by decide +kernel
theorem dX6_digit_19 : decode cX6_digit 19 = .ok (.ldc2_w 138, 3) := by decide +kernel
theorem dX6_digit_22 : decode cX6_digit 22 = .ok (.ldiv, 1) := by decide +kernel
theorem dX6_digit_23 : decode cX6_digit 23 = .ok (.lstore 5, 2) := by decide +kernel
theorem dX6_digit_25 : decode cX6_digit 25 = .ok (.lload 5, 2) := by decide +kernel
theorem dX6_digit_27 : decode cX6_digit 27 = .ok (.lconst 0, 1) := by decide +kernel
theorem dX6_digit_28 : decode cX6_digit 28 = .ok (.lcmp, 1) := by decide +kernel
theorem dX6_digit_29 : decode cX6_digit 29 = .ok (.ifCond .le 17, 3) := by decide +kernel
theorem dX6_digit_32 : decode cX6_digit 32 = .ok (.iinc 4 1, 3) := by decide +kernel
theorem dX6_digit_35 : decode cX6_digit 35 = .ok (.lload 5, 2) := by decide +kernel
theorem dX6_digit_37 : decode cX6_digit 37 = .ok (.ldc2_w 138, 3) := by decide +kernel
theorem dX6_digit_40 : decode cX6_digit 40 = .ok (.ldiv, 1) := by decide +kernel
theorem dX6_digit_41 : decode cX6_digit 41 = .ok (.lstore 5, 2) := by decide +kernel
theorem dX6_digit_43 : decode cX6_digit 43 = .ok (.goto (-18), 3) := by decide +kernel
theorem dX6_digit_46 : decode cX6_digit 46 = .ok (.aload_n 0, 1) := by decide +kernel
theorem dX6_digit_47 : decode cX6_digit 47 = .ok (.iload_n 1, 1) := by decide +kernel
theorem dX6_digit_48 : decode cX6_digit 48 = .ok (.ifCond .lt 9, 3) := by decide +kernel
theorem dX6_digit_51 : decode cX6_digit 51 = .ok (.iload_n 1, 1) := by decide +kernel
theorem dX6_digit_52 : decode cX6_digit 52 = .ok (.iload 4, 2) := by decide +kernel
theorem dX6_digit_54 : decode cX6_digit 54 = .ok (.if_icmp .lt 7, 3) := by decide +kernel
theorem dX6_digit_57 : decode cX6_digit 57 = .ok (.iconst 1, 1) := by decide +kernel
theorem dX6_digit_58 : decode cX6_digit 58 = .ok (.goto 4, 3) := by decide +kernel
theorem dX6_digit_61 : decode cX6_digit 61 = .ok (.iconst 0, 1) := by decide +kernel
theorem dX6_digit_62 : decode cX6_digit 62 = .ok (.putfield 71, 3) := by decide +kernel
theorem dX6_digit_65 : decode cX6_digit 65 = .ok (.aload_n 0, 1) := by decide +kernel
theorem dX6_digit_66 : decode cX6_digit 66 = .ok (.getfield 71, 3) := by decide +kernel
theorem dX6_digit_69 : decode cX6_digit 69 = .ok (.ifCond .le 5, 3) := by decide +kernel
theorem dX6_digit_72 : decode cX6_digit 72 = .ok (.iconst 0, 1) := by decide +kernel
theorem dX6_digit_73 : decode cX6_digit 73 = .ok (.ireturn, 1) := by decide +kernel
theorem dX6_digit_74 : decode cX6_digit 74 = .ok (.iload 4, 2) := by decide +kernel
theorem dX6_digit_76 : decode cX6_digit 76 = .ok (.iconst 1, 1) := by decide +kernel
theorem dX6_digit_77 : decode cX6_digit 77 = .ok (.isub, 1) := by decide +kernel
theorem dX6_digit_78 : decode cX6_digit 78 = .ok (.istore 5, 2) := by decide +kernel
theorem dX6_digit_80 : decode cX6_digit 80 = .ok (.iload 5, 2) := by decide +kernel
theorem dX6_digit_82 : decode cX6_digit 82 = .ok (.iload_n 1, 1) := by decide +kernel
theorem dX6_digit_83 : decode cX6_digit 83 = .ok (.if_icmp .le 15, 3) := by decide +kernel
theorem dX6_digit_86 : decode cX6_digit 86 = .ok (.lload_n 2, 1) := by decide +kernel
theorem dX6_digit_87 : decode cX6_digit 87 = .ok (.ldc2_w 138, 3) := by decide +kernel
theorem dX6_digit_90 : decode cX6_digit 90 = .ok (.ldiv, 1) := by decide +kernel
theorem dX6_digit_91 : decode cX6_digit 91 = .ok (.lstore_n 2, 1) := by decide +kernel
theorem dX6_digit_92 : decode cX6_digit 92 = .ok (.iinc 5 (-1), 3) := by decide +kernel
theorem dX6_digit_95 : decode cX6_digit 95 = .ok (.goto (-15), 3) := by decide +kernel
theorem dX6_digit_98 : decode cX6_digit 98 = .ok (.lload_n 2, 1) := by decide +kernel
theorem dX6_digit_99 : decode cX6_digit 99 = .ok (.ldc2_w 138, 3) := by decide +kernel
theorem dX6_digit_102 : decode cX6_digit 102 = .ok (.lrem, 1) := by decide +kernel
theorem dX6_digit_103 : decode cX6_digit 103 = .ok (.l2i, 1) := by decide +kernel
theorem dX6_digit_104 : decode cX6_digit 104 = .ok (.ireturn, 1) := by decide +kernel
theorem dX6_tester_0 : decode cX6_tester 0 = .ok (.aload_n 0, 1) := by decide +kernel
theorem dX6_tester_1 : decode cX6_tester 1 = .ok (.iconst 0, 1) := by decide +kernel
theorem dX6_tester_2 : decode cX6_tester 2 = .ok (.putfield 71, 3) := by decide +kernel
theorem dX6_tester_5 : decode cX6_tester 5 = .ok (.iload_n 1, 1) := by decide +kernel
theorem dX6_tester_6 : decode cX6_tester 6 = .ok (.iconst 1, 1) := by decide +kernel
theorem dX6_tester_7 : decode cX6_tester 7 = .ok (.if_icmp .lt 8, 3) := by decide +kernel
theorem dX6_tester_10 : decode cX6_tester 10 = .ok (.iload_n 1, 1) := by decide +kernel
theorem dX6_tester_11 : decode cX6_tester 11 = .ok (.iconst 4, 1) := by decide +kernel
theorem dX6_tester_12 : decode cX6_tester 12 = .ok (.if_icmp .le 6, 3) := by decide +kernel
theorem dX6_tester_15 : decode cX6_tester 15 = .ok (.bipush (-2), 2) := by decide +kernel
theorem dX6_tester_17 : decode cX6_tester 17 = .ok (.ireturn, 1) := by decide +kernel
theorem dX6_tester_18 : decode cX6_tester 18 = .ok (.aload_n 0, 1) := by decide +kernel
theorem dX6_tester_19 : decode cX6_tester 19 = .ok (.getfield 96, 3) := by decide +kernel
theorem dX6_tester_22 : decode cX6_tester 22 = .ok (.iconst 1, 1) := by decide +kernel
theorem dX6_tester_23 : decode cX6_tester 23 = .ok (.iadd, 1) := by decide +kernel
theorem dX6_tester_24 : decode cX6_tester 24 = .ok (.istore_n 2, 1) := by decide +kernel
theorem dX6_tester_25 : decode cX6_tester 25 = .ok (.aload_n 0, 1) := by decide +kernel
theorem dX6_tester_26 : decode cX6_tester 26 = .ok (.iload_n 1, 1) := by decide +kernel
theorem dX6_tester_27 : decode cX6_tester 27 = .ok (.iconst 1, 1) := by decide +kernel
theorem dX6_tester_28 : decode cX6_tester 28 = .ok (.isub, 1) := by decide +kernel
theorem dX6_tester_29 : decode cX6_tester 29 = .ok (.putfield 96, 3) := by decide +kernel
theorem dX6_tester_32 : decode cX6_tester 32 = .ok (.iload_n 2, 1) := by decide +kernel
theorem dX6_tester_33 : decode cX6_tester 33 = .ok (.ireturn, 1) := by decide +kernel
theorem dJx00060_init_da8c8_0 : decode cJx00060_init_da8c8 0 = .ok (.aload_n 0, 1) := by decide +kernel
theorem dJx00060_init_da8c8_1 : decode cJx00060_init_da8c8 1 = .ok (.invokespecial 1, 3) := by decide +kernel
theorem dJx00060_init_da8c8_4 : decode cJx00060_init_da8c8 4 = .ok (.return_, 1) := by decide +kernel
theorem dJx00060_init_a7421_0 : decode cJx00060_init_a7421 0 = .ok (.aload_n 0, 1) := by decide +kernel
theorem dJx00060_init_a7421_1 : decode cJx00060_init_a7421 1 = .ok (.aload_n 1, 1) := by decide +kernel
theorem dJx00060_init_a7421_2 : decode cJx00060_init_a7421 2 = .ok (.invokespecial 7, 3) := by decide +kernel
theorem dJx00060_init_a7421_5 : decode cJx00060_init_a7421 5 = .ok (.return_, 1) := by decide +kernel
theorem dJ7_fill_d0a16_0 : decode cJ7_fill_d0a16 0 = .ok (.iconst 0, 1) := by decide +kernel
theorem dJ7_fill_d0a16_1 : decode cJ7_fill_d0a16 1 = .ok (.istore_n 3, 1) := by decide +kernel
theorem dJ7_fill_d0a16_2 : decode cJ7_fill_d0a16 2 = .ok (.aload_n 0, 1) := by decide +kernel
theorem dJ7_fill_d0a16_3 : decode cJ7_fill_d0a16 3 = .ok (.arraylength, 1) := by decide +kernel
theorem dJ7_fill_d0a16_4 : decode cJ7_fill_d0a16 4 = .ok (.istore 4, 2) := by decide +kernel
theorem dJ7_fill_d0a16_6 : decode cJ7_fill_d0a16 6 = .ok (.iload_n 3, 1) := by decide +kernel
theorem dJ7_fill_d0a16_7 : decode cJ7_fill_d0a16 7 = .ok (.iload 4, 2) := by decide +kernel
theorem dJ7_fill_d0a16_9 : decode cJ7_fill_d0a16 9 = .ok (.if_icmp .ge 13, 3) := by decide +kernel
theorem dJ7_fill_d0a16_12 : decode cJ7_fill_d0a16 12 = .ok (.aload_n 0, 1) := by decide +kernel
theorem dJ7_fill_d0a16_13 : decode cJ7_fill_d0a16 13 = .ok (.iload_n 3, 1) := by decide +kernel
theorem dJ7_fill_d0a16_14 : decode cJ7_fill_d0a16 14 = .ok (.lload_n 1, 1) := by decide +kernel
theorem dJ7_fill_d0a16_15 : decode cJ7_fill_d0a16 15 = .ok (.lastore, 1) := by decide +kernel
theorem dJ7_fill_d0a16_16 : decode cJ7_fill_d0a16 16 = .ok (.iinc 3 1, 3) := by decide +kernel
theorem dJ7_fill_d0a16_19 : decode cJ7_fill_d0a16 19 = .ok (.goto (-13), 3) := by decide +kernel
theorem dJ7_fill_d0a16_22 : decode cJ7_fill_d0a16 22 = .ok (.return_, 1) := by decide +kernel
set_option maxRecDepth 20000 in
theorem ggL_out_X5_out : GoodIn wsL_out wsX5_out := goodIn_r _ [5, 6, 7, 8, 9, 10, 11, 12, 13, 14, 15, 16, 17, 18, 19, 20, 21, 22, 23, 24, 25, 26, 27, 28, 29, 30, 31, 32, 33, 34] (by decide +kernel) (by decide +kernel)
set_option maxRecDepth 20000 in
theorem gL_out_X5_out : GoodIn wsL_out (wsV RL 7 RX5 yX5_out wsX5_out) := goodIn_app (goodIn_of _ (by decide +kernel)) ggL_out_X5_out
theorem dL_out_0 : decode cL_out 0 = .ok (.aload_n 2, 1) := by decide +kernel
theorem dL_out_1 : decode cL_out 1 = .ok (.iconst 0, 1) := by decide +kernel
theorem dL_out_2 : decode cL_out 2 = .ok (.aload_n 0, 1) := by decide +kernel
theorem dL_out_3 : decode cL_out 3 = .ok (.iload_n 1, 1) := by decide +kernel
theorem dL_out_4 : decode cL_out 4 = .ok (.invokevirtual 7, 3) := by decide +kernel
theorem dL_out_7 : decode cL_out 7 = .ok (.i2l, 1) := by decide +kernel
theorem dL_out_8 : decode cL_out 8 = .ok (.lastore, 1) := by decide +kernel
theorem dL_out_9 : decode cL_out 9 = .ok (.goto 6, 3) := by decide +kernel
theorem dL_out_12 : decode cL_out 12 = .ok (.astore_n 3, 1) := by decide +kernel
theorem dL_out_13 : decode cL_out 13 = .ok (.iconst 1, 1) := by decide +kernel
theorem dL_out_14 : decode cL_out 14 = .ok (.ireturn, 1) := by decide +kernel
theorem dL_out_15 : decode cL_out 15 = .ok (.iconst 0, 1) := by decide +kernel
theorem dL_out_16 : decode cL_out 16 = .ok (.ireturn, 1) := by decide +kernel
set_option maxRecDepth 20000 in
theorem ggL_digit_X5_digit : GoodIn wsL_digit wsX5_digit := goodIn_r _ [5, 6, 7, 8, 9, 10, 11, 12, 13, 4, 14, 15, 16, 17, 18, 19, 20, 21, 22, 23, 24, 25, 26, 27, 28, 29, 30, 31, 32, 33, 34, 35, 36, 37, 38, 39] (by decide +kernel) (by decide +kernel)
set_option maxRecDepth 20000 in
theorem gL_digit_X5_digit : GoodIn wsL_digit (wsV RL 15 RX5 yX5_digit wsX5_digit) := goodIn_app (goodIn_of _ (by decide +kernel)) ggL_digit_X5_digit
theorem dL_digit_0 : decode cL_digit 0 = .ok (.aload_n 2, 1) := by decide +kernel
theorem dL_digit_1 : decode cL_digit 1 = .ok (.iconst 0, 1) := by decide +kernel
theorem dL_digit_2 : decode cL_digit 2 = .ok (.aload_n 0, 1) := by decide +kernel
theorem dL_digit_3 : decode cL_digit 3 = .ok (.iload_n 1, 1) := by decide +kernel
theorem dL_digit_4 : decode cL_digit 4 = .ok (.invokevirtual 15, 3) := by decide +kernel
theorem dL_digit_7 : decode cL_digit 7 = .ok (.i2l, 1) := by decide +kernel
theorem dL_digit_8 : decode cL_digit 8 = .ok (.lastore, 1) := by decide +kernel
theorem dL_digit_9 : decode cL_digit 9 = .ok (.goto 6, 3) := by decide +kernel
theorem dL_digit_12 : decode cL_digit 12 = .ok (.astore_n 3, 1) := by decide +kernel
theorem dL_digit_13 : decode cL_digit 13 = .ok (.iconst 1, 1) := by decide +kernel
theorem dL_digit_14 : decode cL_digit 14 = .ok (.ireturn, 1) := by decide +kernel
theorem dL_digit_15 : decode cL_digit 15 = .ok (.iconst 0, 1) := by decide +kernel
theorem dL_digit_16 : decode cL_digit 16 = .ok (.ireturn, 1) := by decide +kernel
set_option maxRecDepth 20000 in
theorem ggL_law_X5_init : GoodIn wsL_law wsX5_init := goodIn_r _ [10, 11, 12, 13, 14, 15, 16, 17, 18, 19, 20, 21, 22, 23, 24, 25, 26, 27, 28, 29, 30, 31, 32, 33, 34, 35, 36, 37, 38, 39, 40, 41, 42, 43, 44, 45, 46, 47, 48, 49, 50, 51, 52, 53, 54, 55, 6, 56, 57, 58, 59, 60, 61, 386, 387, 388, 389, 390, 391, 392, 393, 421, 422, 423, 424, 425, 426, 427, 428, 429, 430, 431, 432, 433, 434, 435, 436, 437, 438, 439] (by decide +kernel) (by decide +kernel)
set_option maxRecDepth 20000 in
theorem gL_law_X5_init : GoodIn wsL_law (wsX5_init) := ggL_law_X5_init
set_option maxRecDepth 20000 in
theorem ggL_law_X6_init : GoodIn wsL_law wsX6_init := goodIn_ca (goodIn_r _ [64, 65, 12, 13, 36, 66, 67, 6, 68, 69, 70, 71, 72, 73, 74, 75, 76, 77, 78, 79, 80, 81, 82, 83, 84, 85, 86, 394, 395, 396, 397, 398, 399, 400, 401, 402, 403, 404, 405, 406, 407, 408, 409, 410, 411, 412, 413, 414, 415, 416, 417, 418, 419, 420] (by decide +kernel) (by decide +kernel)) (goodIn_sub (fun _ h => List.mem_append_right _ h) (by decide +kernel))
set_option maxRecDepth 20000 in
theorem gL_law_X6_init : GoodIn wsL_law (wsX6_init) := ggL_law_X6_init
set_option maxRecDepth 20000 in
theorem ggL_law_X5_level : GoodIn wsL_law wsX5_level := goodIn_r _ [90, 91, 15, 14, 92, 93, 94, 95, 96, 97, 98, 12, 13, 99, 100, 101, 102, 386, 387, 388, 389, 390, 391, 392, 393, 440, 441, 442, 443] (by decide +kernel) (by decide +kernel)
set_option maxRecDepth 20000 in
theorem gL_law_X5_level : GoodIn wsL_law (wsV RL 25 RX5 yX5_level wsX5_level) := goodIn_app (goodIn_of _ (by decide +kernel)) ggL_law_X5_level
set_option maxRecDepth 20000 in
theorem ggL_law_X6_level : GoodIn wsL_law wsX6_level := goodIn_ca (goodIn_r _ [106, 107, 108, 66, 67, 68, 109, 110, 111, 112, 5, 113, 394, 395, 396, 397, 398, 399, 400, 401, 402, 403, 404, 405, 406, 407, 408, 409, 410, 411, 412, 413, 414, 415, 416, 417, 418, 419, 420] (by decide +kernel) (by decide +kernel)) (goodIn_sub (fun _ h => List.mem_append_right _ h) (by decide +kernel))
set_option maxRecDepth 20000 in
theorem gL_law_X6_level : GoodIn wsL_law (wsV RL 29 RX6 yX6_level wsX6_level) := goodIn_app (goodIn_of _ (by decide +kernel)) ggL_law_X6_level
set_option maxRecDepth 20000 in
theorem ggL_law_X5_tape : GoodIn wsL_law wsX5_tape := goodIn_ca (goodIn_r _ [117, 19, 118, 119, 120, 18, 121, 122, 37, 123, 386, 387, 388, 389, 390, 391, 392, 393, 421, 422, 423] (by decide +kernel) (by decide +kernel)) (goodIn_sub (fun _ h => List.mem_append_right _ h) (by decide +kernel))
set_option maxRecDepth 20000 in
theorem gL_law_X5_tape : GoodIn wsL_law (wsV RL 30 RX5 yX5_tape wsX5_tape) := goodIn_app (goodIn_of _ (by decide +kernel)) ggL_law_X5_tape
set_option maxRecDepth 20000 in
theorem ggL_law_X6_tape : GoodIn wsL_law wsX6_tape := goodIn_ca (goodIn_r _ [127, 107, 128, 129, 69, 394, 395, 396, 397, 398, 399, 400, 401, 402, 403, 404, 405, 406, 407, 408, 409, 410, 411, 412, 413, 414, 415, 416, 417, 418, 419, 420] (by decide +kernel) (by decide +kernel)) (goodIn_sub (fun _ h => List.mem_append_right _ h) (by decide +kernel))
set_option maxRecDepth 20000 in
theorem gL_law_X6_tape : GoodIn wsL_law (wsV RL 34 RX6 yX6_tape wsX6_tape) := goodIn_app (goodIn_of _ (by decide +kernel)) ggL_law_X6_tape
set_option maxRecDepth 20000 in
theorem ggL_law_X5_seed : GoodIn wsL_law wsX5_seed := goodIn_ca (goodIn_r _ [133, 134, 135, 27, 32, 136, 137, 138, 2, 139, 15, 140, 141, 142, 143, 19, 23, 144, 145, 146, 93, 147, 99, 148, 149, 150, 151, 152, 153, 154, 31, 155, 56, 51, 156, 157, 158, 18, 159, 122, 160, 161, 162, 163, 123, 37, 164, 165, 166, 167, 168, 169, 22, 170, 171, 41, 172, 173, 174, 175, 176, 177, 178, 179, 180, 54, 181, 182, 183, 184, 26, 185, 186, 187, 45, 386, 387, 388, 389, 390, 391, 392, 393, 429, 430, 431, 432, 433, 434, 435, 436, 437, 438, 439, 440, 441, 442, 443, 421, 422, 423, 424, 425, 426, 427, 428] (by decide +kernel) (by decide +kernel)) (goodIn_sub (fun _ h => List.mem_append_right _ h) (by decide +kernel))
set_option maxRecDepth 20000 in
theorem gL_law_X5_seed : GoodIn wsL_law (wsV RL 35 RX5 yX5_seed wsX5_seed) := goodIn_app (goodIn_of _ (by decide +kernel)) ggL_law_X5_seed
set_option maxRecDepth 20000 in
theorem ggL_law_X6_seed : GoodIn wsL_law wsX6_seed := goodIn_ca (goodIn_r _ [191, 107, 192, 193, 110, 111, 112, 5, 113, 67, 194, 195, 196, 197, 71, 198, 73, 74, 77, 81, 129, 128, 69, 70, 199, 75, 76, 200, 201, 202, 203, 204, 205, 206, 207, 208, 209, 210, 211, 84, 85, 86, 394, 395, 396, 397, 398, 399, 400, 401, 402, 403, 404, 405, 406, 407, 408, 409, 410, 411, 412, 413, 414, 415, 416, 417, 418, 419, 420] (by decide +kernel) (by decide +kernel)) (goodIn_sub (fun _ h => List.mem_append_right _ h) (by decide +kernel))
set_option maxRecDepth 20000 in
theorem gL_law_X6_seed : GoodIn wsL_law (wsV RL 39 RX6 yX6_seed wsX6_seed) := goodIn_app (goodIn_of _ (by decide +kernel)) ggL_law_X6_seed
set_option maxRecDepth 20000 in
theorem ggL_law_L_out : GoodIn wsL_law wsL_out := goodIn_ca (goodIn_r _ [215, 216, 217, 218, 2, 219, 220, 221, 222, 32, 444, 445, 446, 447, 448, 449, 386, 387, 388, 389, 390, 391, 392, 393, 429, 430, 431, 432, 433, 434, 435, 436, 437, 438, 439] (by decide +kernel) (by decide +kernel)) (goodIn_sub (fun _ h => List.mem_append_right _ h) (by decide +kernel))
set_option maxRecDepth 20000 in
theorem gL_law_L_out : GoodIn wsL_law (va_wsS RL 40 yL_out wsL_out) := goodIn_app (goodIn_of _ (by decide +kernel)) ggL_law_L_out
set_option maxRecDepth 20000 in
theorem ggL_law_X6_out : GoodIn wsL_law wsX6_out := goodIn_ca (goodIn_r _ [226, 107, 77, 198, 394, 395, 396, 397, 398, 399, 400, 401, 402, 403, 404, 405, 406, 407, 408, 409, 410, 411, 412, 413, 414, 415, 416, 417, 418, 419, 420] (by decide +kernel) (by decide +kernel)) (goodIn_sub (fun _ h => List.mem_append_right _ h) (by decide +kernel))
set_option maxRecDepth 20000 in
theorem gL_law_X6_out : GoodIn wsL_law (wsV RL 45 RX6 yX6_out wsX6_out) := goodIn_app (goodIn_of _ (by decide +kernel)) ggL_law_X6_out
set_option maxRecDepth 20000 in
theorem ggL_law_X6_thrown : GoodIn wsL_law wsX6_thrown := goodIn_r _ [230, 107, 394, 395, 396, 397, 398, 399, 400, 401, 402, 403, 404, 405, 406, 407, 408, 409, 410, 411, 412, 413, 414, 415, 416, 417, 418, 419, 420] (by decide +kernel) (by decide +kernel)
set_option maxRecDepth 20000 in
theorem gL_law_X6_thrown : GoodIn wsL_law (wsV RL 46 RX6 yX6_thrown wsX6_thrown) := goodIn_app (goodIn_of _ (by decide +kernel)) ggL_law_X6_thrown
set_option maxRecDepth 20000 in
theorem ggL_law_X5_key : GoodIn wsL_law wsX5_key := goodIn_ca (goodIn_r _ [234, 32, 27, 235, 236, 237, 31, 238, 239, 240, 241, 242, 243, 244, 136, 137, 138, 2, 139, 15, 245, 246, 247, 248, 134, 249, 250, 251, 93, 252, 100, 253, 254, 99, 255, 256, 257, 258, 259, 260, 261, 262, 263, 55, 264, 265, 266, 267, 268, 269, 270, 271, 56, 182, 183, 184, 26, 185, 186, 187, 45, 386, 387, 388, 389, 390, 391, 392, 393, 429, 430, 431, 432, 433, 434, 435, 436, 437, 438, 439, 440, 441, 442, 443, 426, 427, 428] (by decide +kernel) (by decide +kernel)) (goodIn_sub (fun _ h => List.mem_append_right _ h) (by decide +kernel))
set_option maxRecDepth 20000 in
theorem gL_law_X5_key : GoodIn wsL_law (wsV RL 50 RX5 yX5_key wsX5_key) := goodIn_app (goodIn_of _ (by decide +kernel)) ggL_law_X5_key
set_option maxRecDepth 20000 in
theorem ggL_law_X6_key : GoodIn wsL_law wsX6_key := goodIn_ca (goodIn_r _ [275, 107, 79, 198, 78, 110, 111, 112, 5, 113, 67, 276, 277, 278, 279, 75, 76, 74, 80, 81, 192, 68, 83, 280, 281, 282, 283, 66, 284, 285, 286, 207, 208, 209, 210, 211, 84, 85, 86, 394, 395, 396, 397, 398, 399, 400, 401, 402, 403, 404, 405, 406, 407, 408, 409, 410, 411, 412, 413, 414, 415, 416, 417, 418, 419, 420] (by decide +kernel) (by decide +kernel)) (goodIn_sub (fun _ h => List.mem_append_right _ h) (by decide +kernel))
set_option maxRecDepth 20000 in
theorem gL_law_X6_key : GoodIn wsL_law (wsV RL 54 RX6 yX6_key wsX6_key) := goodIn_app (goodIn_of _ (by decide +kernel)) ggL_law_X6_key
set_option maxRecDepth 20000 in
theorem ggL_law_X5_open : GoodIn wsL_law wsX5_open := goodIn_r _ [290, 32, 136, 137, 138, 2, 139, 15, 386, 387, 388, 389, 390, 391, 392, 393, 429, 430, 431, 432, 433, 434, 435, 436, 437, 438, 439] (by decide +kernel) (by decide +kernel)
set_option maxRecDepth 20000 in
theorem gL_law_X5_open : GoodIn wsL_law (wsV RL 55 RX5 yX5_open wsX5_open) := goodIn_app (goodIn_of _ (by decide +kernel)) ggL_law_X5_open
set_option maxRecDepth 20000 in
theorem ggL_law_X6_open : GoodIn wsL_law wsX6_open := goodIn_ca (goodIn_r _ [294, 107, 74, 198, 110, 111, 112, 5, 113, 67, 394, 395, 396, 397, 398, 399, 400, 401, 402, 403, 404, 405, 406, 407, 408, 409, 410, 411, 412, 413, 414, 415, 416, 417, 418, 419, 420] (by decide +kernel) (by decide +kernel)) (goodIn_sub (fun _ h => List.mem_append_right _ h) (by decide +kernel))
set_option maxRecDepth 20000 in
theorem gL_law_X6_open : GoodIn wsL_law (wsV RL 58 RX6 yX6_open wsX6_open) := goodIn_app (goodIn_of _ (by decide +kernel)) ggL_law_X6_open
set_option maxRecDepth 20000 in
theorem ggL_law_X5_session : GoodIn wsL_law wsX5_session := goodIn_r _ [298, 32, 299, 300, 301, 31, 302, 50, 54, 53, 51, 52, 386, 387, 388, 389, 390, 391, 392, 393, 429, 430, 431, 432, 433, 434, 435, 436, 437, 438, 439] (by decide +kernel) (by decide +kernel)
set_option maxRecDepth 20000 in
theorem gL_law_X5_session : GoodIn wsL_law (wsV RL 59 RX5 yX5_session wsX5_session) := goodIn_app (goodIn_of _ (by decide +kernel)) ggL_law_X5_session
set_option maxRecDepth 20000 in
theorem ggL_law_X6_session : GoodIn wsL_law wsX6_session := goodIn_ca (goodIn_r _ [306, 107, 71, 198, 307, 308, 309, 5, 310, 75, 74, 73, 72, 394, 395, 396, 397, 398, 399, 400, 401, 402, 403, 404, 405, 406, 407, 408, 409, 410, 411, 412, 413, 414, 415, 416, 417, 418, 419, 420] (by decide +kernel) (by decide +kernel)) (goodIn_sub (fun _ h => List.mem_append_right _ h) (by decide +kernel))
set_option maxRecDepth 20000 in
theorem gL_law_X6_session : GoodIn wsL_law (wsV RL 62 RX6 yX6_session wsX6_session) := goodIn_app (goodIn_of _ (by decide +kernel)) ggL_law_X6_session
set_option maxRecDepth 20000 in
theorem ggL_law_X5_reset : GoodIn wsL_law wsX5_reset := goodIn_r _ [314, 29, 23, 299, 300, 301, 31, 302, 50, 54, 53, 51, 52, 241, 242, 243, 244, 239, 240, 315, 316, 317, 22, 318, 171, 386, 387, 388, 389, 390, 391, 392, 393, 429, 430, 431, 432, 433, 434, 435, 436, 437, 438, 439, 424, 425] (by decide +kernel) (by decide +kernel)
set_option maxRecDepth 20000 in
theorem gL_law_X5_reset : GoodIn wsL_law (wsV RL 63 RX5 yX5_reset wsX5_reset) := goodIn_app (goodIn_of _ (by decide +kernel)) ggL_law_X5_reset
set_option maxRecDepth 20000 in
theorem ggL_law_X6_reset : GoodIn wsL_law wsX6_reset := goodIn_ca (goodIn_r _ [322, 107, 74, 78, 79, 199, 307, 308, 309, 5, 310, 71, 75, 73, 72, 394, 395, 396, 397, 398, 399, 400, 401, 402, 403, 404, 405, 406, 407, 408, 409, 410, 411, 412, 413, 414, 415, 416, 417, 418, 419, 420] (by decide +kernel) (by decide +kernel)) (goodIn_sub (fun _ h => List.mem_append_right _ h) (by decide +kernel))
set_option maxRecDepth 20000 in
theorem gL_law_X6_reset : GoodIn wsL_law (wsV RL 66 RX6 yX6_reset wsX6_reset) := goodIn_app (goodIn_of _ (by decide +kernel)) ggL_law_X6_reset
set_option maxRecDepth 20000 in
theorem ggL_law_X5_role : GoodIn wsL_law wsX5_role := goodIn_r _ [326, 134, 32, 386, 387, 388, 389, 390, 391, 392, 393, 429, 430, 431, 432, 433, 434, 435, 436, 437, 438, 439] (by decide +kernel) (by decide +kernel)
set_option maxRecDepth 20000 in
theorem gL_law_X5_role : GoodIn wsL_law (wsV RL 67 RX5 yX5_role wsX5_role) := goodIn_app (goodIn_of _ (by decide +kernel)) ggL_law_X5_role
set_option maxRecDepth 20000 in
theorem ggL_law_X6_role : GoodIn wsL_law wsX6_role := goodIn_ca (goodIn_r _ [330, 107, 192, 73, 198, 394, 395, 396, 397, 398, 399, 400, 401, 402, 403, 404, 405, 406, 407, 408, 409, 410, 411, 412, 413, 414, 415, 416, 417, 418, 419, 420] (by decide +kernel) (by decide +kernel)) (goodIn_sub (fun _ h => List.mem_append_right _ h) (by decide +kernel))
set_option maxRecDepth 20000 in
theorem gL_law_X6_role : GoodIn wsL_law (wsV RL 71 RX6 yX6_role wsX6_role) := goodIn_app (goodIn_of _ (by decide +kernel)) ggL_law_X6_role
set_option maxRecDepth 20000 in
theorem ggL_law_X5_left : GoodIn wsL_law wsX5_left := goodIn_ca (goodIn_r _ [334, 32, 335, 336, 136, 137, 138, 2, 139, 15, 152, 153, 154, 31, 155, 56, 51, 386, 387, 388, 389, 390, 391, 392, 393, 429, 430, 431, 432, 433, 434, 435, 436, 437, 438, 439] (by decide +kernel) (by decide +kernel)) (goodIn_sub (fun _ h => List.mem_append_right _ h) (by decide +kernel))
set_option maxRecDepth 20000 in
theorem gL_law_X5_left : GoodIn wsL_law (wsV RL 72 RX5 yX5_left wsX5_left) := goodIn_app (goodIn_of _ (by decide +kernel)) ggL_law_X5_left
set_option maxRecDepth 20000 in
theorem ggL_law_X6_left : GoodIn wsL_law wsX6_left := goodIn_ca (goodIn_r _ [340, 107, 81, 198, 83, 341, 342, 110, 111, 112, 5, 113, 67, 394, 395, 396, 397, 398, 399, 400, 401, 402, 403, 404, 405, 406, 407, 408, 409, 410, 411, 412, 413, 414, 415, 416, 417, 418, 419, 420] (by decide +kernel) (by decide +kernel)) (goodIn_sub (fun _ h => List.mem_append_right _ h) (by decide +kernel))
set_option maxRecDepth 20000 in
theorem gL_law_X6_left : GoodIn wsL_law (wsV RL 75 RX6 yX6_left wsX6_left) := goodIn_app (goodIn_of _ (by decide +kernel)) ggL_law_X6_left
set_option maxRecDepth 20000 in
theorem ggL_law_X5_log : GoodIn wsL_law wsX5_log := goodIn_ca (goodIn_r _ [346, 27, 347, 348, 349, 26, 350, 187, 351, 352, 353, 354, 45, 355, 386, 387, 388, 389, 390, 391, 392, 393, 426, 427, 428] (by decide +kernel) (by decide +kernel)) (goodIn_sub (fun _ h => List.mem_append_right _ h) (by decide +kernel))
set_option maxRecDepth 20000 in
theorem gL_law_X5_log : GoodIn wsL_law (wsV RL 76 RX5 yX5_log wsX5_log) := goodIn_app (goodIn_of _ (by decide +kernel)) ggL_law_X5_log
set_option maxRecDepth 20000 in
theorem ggL_law_X6_log : GoodIn wsL_law wsX6_log := goodIn_ca (goodIn_r _ [359, 107, 211, 84, 85, 86, 394, 395, 396, 397, 398, 399, 400, 401, 402, 403, 404, 405, 406, 407, 408, 409, 410, 411, 412, 413, 414, 415, 416, 417, 418, 419, 420] (by decide +kernel) (by decide +kernel)) (goodIn_sub (fun _ h => List.mem_append_right _ h) (by decide +kernel))
set_option maxRecDepth 20000 in
theorem gL_law_X6_log : GoodIn wsL_law (wsV RL 80 RX6 yX6_log wsX6_log) := goodIn_app (goodIn_of _ (by decide +kernel)) ggL_law_X6_log
set_option maxRecDepth 20000 in
theorem ggL_law_L_digit : GoodIn wsL_law wsL_digit := goodIn_ca (goodIn_r _ [362, 363, 364, 365, 2, 366, 32, 367, 220, 221, 222, 368, 369, 370, 371, 386, 387, 388, 389, 390, 391, 392, 393, 429, 430, 431, 432, 433, 434, 435, 436, 437, 438, 439, 444, 445, 446, 447, 448, 449] (by decide +kernel) (by decide +kernel)) (goodIn_sub (fun _ h => List.mem_append_right _ h) (by decide +kernel))
set_option maxRecDepth 20000 in
theorem gL_law_L_digit : GoodIn wsL_law (va_wsS RL 81 yL_digit wsL_digit) := goodIn_app (goodIn_of _ (by decide +kernel)) ggL_law_L_digit
set_option maxRecDepth 20000 in
theorem ggL_law_X6_digit : GoodIn wsL_law wsX6_digit := goodIn_ca (goodIn_r _ [375, 77, 198, 376, 377, 107, 394, 395, 396, 397, 398, 399, 400, 401, 402, 403, 404, 405, 406, 407, 408, 409, 410, 411, 412, 413, 414, 415, 416, 417, 418, 419, 420] (by decide +kernel) (by decide +kernel)) (goodIn_sub (fun _ h => List.mem_append_right _ h) (by decide +kernel))
set_option maxRecDepth 20000 in
theorem gL_law_X6_digit : GoodIn wsL_law (wsV RL 83 RX6 yX6_digit wsX6_digit) := goodIn_app (goodIn_of _ (by decide +kernel)) ggL_law_X6_digit
set_option maxRecDepth 20000 in
theorem ggL_law_X5_tester : GoodIn wsL_law wsX5_tester := goodIn_r _ [381, 32, 29, 386, 387, 388, 389, 390, 391, 392, 393, 429, 430, 431, 432, 433, 434, 435, 436, 437, 438, 439] (by decide +kernel) (by decide +kernel)
set_option maxRecDepth 20000 in
theorem gL_law_X5_tester : GoodIn wsL_law (wsV RL 84 RX5 yX5_tester wsX5_tester) := goodIn_app (goodIn_of _ (by decide +kernel)) ggL_law_X5_tester
set_option maxRecDepth 20000 in
theorem ggL_law_X6_tester : GoodIn wsL_law wsX6_tester := goodIn_r _ [385, 107, 198, 394, 395, 396, 397, 398, 399, 400, 401, 402, 403, 404, 405, 406, 407, 408, 409, 410, 411, 412, 413, 414, 415, 416, 417, 418, 419, 420] (by decide +kernel) (by decide +kernel)
set_option maxRecDepth 20000 in
theorem gL_law_X6_tester : GoodIn wsL_law (wsV RL 87 RX6 yX6_tester wsX6_tester) := goodIn_app (goodIn_of _ (by decide +kernel)) ggL_law_X6_tester
theorem dL_law_0 : decode cL_law 0 = .ok (.new 8, 3) := by decide +kernel
theorem dL_law_3 : decode cL_law 3 = .ok (.dup, 1) := by decide +kernel
theorem dL_law_4 : decode cL_law 4 = .ok (.invokespecial 19, 3) := by decide +kernel
theorem dL_law_7 : decode cL_law 7 = .ok (.astore_n 1, 1) := by decide +kernel
theorem dL_law_8 : decode cL_law 8 = .ok (.new 20, 3) := by decide +kernel
theorem dL_law_11 : decode cL_law 11 = .ok (.dup, 1) := by decide +kernel
theorem dL_law_12 : decode cL_law 12 = .ok (.invokespecial 22, 3) := by decide +kernel
theorem dL_law_15 : decode cL_law 15 = .ok (.astore_n 2, 1) := by decide +kernel
theorem dL_law_16 : decode cL_law 16 = .ok (.iconst 1, 1) := by decide +kernel
theorem dL_law_17 : decode cL_law 17 = .ok (.newarray .long, 2) := by decide +kernel
theorem dL_law_19 : decode cL_law 19 = .ok (.astore_n 3, 1) := by decide +kernel
theorem dL_law_20 : decode cL_law 20 = .ok (.iconst 0, 1) := by decide +kernel
theorem dL_law_21 : decode cL_law 21 = .ok (.istore 4, 2) := by decide +kernel
theorem dL_law_23 : decode cL_law 23 = .ok (.iload 4, 2) := by decide +kernel
theorem dL_law_25 : decode cL_law 25 = .ok (.aload_n 0, 1) := by decide +kernel
theorem dL_law_26 : decode cL_law 26 = .ok (.arraylength, 1) := by decide +kernel
theorem dL_law_27 : decode cL_law 27 = .ok (.bipush 6, 2) := by decide +kernel
theorem dL_law_29 : decode cL_law 29 = .ok (.isub, 1) := by decide +kernel
theorem dL_law_30 : decode cL_law 30 = .ok (.if_icmp .gt 739, 3) := by decide +kernel
theorem dL_law_33 : decode cL_law 33 = .ok (.aload_n 0, 1) := by decide +kernel
theorem dL_law_34 : decode cL_law 34 = .ok (.iload 4, 2) := by decide +kernel
theorem dL_law_36 : decode cL_law 36 = .ok (.iaload, 1) := by decide +kernel
theorem dL_law_37 : decode cL_law 37 = .ok (.bipush 15, 2) := by decide +kernel
theorem dL_law_39 : decode cL_law 39 = .ok (.iand, 1) := by decide +kernel
theorem dL_law_40 : decode cL_law 40 = .ok (.tableswitch 723 0 12 #[68, 161, 184, 253, 309, 376, 401, 426, 439, 536, 605, 642, 698], 68) := by decide +kernel
theorem dL_law_108 : decode cL_law 108 = .ok (.aload_n 1, 1) := by decide +kernel
theorem dL_law_109 : decode cL_law 109 = .ok (.aload_n 0, 1) := by decide +kernel
theorem dL_law_110 : decode cL_law 110 = .ok (.iload 4, 2) := by decide +kernel
theorem dL_law_112 : decode cL_law 112 = .ok (.iconst 1, 1) := by decide +kernel
theorem dL_law_113 : decode cL_law 113 = .ok (.iadd, 1) := by decide +kernel
theorem dL_law_114 : decode cL_law 114 = .ok (.iaload, 1) := by decide +kernel
theorem dL_law_115 : decode cL_law 115 = .ok (.aload_n 0, 1) := by decide +kernel
theorem dL_law_116 : decode cL_law 116 = .ok (.iload 4, 2) := by decide +kernel
theorem dL_law_118 : decode cL_law 118 = .ok (.iconst 2, 1) := by decide +kernel
theorem dL_law_119 : decode cL_law 119 = .ok (.iadd, 1) := by decide +kernel
theorem dL_law_120 : decode cL_law 120 = .ok (.iaload, 1) := by decide +kernel
theorem dL_law_121 : decode cL_law 121 = .ok (.aload_n 0, 1) := by decide +kernel
theorem dL_law_122 : decode cL_law 122 = .ok (.iload 4, 2) := by decide +kernel
theorem dL_law_124 : decode cL_law 124 = .ok (.iconst 3, 1) := by decide +kernel
theorem dL_law_125 : decode cL_law 125 = .ok (.iadd, 1) := by decide +kernel
theorem dL_law_126 : decode cL_law 126 = .ok (.iaload, 1) := by decide +kernel
theorem dL_law_127 : decode cL_law 127 = .ok (.aload_n 0, 1) := by decide +kernel
theorem dL_law_128 : decode cL_law 128 = .ok (.iload 4, 2) := by decide +kernel
theorem dL_law_130 : decode cL_law 130 = .ok (.iconst 4, 1) := by decide +kernel
theorem dL_law_131 : decode cL_law 131 = .ok (.iadd, 1) := by decide +kernel
theorem dL_law_132 : decode cL_law 132 = .ok (.iaload, 1) := by decide +kernel
theorem dL_law_133 : decode cL_law 133 = .ok (.i2l, 1) := by decide +kernel
theorem dL_law_134 : decode cL_law 134 = .ok (.bipush 32, 2) := by decide +kernel
theorem dL_law_136 : decode cL_law 136 = .ok (.lshl, 1) := by decide +kernel
theorem dL_law_137 : decode cL_law 137 = .ok (.aload_n 0, 1) := by decide +kernel
theorem dL_law_138 : decode cL_law 138 = .ok (.iload 4, 2) := by decide +kernel
theorem dL_law_140 : decode cL_law 140 = .ok (.iconst 5, 1) := by decide +kernel
theorem dL_law_141 : decode cL_law 141 = .ok (.iadd, 1) := by decide +kernel
theorem dL_law_142 : decode cL_law 142 = .ok (.iaload, 1) := by decide +kernel
theorem dL_law_143 : decode cL_law 143 = .ok (.i2l, 1) := by decide +kernel
theorem dL_law_144 : decode cL_law 144 = .ok (.ldc2_w 23, 3) := by decide +kernel
theorem dL_law_147 : decode cL_law 147 = .ok (.land, 1) := by decide +kernel
theorem dL_law_148 : decode cL_law 148 = .ok (.lor, 1) := by decide +kernel
theorem dL_law_149 : decode cL_law 149 = .ok (.invokevirtual 25, 3) := by decide +kernel
theorem dL_law_152 : decode cL_law 152 = .ok (.aload_n 2, 1) := by decide +kernel
theorem dL_law_153 : decode cL_law 153 = .ok (.aload_n 0, 1) := by decide +kernel
theorem dL_law_154 : decode cL_law 154 = .ok (.iload 4, 2) := by decide +kernel
theorem dL_law_156 : decode cL_law 156 = .ok (.iconst 1, 1) := by decide +kernel
theorem dL_law_157 : decode cL_law 157 = .ok (.iadd, 1) := by decide +kernel
theorem dL_law_158 : decode cL_law 158 = .ok (.iaload, 1) := by decide +kernel
theorem dL_law_159 : decode cL_law 159 = .ok (.aload_n 0, 1) := by decide +kernel
theorem dL_law_160 : decode cL_law 160 = .ok (.iload 4, 2) := by decide +kernel
theorem dL_law_162 : decode cL_law 162 = .ok (.iconst 2, 1) := by decide +kernel
theorem dL_law_163 : decode cL_law 163 = .ok (.iadd, 1) := by decide +kernel
theorem dL_law_164 : decode cL_law 164 = .ok (.iaload, 1) := by decide +kernel
theorem dL_law_165 : decode cL_law 165 = .ok (.aload_n 0, 1) := by decide +kernel
theorem dL_law_166 : decode cL_law 166 = .ok (.iload 4, 2) := by decide +kernel
theorem dL_law_168 : decode cL_law 168 = .ok (.iconst 3, 1) := by decide +kernel
theorem dL_law_169 : decode cL_law 169 = .ok (.iadd, 1) := by decide +kernel
theorem dL_law_170 : decode cL_law 170 = .ok (.iaload, 1) := by decide +kernel
theorem dL_law_171 : decode cL_law 171 = .ok (.aload_n 0, 1) := by decide +kernel
theorem dL_law_172 : decode cL_law 172 = .ok (.iload 4, 2) := by decide +kernel
theorem dL_law_174 : decode cL_law 174 = .ok (.iconst 4, 1) := by decide +kernel
theorem dL_law_175 : decode cL_law 175 = .ok (.iadd, 1) := by decide +kernel
theorem dL_law_176 : decode cL_law 176 = .ok (.iaload, 1) := by decide +kernel
theorem dL_law_177 : decode cL_law 177 = .ok (.i2l, 1) := by decide +kernel
theorem dL_law_178 : decode cL_law 178 = .ok (.bipush 32, 2) := by decide +kernel
theorem dL_law_180 : decode cL_law 180 = .ok (.lshl, 1) := by decide +kernel
theorem dL_law_181 : decode cL_law 181 = .ok (.aload_n 0, 1) := by decide +kernel
theorem dL_law_182 : decode cL_law 182 = .ok (.iload 4, 2) := by decide +kernel
theorem dL_law_184 : decode cL_law 184 = .ok (.iconst 5, 1) := by decide +kernel
theorem dL_law_185 : decode cL_law 185 = .ok (.iadd, 1) := by decide +kernel
theorem dL_law_186 : decode cL_law 186 = .ok (.iaload, 1) := by decide +kernel
theorem dL_law_187 : decode cL_law 187 = .ok (.i2l, 1) := by decide +kernel
theorem dL_law_188 : decode cL_law 188 = .ok (.ldc2_w 23, 3) := by decide +kernel
theorem dL_law_191 : decode cL_law 191 = .ok (.land, 1) := by decide +kernel
theorem dL_law_192 : decode cL_law 192 = .ok (.lor, 1) := by decide +kernel
theorem dL_law_193 : decode cL_law 193 = .ok (.invokevirtual 29, 3) := by decide +kernel
theorem dL_law_196 : decode cL_law 196 = .ok (.if_icmp .eq 567, 3) := by decide +kernel
theorem dL_law_199 : decode cL_law 199 = .ok (.iconst 0, 1) := by decide +kernel
theorem dL_law_200 : decode cL_law 200 = .ok (.ireturn, 1) := by decide +kernel
theorem dL_law_201 : decode cL_law 201 = .ok (.aload_n 1, 1) := by decide +kernel
theorem dL_law_202 : decode cL_law 202 = .ok (.aload_n 0, 1) := by decide +kernel
theorem dL_law_203 : decode cL_law 203 = .ok (.iload 4, 2) := by decide +kernel
theorem dL_law_205 : decode cL_law 205 = .ok (.iconst 1, 1) := by decide +kernel
theorem dL_law_206 : decode cL_law 206 = .ok (.iadd, 1) := by decide +kernel
theorem dL_law_207 : decode cL_law 207 = .ok (.iaload, 1) := by decide +kernel
theorem dL_law_208 : decode cL_law 208 = .ok (.invokevirtual 30, 3) := by decide +kernel
theorem dL_law_211 : decode cL_law 211 = .ok (.aload_n 2, 1) := by decide +kernel
theorem dL_law_212 : decode cL_law 212 = .ok (.aload_n 0, 1) := by decide +kernel
theorem dL_law_213 : decode cL_law 213 = .ok (.iload 4, 2) := by decide +kernel
theorem dL_law_215 : decode cL_law 215 = .ok (.iconst 1, 1) := by decide +kernel
theorem dL_law_216 : decode cL_law 216 = .ok (.iadd, 1) := by decide +kernel
theorem dL_law_217 : decode cL_law 217 = .ok (.iaload, 1) := by decide +kernel
theorem dL_law_218 : decode cL_law 218 = .ok (.invokevirtual 34, 3) := by decide +kernel
theorem dL_law_221 : decode cL_law 221 = .ok (.goto 542, 3) := by decide +kernel
theorem dL_law_224 : decode cL_law 224 = .ok (.aload_n 1, 1) := by decide +kernel
theorem dL_law_225 : decode cL_law 225 = .ok (.aload_n 0, 1) := by decide +kernel
theorem dL_law_226 : decode cL_law 226 = .ok (.iload 4, 2) := by decide +kernel
theorem dL_law_228 : decode cL_law 228 = .ok (.iconst 1, 1) := by decide +kernel
theorem dL_law_229 : decode cL_law 229 = .ok (.iadd, 1) := by decide +kernel
theorem dL_law_230 : decode cL_law 230 = .ok (.iaload, 1) := by decide +kernel
theorem dL_law_231 : decode cL_law 231 = .ok (.aload_n 0, 1) := by decide +kernel
theorem dL_law_232 : decode cL_law 232 = .ok (.iload 4, 2) := by decide +kernel
theorem dL_law_234 : decode cL_law 234 = .ok (.iconst 2, 1) := by decide +kernel
theorem dL_law_235 : decode cL_law 235 = .ok (.iadd, 1) := by decide +kernel
theorem dL_law_236 : decode cL_law 236 = .ok (.iaload, 1) := by decide +kernel
theorem dL_law_237 : decode cL_law 237 = .ok (.i2l, 1) := by decide +kernel
theorem dL_law_238 : decode cL_law 238 = .ok (.bipush 32, 2) := by decide +kernel
theorem dL_law_240 : decode cL_law 240 = .ok (.lshl, 1) := by decide +kernel
theorem dL_law_241 : decode cL_law 241 = .ok (.aload_n 0, 1) := by decide +kernel
theorem dL_law_242 : decode cL_law 242 = .ok (.iload 4, 2) := by decide +kernel
theorem dL_law_244 : decode cL_law 244 = .ok (.iconst 3, 1) := by decide +kernel
theorem dL_law_245 : decode cL_law 245 = .ok (.iadd, 1) := by decide +kernel
theorem dL_law_246 : decode cL_law 246 = .ok (.iaload, 1) := by decide +kernel
theorem dL_law_247 : decode cL_law 247 = .ok (.i2l, 1) := by decide +kernel
theorem dL_law_248 : decode cL_law 248 = .ok (.ldc2_w 23, 3) := by decide +kernel
theorem dL_law_251 : decode cL_law 251 = .ok (.land, 1) := by decide +kernel
theorem dL_law_252 : decode cL_law 252 = .ok (.lor, 1) := by decide +kernel
theorem dL_law_253 : decode cL_law 253 = .ok (.invokevirtual 35, 3) := by decide +kernel
theorem dL_law_256 : decode cL_law 256 = .ok (.aload_n 2, 1) := by decide +kernel
theorem dL_law_257 : decode cL_law 257 = .ok (.aload_n 0, 1) := by decide +kernel
theorem dL_law_258 : decode cL_law 258 = .ok (.iload 4, 2) := by decide +kernel
theorem dL_law_260 : decode cL_law 260 = .ok (.iconst 1, 1) := by decide +kernel
theorem dL_law_261 : decode cL_law 261 = .ok (.iadd, 1) := by decide +kernel
theorem dL_law_262 : decode cL_law 262 = .ok (.iaload, 1) := by decide +kernel
theorem dL_law_263 : decode cL_law 263 = .ok (.aload_n 0, 1) := by decide +kernel
theorem dL_law_264 : decode cL_law 264 = .ok (.iload 4, 2) := by decide +kernel
theorem dL_law_266 : decode cL_law 266 = .ok (.iconst 2, 1) := by decide +kernel
theorem dL_law_267 : decode cL_law 267 = .ok (.iadd, 1) := by decide +kernel
theorem dL_law_268 : decode cL_law 268 = .ok (.iaload, 1) := by decide +kernel
theorem dL_law_269 : decode cL_law 269 = .ok (.i2l, 1) := by decide +kernel
theorem dL_law_270 : decode cL_law 270 = .ok (.bipush 32, 2) := by decide +kernel
theorem dL_law_272 : decode cL_law 272 = .ok (.lshl, 1) := by decide +kernel
theorem dL_law_273 : decode cL_law 273 = .ok (.aload_n 0, 1) := by decide +kernel
theorem dL_law_274 : decode cL_law 274 = .ok (.iload 4, 2) := by decide +kernel
theorem dL_law_276 : decode cL_law 276 = .ok (.iconst 3, 1) := by decide +kernel
theorem dL_law_277 : decode cL_law 277 = .ok (.iadd, 1) := by decide +kernel
theorem dL_law_278 : decode cL_law 278 = .ok (.iaload, 1) := by decide +kernel
theorem dL_law_279 : decode cL_law 279 = .ok (.i2l, 1) := by decide +kernel
theorem dL_law_280 : decode cL_law 280 = .ok (.ldc2_w 23, 3) := by decide +kernel
theorem dL_law_283 : decode cL_law 283 = .ok (.land, 1) := by decide +kernel
theorem dL_law_284 : decode cL_law 284 = .ok (.lor, 1) := by decide +kernel
theorem dL_law_285 : decode cL_law 285 = .ok (.invokevirtual 39, 3) := by decide +kernel
theorem dL_law_288 : decode cL_law 288 = .ok (.if_icmp .eq 475, 3) := by decide +kernel
theorem dL_law_291 : decode cL_law 291 = .ok (.iconst 0, 1) := by decide +kernel
theorem dL_law_292 : decode cL_law 292 = .ok (.ireturn, 1) := by decide +kernel
theorem dL_law_293 : decode cL_law 293 = .ok (.aload_n 1, 1) := by decide +kernel
theorem dL_law_294 : decode cL_law 294 = .ok (.aload_n 0, 1) := by decide +kernel
theorem dL_law_295 : decode cL_law 295 = .ok (.iload 4, 2) := by decide +kernel
theorem dL_law_297 : decode cL_law 297 = .ok (.iconst 1, 1) := by decide +kernel
theorem dL_law_298 : decode cL_law 298 = .ok (.iadd, 1) := by decide +kernel
theorem dL_law_299 : decode cL_law 299 = .ok (.iaload, 1) := by decide +kernel
theorem dL_law_300 : decode cL_law 300 = .ok (.aload_n 3, 1) := by decide +kernel
theorem dL_law_301 : decode cL_law 301 = .ok (.invokestatic 40, 3) := by decide +kernel
theorem dL_law_304 : decode cL_law 304 = .ok (.istore 5, 2) := by decide +kernel
theorem dL_law_306 : decode cL_law 306 = .ok (.aload_n 2, 1) := by decide +kernel
theorem dL_law_307 : decode cL_law 307 = .ok (.aload_n 0, 1) := by decide +kernel
theorem dL_law_308 : decode cL_law 308 = .ok (.iload 4, 2) := by decide +kernel
theorem dL_law_310 : decode cL_law 310 = .ok (.iconst 1, 1) := by decide +kernel
theorem dL_law_311 : decode cL_law 311 = .ok (.iadd, 1) := by decide +kernel
theorem dL_law_312 : decode cL_law 312 = .ok (.iaload, 1) := by decide +kernel
theorem dL_law_313 : decode cL_law 313 = .ok (.invokevirtual 45, 3) := by decide +kernel
theorem dL_law_316 : decode cL_law 316 = .ok (.istore 6, 2) := by decide +kernel
theorem dL_law_318 : decode cL_law 318 = .ok (.aload_n 2, 1) := by decide +kernel
theorem dL_law_319 : decode cL_law 319 = .ok (.invokevirtual 46, 3) := by decide +kernel
theorem dL_law_322 : decode cL_law 322 = .ok (.iload 5, 2) := by decide +kernel
theorem dL_law_324 : decode cL_law 324 = .ok (.if_icmp .eq 5, 3) := by decide +kernel
theorem dL_law_327 : decode cL_law 327 = .ok (.iconst 0, 1) := by decide +kernel
theorem dL_law_328 : decode cL_law 328 = .ok (.ireturn, 1) := by decide +kernel
theorem dL_law_329 : decode cL_law 329 = .ok (.iload 5, 2) := by decide +kernel
theorem dL_law_331 : decode cL_law 331 = .ok (.ifCond .ne 15, 3) := by decide +kernel
theorem dL_law_334 : decode cL_law 334 = .ok (.aload_n 3, 1) := by decide +kernel
theorem dL_law_335 : decode cL_law 335 = .ok (.iconst 0, 1) := by decide +kernel
theorem dL_law_336 : decode cL_law 336 = .ok (.laload, 1) := by decide +kernel
theorem dL_law_337 : decode cL_law 337 = .ok (.iload 6, 2) := by decide +kernel
theorem dL_law_339 : decode cL_law 339 = .ok (.i2l, 1) := by decide +kernel
theorem dL_law_340 : decode cL_law 340 = .ok (.lcmp, 1) := by decide +kernel
theorem dL_law_341 : decode cL_law 341 = .ok (.ifCond .eq 5, 3) := by decide +kernel
theorem dL_law_344 : decode cL_law 344 = .ok (.iconst 0, 1) := by decide +kernel
theorem dL_law_345 : decode cL_law 345 = .ok (.ireturn, 1) := by decide +kernel
theorem dL_law_346 : decode cL_law 346 = .ok (.goto 417, 3) := by decide +kernel
theorem dL_law_349 : decode cL_law 349 = .ok (.aload_n 1, 1) := by decide +kernel
theorem dL_law_350 : decode cL_law 350 = .ok (.aload_n 0, 1) := by decide +kernel
theorem dL_law_351 : decode cL_law 351 = .ok (.iload 4, 2) := by decide +kernel
theorem dL_law_353 : decode cL_law 353 = .ok (.iconst 1, 1) := by decide +kernel
theorem dL_law_354 : decode cL_law 354 = .ok (.iadd, 1) := by decide +kernel
theorem dL_law_355 : decode cL_law 355 = .ok (.iaload, 1) := by decide +kernel
theorem dL_law_356 : decode cL_law 356 = .ok (.aload_n 0, 1) := by decide +kernel
theorem dL_law_357 : decode cL_law 357 = .ok (.iload 4, 2) := by decide +kernel
theorem dL_law_359 : decode cL_law 359 = .ok (.iconst 2, 1) := by decide +kernel
theorem dL_law_360 : decode cL_law 360 = .ok (.iadd, 1) := by decide +kernel
theorem dL_law_361 : decode cL_law 361 = .ok (.iaload, 1) := by decide +kernel
theorem dL_law_362 : decode cL_law 362 = .ok (.i2b, 1) := by decide +kernel
theorem dL_law_363 : decode cL_law 363 = .ok (.aload_n 0, 1) := by decide +kernel
theorem dL_law_364 : decode cL_law 364 = .ok (.iload 4, 2) := by decide +kernel
theorem dL_law_366 : decode cL_law 366 = .ok (.iconst 3, 1) := by decide +kernel
theorem dL_law_367 : decode cL_law 367 = .ok (.iadd, 1) := by decide +kernel
theorem dL_law_368 : decode cL_law 368 = .ok (.iaload, 1) := by decide +kernel
theorem dL_law_369 : decode cL_law 369 = .ok (.ifCond .eq 7, 3) := by decide +kernel
theorem dL_law_372 : decode cL_law 372 = .ok (.iconst 1, 1) := by decide +kernel
theorem dL_law_373 : decode cL_law 373 = .ok (.goto 4, 3) := by decide +kernel
theorem dL_law_376 : decode cL_law 376 = .ok (.iconst 0, 1) := by decide +kernel
theorem dL_law_377 : decode cL_law 377 = .ok (.invokevirtual 50, 3) := by decide +kernel
theorem dL_law_380 : decode cL_law 380 = .ok (.aload_n 2, 1) := by decide +kernel
theorem dL_law_381 : decode cL_law 381 = .ok (.aload_n 0, 1) := by decide +kernel
theorem dL_law_382 : decode cL_law 382 = .ok (.iload 4, 2) := by decide +kernel
theorem dL_law_384 : decode cL_law 384 = .ok (.iconst 1, 1) := by decide +kernel
theorem dL_law_385 : decode cL_law 385 = .ok (.iadd, 1) := by decide +kernel
theorem dL_law_386 : decode cL_law 386 = .ok (.iaload, 1) := by decide +kernel
theorem dL_law_387 : decode cL_law 387 = .ok (.aload_n 0, 1) := by decide +kernel
theorem dL_law_388 : decode cL_law 388 = .ok (.iload 4, 2) := by decide +kernel
theorem dL_law_390 : decode cL_law 390 = .ok (.iconst 2, 1) := by decide +kernel
theorem dL_law_391 : decode cL_law 391 = .ok (.iadd, 1) := by decide +kernel
theorem dL_law_392 : decode cL_law 392 = .ok (.iaload, 1) := by decide +kernel
theorem dL_law_393 : decode cL_law 393 = .ok (.i2b, 1) := by decide +kernel
theorem dL_law_394 : decode cL_law 394 = .ok (.aload_n 0, 1) := by decide +kernel
theorem dL_law_395 : decode cL_law 395 = .ok (.iload 4, 2) := by decide +kernel
theorem dL_law_397 : decode cL_law 397 = .ok (.iconst 3, 1) := by decide +kernel
theorem dL_law_398 : decode cL_law 398 = .ok (.iadd, 1) := by decide +kernel
theorem dL_law_399 : decode cL_law 399 = .ok (.iaload, 1) := by decide +kernel
theorem dL_law_400 : decode cL_law 400 = .ok (.ifCond .eq 7, 3) := by decide +kernel
theorem dL_law_403 : decode cL_law 403 = .ok (.iconst 1, 1) := by decide +kernel
theorem dL_law_404 : decode cL_law 404 = .ok (.goto 4, 3) := by decide +kernel
theorem dL_law_407 : decode cL_law 407 = .ok (.iconst 0, 1) := by decide +kernel
theorem dL_law_408 : decode cL_law 408 = .ok (.invokevirtual 54, 3) := by decide +kernel
theorem dL_law_411 : decode cL_law 411 = .ok (.if_icmp .eq 352, 3) := by decide +kernel
theorem dL_law_414 : decode cL_law 414 = .ok (.iconst 0, 1) := by decide +kernel
theorem dL_law_415 : decode cL_law 415 = .ok (.ireturn, 1) := by decide +kernel
theorem dL_law_416 : decode cL_law 416 = .ok (.aload_n 1, 1) := by decide +kernel
theorem dL_law_417 : decode cL_law 417 = .ok (.aload_n 0, 1) := by decide +kernel
theorem dL_law_418 : decode cL_law 418 = .ok (.iload 4, 2) := by decide +kernel
theorem dL_law_420 : decode cL_law 420 = .ok (.iconst 1, 1) := by decide +kernel
theorem dL_law_421 : decode cL_law 421 = .ok (.iadd, 1) := by decide +kernel
theorem dL_law_422 : decode cL_law 422 = .ok (.iaload, 1) := by decide +kernel
theorem dL_law_423 : decode cL_law 423 = .ok (.invokevirtual 55, 3) := by decide +kernel
theorem dL_law_426 : decode cL_law 426 = .ok (.aload_n 2, 1) := by decide +kernel
theorem dL_law_427 : decode cL_law 427 = .ok (.aload_n 0, 1) := by decide +kernel
theorem dL_law_428 : decode cL_law 428 = .ok (.iload 4, 2) := by decide +kernel
theorem dL_law_430 : decode cL_law 430 = .ok (.iconst 1, 1) := by decide +kernel
theorem dL_law_431 : decode cL_law 431 = .ok (.iadd, 1) := by decide +kernel
theorem dL_law_432 : decode cL_law 432 = .ok (.iaload, 1) := by decide +kernel
theorem dL_law_433 : decode cL_law 433 = .ok (.invokevirtual 58, 3) := by decide +kernel
theorem dL_law_436 : decode cL_law 436 = .ok (.if_icmp .eq 327, 3) := by decide +kernel
theorem dL_law_439 : decode cL_law 439 = .ok (.iconst 0, 1) := by decide +kernel
theorem dL_law_440 : decode cL_law 440 = .ok (.ireturn, 1) := by decide +kernel
theorem dL_law_441 : decode cL_law 441 = .ok (.aload_n 1, 1) := by decide +kernel
theorem dL_law_442 : decode cL_law 442 = .ok (.aload_n 0, 1) := by decide +kernel
theorem dL_law_443 : decode cL_law 443 = .ok (.iload 4, 2) := by decide +kernel
theorem dL_law_445 : decode cL_law 445 = .ok (.iconst 1, 1) := by decide +kernel
theorem dL_law_446 : decode cL_law 446 = .ok (.iadd, 1) := by decide +kernel
theorem dL_law_447 : decode cL_law 447 = .ok (.iaload, 1) := by decide +kernel
theorem dL_law_448 : decode cL_law 448 = .ok (.invokevirtual 59, 3) := by decide +kernel
theorem dL_law_451 : decode cL_law 451 = .ok (.aload_n 2, 1) := by decide +kernel
theorem dL_law_452 : decode cL_law 452 = .ok (.aload_n 0, 1) := by decide +kernel
theorem dL_law_453 : decode cL_law 453 = .ok (.iload 4, 2) := by decide +kernel
theorem dL_law_455 : decode cL_law 455 = .ok (.iconst 1, 1) := by decide +kernel
theorem dL_law_456 : decode cL_law 456 = .ok (.iadd, 1) := by decide +kernel
theorem dL_law_457 : decode cL_law 457 = .ok (.iaload, 1) := by decide +kernel
theorem dL_law_458 : decode cL_law 458 = .ok (.invokevirtual 62, 3) := by decide +kernel
theorem dL_law_461 : decode cL_law 461 = .ok (.if_icmp .eq 302, 3) := by decide +kernel
theorem dL_law_464 : decode cL_law 464 = .ok (.iconst 0, 1) := by decide +kernel
theorem dL_law_465 : decode cL_law 465 = .ok (.ireturn, 1) := by decide +kernel
theorem dL_law_466 : decode cL_law 466 = .ok (.aload_n 1, 1) := by decide +kernel
theorem dL_law_467 : decode cL_law 467 = .ok (.invokevirtual 63, 3) := by decide +kernel
theorem dL_law_470 : decode cL_law 470 = .ok (.aload_n 2, 1) := by decide +kernel
theorem dL_law_471 : decode cL_law 471 = .ok (.invokevirtual 66, 3) := by decide +kernel
theorem dL_law_474 : decode cL_law 474 = .ok (.if_icmp .eq 289, 3) := by decide +kernel
theorem dL_law_477 : decode cL_law 477 = .ok (.iconst 0, 1) := by decide +kernel
theorem dL_law_478 : decode cL_law 478 = .ok (.ireturn, 1) := by decide +kernel
theorem dL_law_479 : decode cL_law 479 = .ok (.aload_n 1, 1) := by decide +kernel
theorem dL_law_480 : decode cL_law 480 = .ok (.aload_n 0, 1) := by decide +kernel
theorem dL_law_481 : decode cL_law 481 = .ok (.iload 4, 2) := by decide +kernel
theorem dL_law_483 : decode cL_law 483 = .ok (.iconst 1, 1) := by decide +kernel
theorem dL_law_484 : decode cL_law 484 = .ok (.iadd, 1) := by decide +kernel
theorem dL_law_485 : decode cL_law 485 = .ok (.iaload, 1) := by decide +kernel
theorem dL_law_486 : decode cL_law 486 = .ok (.aload_n 0, 1) := by decide +kernel
theorem dL_law_487 : decode cL_law 487 = .ok (.iload 4, 2) := by decide +kernel
theorem dL_law_489 : decode cL_law 489 = .ok (.iconst 2, 1) := by decide +kernel
theorem dL_law_490 : decode cL_law 490 = .ok (.iadd, 1) := by decide +kernel
theorem dL_law_491 : decode cL_law 491 = .ok (.iaload, 1) := by decide +kernel
theorem dL_law_492 : decode cL_law 492 = .ok (.ifCond .eq 7, 3) := by decide +kernel
theorem dL_law_495 : decode cL_law 495 = .ok (.iconst 1, 1) := by decide +kernel
theorem dL_law_496 : decode cL_law 496 = .ok (.goto 4, 3) := by decide +kernel
theorem dL_law_499 : decode cL_law 499 = .ok (.iconst 0, 1) := by decide +kernel
theorem dL_law_500 : decode cL_law 500 = .ok (.aload_n 0, 1) := by decide +kernel
theorem dL_law_501 : decode cL_law 501 = .ok (.iload 4, 2) := by decide +kernel
theorem dL_law_503 : decode cL_law 503 = .ok (.iconst 3, 1) := by decide +kernel
theorem dL_law_504 : decode cL_law 504 = .ok (.iadd, 1) := by decide +kernel
theorem dL_law_505 : decode cL_law 505 = .ok (.iaload, 1) := by decide +kernel
theorem dL_law_506 : decode cL_law 506 = .ok (.i2l, 1) := by decide +kernel
theorem dL_law_507 : decode cL_law 507 = .ok (.bipush 32, 2) := by decide +kernel
theorem dL_law_509 : decode cL_law 509 = .ok (.lshl, 1) := by decide +kernel
theorem dL_law_510 : decode cL_law 510 = .ok (.aload_n 0, 1) := by decide +kernel
theorem dL_law_511 : decode cL_law 511 = .ok (.iload 4, 2) := by decide +kernel
theorem dL_law_513 : decode cL_law 513 = .ok (.iconst 4, 1) := by decide +kernel
theorem dL_law_514 : decode cL_law 514 = .ok (.iadd, 1) := by decide +kernel
theorem dL_law_515 : decode cL_law 515 = .ok (.iaload, 1) := by decide +kernel
theorem dL_law_516 : decode cL_law 516 = .ok (.i2l, 1) := by decide +kernel
theorem dL_law_517 : decode cL_law 517 = .ok (.ldc2_w 23, 3) := by decide +kernel
theorem dL_law_520 : decode cL_law 520 = .ok (.land, 1) := by decide +kernel
theorem dL_law_521 : decode cL_law 521 = .ok (.lor, 1) := by decide +kernel
theorem dL_law_522 : decode cL_law 522 = .ok (.invokevirtual 67, 3) := by decide +kernel
theorem dL_law_525 : decode cL_law 525 = .ok (.aload_n 2, 1) := by decide +kernel
theorem dL_law_526 : decode cL_law 526 = .ok (.aload_n 0, 1) := by decide +kernel
theorem dL_law_527 : decode cL_law 527 = .ok (.iload 4, 2) := by decide +kernel
theorem dL_law_529 : decode cL_law 529 = .ok (.iconst 1, 1) := by decide +kernel
theorem dL_law_530 : decode cL_law 530 = .ok (.iadd, 1) := by decide +kernel
theorem dL_law_531 : decode cL_law 531 = .ok (.iaload, 1) := by decide +kernel
theorem dL_law_532 : decode cL_law 532 = .ok (.aload_n 0, 1) := by decide +kernel
theorem dL_law_533 : decode cL_law 533 = .ok (.iload 4, 2) := by decide +kernel
theorem dL_law_535 : decode cL_law 535 = .ok (.iconst 2, 1) := by decide +kernel
theorem dL_law_536 : decode cL_law 536 = .ok (.iadd, 1) := by decide +kernel
theorem dL_law_537 : decode cL_law 537 = .ok (.iaload, 1) := by decide +kernel
theorem dL_law_538 : decode cL_law 538 = .ok (.ifCond .eq 7, 3) := by decide +kernel
theorem dL_law_541 : decode cL_law 541 = .ok (.iconst 1, 1) := by decide +kernel
theorem dL_law_542 : decode cL_law 542 = .ok (.goto 4, 3) := by decide +kernel
theorem dL_law_545 : decode cL_law 545 = .ok (.iconst 0, 1) := by decide +kernel
theorem dL_law_546 : decode cL_law 546 = .ok (.aload_n 0, 1) := by decide +kernel
theorem dL_law_547 : decode cL_law 547 = .ok (.iload 4, 2) := by decide +kernel
theorem dL_law_549 : decode cL_law 549 = .ok (.iconst 3, 1) := by decide +kernel
theorem dL_law_550 : decode cL_law 550 = .ok (.iadd, 1) := by decide +kernel
theorem dL_law_551 : decode cL_law 551 = .ok (.iaload, 1) := by decide +kernel
theorem dL_law_552 : decode cL_law 552 = .ok (.i2l, 1) := by decide +kernel
theorem dL_law_553 : decode cL_law 553 = .ok (.bipush 32, 2) := by decide +kernel
theorem dL_law_555 : decode cL_law 555 = .ok (.lshl, 1) := by decide +kernel
theorem dL_law_556 : decode cL_law 556 = .ok (.aload_n 0, 1) := by decide +kernel
theorem dL_law_557 : decode cL_law 557 = .ok (.iload 4, 2) := by decide +kernel
theorem dL_law_559 : decode cL_law 559 = .ok (.iconst 4, 1) := by decide +kernel
theorem dL_law_560 : decode cL_law 560 = .ok (.iadd, 1) := by decide +kernel
theorem dL_law_561 : decode cL_law 561 = .ok (.iaload, 1) := by decide +kernel
theorem dL_law_562 : decode cL_law 562 = .ok (.i2l, 1) := by decide +kernel
theorem dL_law_563 : decode cL_law 563 = .ok (.ldc2_w 23, 3) := by decide +kernel
theorem dL_law_566 : decode cL_law 566 = .ok (.land, 1) := by decide +kernel
theorem dL_law_567 : decode cL_law 567 = .ok (.lor, 1) := by decide +kernel
theorem dL_law_568 : decode cL_law 568 = .ok (.invokevirtual 71, 3) := by decide +kernel
theorem dL_law_571 : decode cL_law 571 = .ok (.if_icmp .eq 192, 3) := by decide +kernel
theorem dL_law_574 : decode cL_law 574 = .ok (.iconst 0, 1) := by decide +kernel
theorem dL_law_575 : decode cL_law 575 = .ok (.ireturn, 1) := by decide +kernel
theorem dL_law_576 : decode cL_law 576 = .ok (.aload_n 1, 1) := by decide +kernel
theorem dL_law_577 : decode cL_law 577 = .ok (.aload_n 0, 1) := by decide +kernel
theorem dL_law_578 : decode cL_law 578 = .ok (.iload 4, 2) := by decide +kernel
theorem dL_law_580 : decode cL_law 580 = .ok (.iconst 1, 1) := by decide +kernel
theorem dL_law_581 : decode cL_law 581 = .ok (.iadd, 1) := by decide +kernel
theorem dL_law_582 : decode cL_law 582 = .ok (.iaload, 1) := by decide +kernel
theorem dL_law_583 : decode cL_law 583 = .ok (.aload_n 0, 1) := by decide +kernel
theorem dL_law_584 : decode cL_law 584 = .ok (.iload 4, 2) := by decide +kernel
theorem dL_law_586 : decode cL_law 586 = .ok (.iconst 2, 1) := by decide +kernel
theorem dL_law_587 : decode cL_law 587 = .ok (.iadd, 1) := by decide +kernel
theorem dL_law_588 : decode cL_law 588 = .ok (.iaload, 1) := by decide +kernel
theorem dL_law_589 : decode cL_law 589 = .ok (.i2l, 1) := by decide +kernel
theorem dL_law_590 : decode cL_law 590 = .ok (.bipush 32, 2) := by decide +kernel
theorem dL_law_592 : decode cL_law 592 = .ok (.lshl, 1) := by decide +kernel
theorem dL_law_593 : decode cL_law 593 = .ok (.aload_n 0, 1) := by decide +kernel
theorem dL_law_594 : decode cL_law 594 = .ok (.iload 4, 2) := by decide +kernel
theorem dL_law_596 : decode cL_law 596 = .ok (.iconst 3, 1) := by decide +kernel
theorem dL_law_597 : decode cL_law 597 = .ok (.iadd, 1) := by decide +kernel
theorem dL_law_598 : decode cL_law 598 = .ok (.iaload, 1) := by decide +kernel
theorem dL_law_599 : decode cL_law 599 = .ok (.i2l, 1) := by decide +kernel
theorem dL_law_600 : decode cL_law 600 = .ok (.ldc2_w 23, 3) := by decide +kernel
theorem dL_law_603 : decode cL_law 603 = .ok (.land, 1) := by decide +kernel
theorem dL_law_604 : decode cL_law 604 = .ok (.lor, 1) := by decide +kernel
theorem dL_law_605 : decode cL_law 605 = .ok (.invokevirtual 72, 3) := by decide +kernel
theorem dL_law_608 : decode cL_law 608 = .ok (.aload_n 2, 1) := by decide +kernel
theorem dL_law_609 : decode cL_law 609 = .ok (.aload_n 0, 1) := by decide +kernel
theorem dL_law_610 : decode cL_law 610 = .ok (.iload 4, 2) := by decide +kernel
theorem dL_law_612 : decode cL_law 612 = .ok (.iconst 1, 1) := by decide +kernel
theorem dL_law_613 : decode cL_law 613 = .ok (.iadd, 1) := by decide +kernel
theorem dL_law_614 : decode cL_law 614 = .ok (.iaload, 1) := by decide +kernel
theorem dL_law_615 : decode cL_law 615 = .ok (.aload_n 0, 1) := by decide +kernel
theorem dL_law_616 : decode cL_law 616 = .ok (.iload 4, 2) := by decide +kernel
theorem dL_law_618 : decode cL_law 618 = .ok (.iconst 2, 1) := by decide +kernel
theorem dL_law_619 : decode cL_law 619 = .ok (.iadd, 1) := by decide +kernel
theorem dL_law_620 : decode cL_law 620 = .ok (.iaload, 1) := by decide +kernel
theorem dL_law_621 : decode cL_law 621 = .ok (.i2l, 1) := by decide +kernel
theorem dL_law_622 : decode cL_law 622 = .ok (.bipush 32, 2) := by decide +kernel
theorem dL_law_624 : decode cL_law 624 = .ok (.lshl, 1) := by decide +kernel
theorem dL_law_625 : decode cL_law 625 = .ok (.aload_n 0, 1) := by decide +kernel
theorem dL_law_626 : decode cL_law 626 = .ok (.iload 4, 2) := by decide +kernel
theorem dL_law_628 : decode cL_law 628 = .ok (.iconst 3, 1) := by decide +kernel
theorem dL_law_629 : decode cL_law 629 = .ok (.iadd, 1) := by decide +kernel
theorem dL_law_630 : decode cL_law 630 = .ok (.iaload, 1) := by decide +kernel
theorem dL_law_631 : decode cL_law 631 = .ok (.i2l, 1) := by decide +kernel
theorem dL_law_632 : decode cL_law 632 = .ok (.ldc2_w 23, 3) := by decide +kernel
theorem dL_law_635 : decode cL_law 635 = .ok (.land, 1) := by decide +kernel
theorem dL_law_636 : decode cL_law 636 = .ok (.lor, 1) := by decide +kernel
theorem dL_law_637 : decode cL_law 637 = .ok (.invokevirtual 75, 3) := by decide +kernel
theorem dL_law_640 : decode cL_law 640 = .ok (.if_icmp .eq 123, 3) := by decide +kernel
theorem dL_law_643 : decode cL_law 643 = .ok (.iconst 0, 1) := by decide +kernel
theorem dL_law_644 : decode cL_law 644 = .ok (.ireturn, 1) := by decide +kernel
theorem dL_law_645 : decode cL_law 645 = .ok (.aload_n 1, 1) := by decide +kernel
theorem dL_law_646 : decode cL_law 646 = .ok (.aload_n 0, 1) := by decide +kernel
theorem dL_law_647 : decode cL_law 647 = .ok (.iload 4, 2) := by decide +kernel
theorem dL_law_649 : decode cL_law 649 = .ok (.iconst 1, 1) := by decide +kernel
theorem dL_law_650 : decode cL_law 650 = .ok (.iadd, 1) := by decide +kernel
theorem dL_law_651 : decode cL_law 651 = .ok (.iaload, 1) := by decide +kernel
theorem dL_law_652 : decode cL_law 652 = .ok (.aload_n 0, 1) := by decide +kernel
theorem dL_law_653 : decode cL_law 653 = .ok (.iload 4, 2) := by decide +kernel
theorem dL_law_655 : decode cL_law 655 = .ok (.iconst 2, 1) := by decide +kernel
theorem dL_law_656 : decode cL_law 656 = .ok (.iadd, 1) := by decide +kernel
theorem dL_law_657 : decode cL_law 657 = .ok (.iaload, 1) := by decide +kernel
theorem dL_law_658 : decode cL_law 658 = .ok (.invokevirtual 76, 3) := by decide +kernel
theorem dL_law_661 : decode cL_law 661 = .ok (.aload_n 2, 1) := by decide +kernel
theorem dL_law_662 : decode cL_law 662 = .ok (.aload_n 0, 1) := by decide +kernel
theorem dL_law_663 : decode cL_law 663 = .ok (.iload 4, 2) := by decide +kernel
theorem dL_law_665 : decode cL_law 665 = .ok (.iconst 1, 1) := by decide +kernel
theorem dL_law_666 : decode cL_law 666 = .ok (.iadd, 1) := by decide +kernel
theorem dL_law_667 : decode cL_law 667 = .ok (.iaload, 1) := by decide +kernel
theorem dL_law_668 : decode cL_law 668 = .ok (.aload_n 0, 1) := by decide +kernel
theorem dL_law_669 : decode cL_law 669 = .ok (.iload 4, 2) := by decide +kernel
theorem dL_law_671 : decode cL_law 671 = .ok (.iconst 2, 1) := by decide +kernel
theorem dL_law_672 : decode cL_law 672 = .ok (.iadd, 1) := by decide +kernel
theorem dL_law_673 : decode cL_law 673 = .ok (.iaload, 1) := by decide +kernel
theorem dL_law_674 : decode cL_law 674 = .ok (.invokevirtual 80, 3) := by decide +kernel
theorem dL_law_677 : decode cL_law 677 = .ok (.if_icmp .eq 86, 3) := by decide +kernel
theorem dL_law_680 : decode cL_law 680 = .ok (.iconst 0, 1) := by decide +kernel
theorem dL_law_681 : decode cL_law 681 = .ok (.ireturn, 1) := by decide +kernel
theorem dL_law_682 : decode cL_law 682 = .ok (.aload_n 1, 1) := by decide +kernel
theorem dL_law_683 : decode cL_law 683 = .ok (.aload_n 0, 1) := by decide +kernel
theorem dL_law_684 : decode cL_law 684 = .ok (.iload 4, 2) := by decide +kernel
theorem dL_law_686 : decode cL_law 686 = .ok (.iconst 1, 1) := by decide +kernel
theorem dL_law_687 : decode cL_law 687 = .ok (.iadd, 1) := by decide +kernel
theorem dL_law_688 : decode cL_law 688 = .ok (.iaload, 1) := by decide +kernel
theorem dL_law_689 : decode cL_law 689 = .ok (.aload_n 3, 1) := by decide +kernel
theorem dL_law_690 : decode cL_law 690 = .ok (.invokestatic 81, 3) := by decide +kernel
theorem dL_law_693 : decode cL_law 693 = .ok (.istore 5, 2) := by decide +kernel
theorem dL_law_695 : decode cL_law 695 = .ok (.aload_n 2, 1) := by decide +kernel
theorem dL_law_696 : decode cL_law 696 = .ok (.aload_n 0, 1) := by decide +kernel
theorem dL_law_697 : decode cL_law 697 = .ok (.iload 4, 2) := by decide +kernel
theorem dL_law_699 : decode cL_law 699 = .ok (.iconst 1, 1) := by decide +kernel
theorem dL_law_700 : decode cL_law 700 = .ok (.iadd, 1) := by decide +kernel
theorem dL_law_701 : decode cL_law 701 = .ok (.iaload, 1) := by decide +kernel
theorem dL_law_702 : decode cL_law 702 = .ok (.invokevirtual 83, 3) := by decide +kernel
theorem dL_law_705 : decode cL_law 705 = .ok (.istore 6, 2) := by decide +kernel
theorem dL_law_707 : decode cL_law 707 = .ok (.aload_n 2, 1) := by decide +kernel
theorem dL_law_708 : decode cL_law 708 = .ok (.invokevirtual 46, 3) := by decide +kernel
theorem dL_law_711 : decode cL_law 711 = .ok (.iload 5, 2) := by decide +kernel
theorem dL_law_713 : decode cL_law 713 = .ok (.if_icmp .eq 5, 3) := by decide +kernel
theorem dL_law_716 : decode cL_law 716 = .ok (.iconst 0, 1) := by decide +kernel
theorem dL_law_717 : decode cL_law 717 = .ok (.ireturn, 1) := by decide +kernel
theorem dL_law_718 : decode cL_law 718 = .ok (.iload 5, 2) := by decide +kernel
theorem dL_law_720 : decode cL_law 720 = .ok (.ifCond .ne 15, 3) := by decide +kernel
theorem dL_law_723 : decode cL_law 723 = .ok (.aload_n 3, 1) := by decide +kernel
theorem dL_law_724 : decode cL_law 724 = .ok (.iconst 0, 1) := by decide +kernel
theorem dL_law_725 : decode cL_law 725 = .ok (.laload, 1) := by decide +kernel
theorem dL_law_726 : decode cL_law 726 = .ok (.iload 6, 2) := by decide +kernel
theorem dL_law_728 : decode cL_law 728 = .ok (.i2l, 1) := by decide +kernel
theorem dL_law_729 : decode cL_law 729 = .ok (.lcmp, 1) := by decide +kernel
theorem dL_law_730 : decode cL_law 730 = .ok (.ifCond .eq 5, 3) := by decide +kernel
theorem dL_law_733 : decode cL_law 733 = .ok (.iconst 0, 1) := by decide +kernel
theorem dL_law_734 : decode cL_law 734 = .ok (.ireturn, 1) := by decide +kernel
theorem dL_law_735 : decode cL_law 735 = .ok (.goto 28, 3) := by decide +kernel
theorem dL_law_738 : decode cL_law 738 = .ok (.aload_n 1, 1) := by decide +kernel
theorem dL_law_739 : decode cL_law 739 = .ok (.aload_n 0, 1) := by decide +kernel
theorem dL_law_740 : decode cL_law 740 = .ok (.iload 4, 2) := by decide +kernel
theorem dL_law_742 : decode cL_law 742 = .ok (.iconst 1, 1) := by decide +kernel
theorem dL_law_743 : decode cL_law 743 = .ok (.iadd, 1) := by decide +kernel
theorem dL_law_744 : decode cL_law 744 = .ok (.iaload, 1) := by decide +kernel
theorem dL_law_745 : decode cL_law 745 = .ok (.invokevirtual 84, 3) := by decide +kernel
theorem dL_law_748 : decode cL_law 748 = .ok (.aload_n 2, 1) := by decide +kernel
theorem dL_law_749 : decode cL_law 749 = .ok (.aload_n 0, 1) := by decide +kernel
theorem dL_law_750 : decode cL_law 750 = .ok (.iload 4, 2) := by decide +kernel
theorem dL_law_752 : decode cL_law 752 = .ok (.iconst 1, 1) := by decide +kernel
theorem dL_law_753 : decode cL_law 753 = .ok (.iadd, 1) := by decide +kernel
theorem dL_law_754 : decode cL_law 754 = .ok (.iaload, 1) := by decide +kernel
theorem dL_law_755 : decode cL_law 755 = .ok (.invokevirtual 87, 3) := by decide +kernel
theorem dL_law_758 : decode cL_law 758 = .ok (.if_icmp .eq 5, 3) := by decide +kernel
theorem dL_law_761 : decode cL_law 761 = .ok (.iconst 0, 1) := by decide +kernel
theorem dL_law_762 : decode cL_law 762 = .ok (.ireturn, 1) := by decide +kernel
theorem dL_law_763 : decode cL_law 763 = .ok (.iinc 4 6, 3) := by decide +kernel
theorem dL_law_766 : decode cL_law 766 = .ok (.goto (-743), 3) := by decide +kernel
theorem dL_law_769 : decode cL_law 769 = .ok (.iconst 1, 1) := by decide +kernel
theorem dL_law_770 : decode cL_law 770 = .ok (.ireturn, 1) := by decide +kernel
abbrev vwCl : List vw_C := [(RJ0, TJ0, 2), (RJx00060, TJx00060, 6), (RX0, TX0, 2), (RX1, TX1, 4), (RX2, TX2, 3), (RX3, TX3, 11), (RX4, TX4, 3), (RX5, TX5, 8), (RX6, TX6, 27)]
end
section
/-! the base: class ids and tables (KK), what a method meets (pR) and leaves (pO), reads that leave the heap alone (pQ), calls by their frame -/
abbrev gG : Type := va_G × (Nat → ClassId)
abbrev gT (G : gG) : List (ClassId × FieldType) := [(G.2 0, .int), (G.2 1, .long), (G.2 2, .boolean), (G.2 3, .object "RightsSteps$Level"), (G.2 4, .object "RightsSteps$Tester")]
def nst (U : State) : Prop := va_Nw (.fieldLinkNest RX5 128 "RightsSteps$UseLog" "count" "I" RX5) U ∧ va_Nw (.fieldLinkNest RX5 77 "RightsSteps$Tester" "number" "I" RX5) U ∧ va_Nw (.fieldLinkNest RX5 109 "RightsSteps$Tester" "session" "I" RX5) U ∧ va_Nw (.fieldLinkNest RX5 118 "RightsSteps$Tester" "roleUntil" "J" RX5) U ∧ va_Nw (.fieldLinkNest RX5 106 "RightsSteps$Tester" "openLevel" "I" RX5) U ∧ va_Nw (.fieldLinkNest RX5 164 "RightsSteps$Tester" "awaitedLevel" "I" RX5) U ∧ va_Nw (.fieldLinkNest RX5 167 "RightsSteps$Tester" "awaitedSeed" "I" RX5) U ∧ va_Nw (.fieldLinkNest RX5 93 "RightsSteps$Tester" "octets" "I" RX5) U ∧ va_Nw (.fieldLinkNest RX5 96 "RightsSteps$Tester" "keySoFar" "I" RX5) U ∧ va_Nw (.fieldLinkNest RX5 86 "RightsSteps$Tester" "out" "I" RX5) U ∧ va_Nw (.fieldLinkNest RX5 154 "RightsSteps$Level" "number" "I" RX5) U ∧ va_Nw (.fieldLinkNest RX5 180 "RightsSteps$Level" "tries" "I" RX5) U ∧ va_Nw (.fieldLinkNest RX5 183 "RightsSteps$Level" "delay" "J" RX5) U ∧ va_Nw (.methodLinkNest RX5 19 yX2_init RX5) U ∧ va_Nw (.methodLinkNest RX5 26 yX0_init RX5) U ∧ va_Nw (.methodLinkNest RX5 33 yX4_init RX5) U ∧ va_Nw (.methodLinkNest RX2 26 yX5_isPlain RX5) U ∧ va_AO RX1 U ∧ va_AO RX3 U
theorem nst.moved {s U : State} (hW : s.WarmedH U.vm) (h : nst s) : nst U := ⟨va_Nw.warmF hW h.1, va_Nw.warmF hW h.2.1, va_Nw.warmF hW h.2.2.1, va_Nw.warmF hW h.2.2.2.1, va_Nw.warmF hW h.2.2.2.2.1, va_Nw.warmF hW h.2.2.2.2.2.1, va_Nw.warmF hW h.2.2.2.2.2.2.1, va_Nw.warmF hW h.2.2.2.2.2.2.2.1, va_Nw.warmF hW h.2.2.2.2.2.2.2.2.1, va_Nw.warmF hW h.2.2.2.2.2.2.2.2.2.1, va_Nw.warmF hW h.2.2.2.2.2.2.2.2.2.2.1, va_Nw.warmF hW h.2.2.2.2.2.2.2.2.2.2.2.1, va_Nw.warmF hW h.2.2.2.2.2.2.2.2.2.2.2.2.1, va_Nw.warmM hW h.2.2.2.2.2.2.2.2.2.2.2.2.2.1, va_Nw.warmM hW h.2.2.2.2.2.2.2.2.2.2.2.2.2.2.1, va_Nw.warmM hW h.2.2.2.2.2.2.2.2.2.2.2.2.2.2.2.1, va_Nw.warmM hW h.2.2.2.2.2.2.2.2.2.2.2.2.2.2.2.2.1, va_AO.moved hW.alike h.2.2.2.2.2.2.2.2.2.2.2.2.2.2.2.2.2.1, va_AO.moved hW.alike h.2.2.2.2.2.2.2.2.2.2.2.2.2.2.2.2.2.2⟩
theorem nst.same {s U : State} (e : s.vm = U.vm) (h : nst s) : nst U := ⟨va_Nw.same rfl e h.1, va_Nw.same rfl e h.2.1, va_Nw.same rfl e h.2.2.1, va_Nw.same rfl e h.2.2.2.1, va_Nw.same rfl e h.2.2.2.2.1, va_Nw.same rfl e h.2.2.2.2.2.1, va_Nw.same rfl e h.2.2.2.2.2.2.1, va_Nw.same rfl e h.2.2.2.2.2.2.2.1, va_Nw.same rfl e h.2.2.2.2.2.2.2.2.1, va_Nw.same rfl e h.2.2.2.2.2.2.2.2.2.1, va_Nw.same rfl e h.2.2.2.2.2.2.2.2.2.2.1, va_Nw.same rfl e h.2.2.2.2.2.2.2.2.2.2.2.1, va_Nw.same rfl e h.2.2.2.2.2.2.2.2.2.2.2.2.1, va_Nw.same rfl e h.2.2.2.2.2.2.2.2.2.2.2.2.2.1, va_Nw.same rfl e h.2.2.2.2.2.2.2.2.2.2.2.2.2.2.1, va_Nw.same rfl e h.2.2.2.2.2.2.2.2.2.2.2.2.2.2.2.1, va_Nw.same rfl e h.2.2.2.2.2.2.2.2.2.2.2.2.2.2.2.2.1, va_AO.moved (by rw [e]; exact Vm.Alike.refl _) h.2.2.2.2.2.2.2.2.2.2.2.2.2.2.2.2.2.1, va_AO.moved (by rw [e]; exact Vm.Alike.refl _) h.2.2.2.2.2.2.2.2.2.2.2.2.2.2.2.2.2.2⟩
def KK (G : gG) (U : State) : Prop := va_K G.1 vwCl (gT G) U ∧ nst U
theorem KK.moved {G : gG} {s U : State} (hW : s.WarmedH U.vm) (h : KK G s) : KK G U := ⟨h.1.moved hW.alike, h.2.moved hW⟩
theorem KK.same {G : gG} {s U : State} (e : s.vm = U.vm) (h : KK G s) : KK G U := ⟨h.1.moved (by rw [e]; exact Vm.Alike.refl _), h.2.same e⟩
def pR (G : gG) (ws : va_W) (sz : Nat) (U : State) : Prop := U.heap.size = sz ∧ va_P G.1 vwCl ws U.heap ∧ KK G U ∧ va_D (fun _ => True) ws
def pO (G : gG) (ws : va_W) (A : Nat → Prop) (t : State) : Prop := va_P G.1 vwCl ws t.heap ∧ va_D A ws
def pQ (v : Value) : Array Value → State → Outcome → State → Prop := fun _ st oc t => oc = .returned (some v) ∧ t.heap = st.heap
theorem pR_blind {G : gG} {ws : va_W} {sz : Nat} {av : List Value} : FrameBlind (va_Pc av (pR G ws sz)) := fun a U g mk q => ⟨q.1, q.2.1, q.2.2.1, q.2.2.2.1.same (U := U.calling g mk a) rfl, q.2.2.2.2⟩
theorem pR_S {G : gG} {s : State} {H : Heap} {wc : va_W} {A : Nat → Prop} {As : List Value} (hK : KK G s) (hP : va_P G.1 vwCl wc H) (hD : va_D A wc) : PreS s H (va_Pc As (pR G wc H.size)) As :=
  ⟨pR_blind, fun U hU hW => ⟨rfl, by rw [hU], by rw [hU]; exact hP, hK.moved hW, hD.weaken (fun _ _ _ _ => trivial)⟩⟩
theorem pR_V {G : gG} {s : State} {H : Heap} {wc : va_W} {A : Nat → Prop} {As : List Value} {b q0 ci : Nat} {r : vw_C} {fs : List Value} (hK : KK G s) (hP : va_P G.1 vwCl wc H) (hD : va_D A wc) (he : wc[q0]? = some (b, .inr (ci, fs))) (hc : vwCl[ci]? = some r) : PreV s H r.1 b (va_Pc (.ref b :: As) (pR G wc H.size)) As :=
  ⟨pR_blind, va_recv hK.1 hP hc he, fun U hU hW => ⟨rfl, by rw [hU], by rw [hU]; exact hP, hK.moved hW, hD.weaken (fun _ _ _ _ => trivial)⟩⟩
theorem va_P.one {D : va_G} {cl : List vw_C} {ws : va_W} {H : Heap} (h : va_P D cl ws H) {q : Nat × va_E} (k : Nat) (hk : ws[k]? = some q) : va_P D cl [q] H := h.by (fun _ => k) (fun j x hx => by
  have hz : j < 1 := (List.getElem?_eq_some_iff.mp hx).1
  rw [show j = 0 by omega] at hx
  cases hx
  exact hk)
theorem va_D.one (q : Nat × va_E) : va_D (fun _ => True) [q] := ⟨fun i j x y hx hy _ => by
  have h1 : i < 1 := (List.getElem?_eq_some_iff.mp hx).1
  have h2 : j < 1 := (List.getElem?_eq_some_iff.mp hy).1
  omega, fun _ _ _ => trivial⟩
theorem va_P.nil {D : va_G} {cl : List vw_C} {H : Heap} : va_P D cl [] H := fun k q h => by simp at h
theorem va_D.nil : va_D (fun _ => True) [] := ⟨fun i j x y h => by simp at h, fun k q h => by simp at h⟩
theorem va_P.pl {D : va_G} {cl : List vw_C} {X pl : va_W} {H : Heap} {q : Nat × va_E} (h : va_P D cl (X ++ pl) H) (hm : q ∈ pl) : va_P D cl [q] H := by
  obtain ⟨k, hk⟩ := List.getElem?_of_mem (List.mem_append_right X hm)
  exact h.one k hk
theorem pl_at {X pl : va_W} {q : Nat × va_E} (h : q ∈ pl) : ∃ k : Nat, (X ++ pl)[k]? = some q := List.getElem?_of_mem (List.mem_append_right X h)
-- the shape of what a method works out: a tree of its branches
def lz {α β : Type} (f : α) (g : α → β) : β := g f
theorem lz_e {α β : Type} {X : β} {f : α} {g : α → β} {z : α} (h : X = lz f g) (e : z = f) : X = g z := by subst e; exact h
def lz2 {α β γ : Type} (f : α × β) (g : α → β → γ) : γ := g f.1 f.2
theorem lz2_e {α β γ : Type} {X : γ} {f : α × β} {g : α → β → γ} {r : α} {u : β} (h : X = lz2 f g) (e : (r, u) = f) : X = g r u := by subst e; exact h
def oc {β : Type} (x : Option Nat) (a : β) (b : Nat → β) : β := match x with
  | none => a
  | some y => b y
theorem oc_n {β : Type} {X : β} {x : Option Nat} {a : β} {b : Nat → β} (h : X = oc x a b) (e : x = none) : X = a := by subst e; exact h
theorem oc_s {β : Type} {X : β} {x : Option Nat} {a : β} {b : Nat → β} {y : Nat} (h : X = oc x a b) (e : x = some y) : X = b y := by subst e; exact h
theorem if_t {β : Type} {X : β} {c : Prop} [Decidable c] {a b : β} (h : X = if c then a else b) (e : c) : X = a := h.trans (if_pos e)
theorem if_f {β : Type} {X : β} {c : Prop} [Decidable c] {a b : β} (h : X = if c then a else b) (e : ¬ c) : X = b := h.trans (if_neg e)
section BASE
variable {p : Program} {l : Launch} {e : Env} {R : Room} {s : State} {m : MethodId} {args : Array Value} {below : List Frame} {meth : Method} {c : Code} {H : Heap} {locs : List Loc} {cells slots : Nat} {Q : State → Prop}
variable {pc : Nat} {ls : Array Slot} {rest st0 : List Value} {a : Array Value} {A0 : Nat → Prop} {H0 : Heap} {mc ms : Nat} {free : Addr → Prop} {G : gG}
theorem W.join {nL J : Nat} {lvm : List (Nat × Value)} {st : List Value} {g : JFrame} (br : (∀ ls : Array Slot, lv_has ls nL lvm → W p l e R s m args below meth c H locs cells slots Q (F0 m J ls st)) → W p l e R s m args below meth c H locs cells slots Q g)
    (k : ∀ ls : Array Slot, lv_has ls nL lvm → W p l e R s m args below meth c H locs cells slots Q (F0 m J ls st)) : W p l e R s m args below meth c H locs cells slots Q g := br k
theorem W.loop {σ : Type} {J : Nat} {st : List Value} (I : Nat → σ → Heap → List Loc → Array Slot → Prop) (h0 : ∀ (v : σ) (H : Heap) (locs : List Loc) (ls : Array Slot), ¬ I 0 v H locs ls)
    (hs : ∀ n : Nat, (∀ (v : σ) (H : Heap) (locs : List Loc) (ls : Array Slot), I n v H locs ls → W p l e R s m args below meth c H locs cells slots Q (F0 m J ls st)) → ∀ (v : σ) (H : Heap) (locs : List Loc) (ls : Array Slot), I (n + 1) v H locs ls → W p l e R s m args below meth c H locs cells slots Q (F0 m J ls st))
    (n : Nat) (v : σ) (hI : I n v H locs ls) : W p l e R s m args below meth c H locs cells slots Q (F0 m J ls st) := by
  have key : ∀ (n : Nat) (v : σ) (H : Heap) (locs : List Loc) (ls : Array Slot), I n v H locs ls → W p l e R s m args below meth c H locs cells slots Q (F0 m J ls st) := by
    intro n
    induction n with
    | zero => exact fun v H locs ls h => absurd h (h0 v H locs ls)
    | succ n ih => exact hs n ih
  exact key n v H locs ls hI
theorem pu_call {v : Value} (hr : va_Run p l e R s m args below meth c H locs cells slots 0 0 (F0 m pc ls st0) rest (pQ v a) (fun _ => False))
    (kk : W p l e R s m args below meth c H locs cells slots Q (F0 m (pc + 3) ls (v :: rest))) : W p l e R s m args below meth c H locs cells slots Q (F0 m pc ls st0) := by
  intro T hT X
  obtain ⟨v', st₀, t, T', L, h0, X', hL, e1, e2, ⟨hv, hh⟩, st⟩ := hr T hT X
  cases hv
  obtain ⟨t2, a1, b1⟩ := kk T' (by rw [e1, hh, h0]) (Stand.forget X' (fun q h => (hL q h).elim))
  exact ⟨t2, st t2 a1, b1⟩
theorem cl_i {S : Type} {post : Int32 → S → Prop} {ws wc wr : va_W} {w1 : S → va_W} (hr : va_Run p l e R s m args below meth c H locs cells slots mc ms (F0 m pc ls st0) rest (va_Qi post (fun u t => pO G (w1 u) (va_A (wc) H.size) t) (va_A (wc) H.size) a) (va_A (wc) H.size)) (hP : va_P G.1 vwCl (ws) H) (hD : va_D A0 (ws)) (hS : va_S A0 H0 H locs) (hA : ∀ q, H0.size ≤ q → A0 q) (isC isR : List Nat) (hC : isC.map (fun i => ws[i]?) = wc.map some) (hR : isR.map (fun i => ws[i]?) = wr.map some) (hn : va_nd isR = true) (hdis : ∀ i ∈ isR, i ∉ isC)
    (kk : ∀ (r : Int32) (u : S) (ez : post r u) (H1 : Heap) (locs1 : List Loc), va_P G.1 vwCl (wr ++ w1 u) H1 → va_D A0 (wr ++ w1 u) → va_S A0 H0 H1 locs1 → W p l e R s m args below meth c H1 locs1 (cells + mc) (slots + ms) Q (F0 m (pc + 3) ls (.int r :: rest))) : W p l e R s m args below meth c H locs cells slots Q (F0 m pc ls st0) := by
  have hF : ∀ q, va_A (wc) H.size q → A0 q := va_free hD hS hA isC hC
  refine va_calli hr hS (fun q _ h => hF q h) hF (fun r u t H1 locs1 ht hvm hw hB hz1 hk1 hS1 => ?_)
  obtain ⟨hP1, hD1⟩ := hB
  rw [ht] at hP1
  obtain ⟨hP2, hD2⟩ := va_join hP hD isC isR hC hR hn hdis hk1 hF hP1 hD1
  exact kk r u hw H1 locs1 hP2 hD2 hS1
theorem cl_l {S : Type} {post : Int64 → S → Prop} {ws wc wr : va_W} {w1 : S → va_W} (hr : va_Run p l e R s m args below meth c H locs cells slots mc ms (F0 m pc ls st0) rest (va_Ql post (fun u t => pO G (w1 u) (va_A (wc) H.size) t) (va_A (wc) H.size) a) (va_A (wc) H.size)) (hP : va_P G.1 vwCl (ws) H) (hD : va_D A0 (ws)) (hS : va_S A0 H0 H locs) (hA : ∀ q, H0.size ≤ q → A0 q) (isC isR : List Nat) (hC : isC.map (fun i => ws[i]?) = wc.map some) (hR : isR.map (fun i => ws[i]?) = wr.map some) (hn : va_nd isR = true) (hdis : ∀ i ∈ isR, i ∉ isC)
    (kk : ∀ (r : Int64) (u : S) (ez : post r u) (H1 : Heap) (locs1 : List Loc), va_P G.1 vwCl (wr ++ w1 u) H1 → va_D A0 (wr ++ w1 u) → va_S A0 H0 H1 locs1 → W p l e R s m args below meth c H1 locs1 (cells + mc) (slots + ms) Q (F0 m (pc + 3) ls (.long r :: rest))) : W p l e R s m args below meth c H locs cells slots Q (F0 m pc ls st0) := by
  have hF : ∀ q, va_A (wc) H.size q → A0 q := va_free hD hS hA isC hC
  refine va_calll hr hS (fun q _ h => hF q h) hF (fun r u t H1 locs1 ht hvm hw hB hz1 hk1 hS1 => ?_)
  obtain ⟨hP1, hD1⟩ := hB
  rw [ht] at hP1
  obtain ⟨hP2, hD2⟩ := va_join hP hD isC isR hC hR hn hdis hk1 hF hP1 hD1
  exact kk r u hw H1 locs1 hP2 hD2 hS1
theorem cl_v {S : Type} {post : S → Prop} {ws wc wr : va_W} {w1 : S → va_W} (hr : va_Run p l e R s m args below meth c H locs cells slots mc ms (F0 m pc ls st0) rest (va_Qv post (fun u t => pO G (w1 u) (va_A (wc) H.size) t) (va_A (wc) H.size) a) (va_A (wc) H.size)) (hP : va_P G.1 vwCl (ws) H) (hD : va_D A0 (ws)) (hS : va_S A0 H0 H locs) (hA : ∀ q, H0.size ≤ q → A0 q) (isC isR : List Nat) (hC : isC.map (fun i => ws[i]?) = wc.map some) (hR : isR.map (fun i => ws[i]?) = wr.map some) (hn : va_nd isR = true) (hdis : ∀ i ∈ isR, i ∉ isC)
    (kk : ∀ (u : S) (ez : post u) (H1 : Heap) (locs1 : List Loc), va_P G.1 vwCl (wr ++ w1 u) H1 → va_D A0 (wr ++ w1 u) → va_S A0 H0 H1 locs1 → W p l e R s m args below meth c H1 locs1 (cells + mc) (slots + ms) Q (F0 m (pc + 3) ls (rest))) : W p l e R s m args below meth c H locs cells slots Q (F0 m pc ls st0) := by
  have hF : ∀ q, va_A (wc) H.size q → A0 q := va_free hD hS hA isC hC
  refine va_callv hr hS (fun q _ h => hF q h) hF (fun u t H1 locs1 ht hvm hw hB hz1 hk1 hS1 => ?_)
  obtain ⟨hP1, hD1⟩ := hB
  rw [ht] at hP1
  obtain ⟨hP2, hD2⟩ := va_join hP hD isC isR hC hR hn hdis hk1 hF hP1 hD1
  exact kk u hw H1 locs1 hP2 hD2 hS1
theorem clq_i {S : Type} {post : Int32 → S → Prop} {X pl wc wr : va_W} {w1 : S → va_W} (hr : va_Run p l e R s m args below meth c H locs cells slots mc ms (F0 m pc ls st0) rest (va_Qi post (fun u t => pO G (w1 u) (va_A (wc) H.size) t) (va_A (wc) H.size) a) (va_A (wc) H.size)) (hP : va_P G.1 vwCl (X ++ pl) H) (hD : va_D A0 (X ++ pl)) (hS : va_S A0 H0 H locs) (hA : ∀ q, H0.size ≤ q → A0 q) (isC isR : List Nat) (hC : isC.map (fun i => X[i]?) = wc.map some) (hR : isR.map (fun i => X[i]?) = wr.map some) (hn : va_nd isR = true) (hdis : ∀ i ∈ isR, i ∉ isC)
    (kk : ∀ (r : Int32) (u : S) (ez : post r u) (H1 : Heap) (locs1 : List Loc), va_P G.1 vwCl ((wr ++ w1 u) ++ pl) H1 → va_D A0 ((wr ++ w1 u) ++ pl) → va_S A0 H0 H1 locs1 → W p l e R s m args below meth c H1 locs1 (cells + mc) (slots + ms) Q (F0 m (pc + 3) ls (.int r :: rest))) : W p l e R s m args below meth c H locs cells slots Q (F0 m pc ls st0) := by
  have hF : ∀ q, va_A (wc) H.size q → A0 q := fun q h => va_freeP (pl := pl) hD hS hA isC hC q (h.elim (fun ⟨k, e, hk⟩ => Or.inl ⟨k, e, by rw [List.getElem?_append_left (List.getElem?_eq_some_iff.mp hk).1]; exact hk⟩) Or.inr)
  refine va_calli hr hS (fun q _ h => hF q h) hF (fun r u t H1 locs1 ht hvm hw hB hz1 hk1 hS1 => ?_)
  obtain ⟨hP1, hD1⟩ := hB
  rw [ht] at hP1
  obtain ⟨hP2, hD2⟩ := va_joinQ hP hD isC isR hC hR hn hdis hk1 hF hP1 hD1
  exact kk r u hw H1 locs1 hP2 hD2 hS1
theorem clq_l {S : Type} {post : Int64 → S → Prop} {X pl wc wr : va_W} {w1 : S → va_W} (hr : va_Run p l e R s m args below meth c H locs cells slots mc ms (F0 m pc ls st0) rest (va_Ql post (fun u t => pO G (w1 u) (va_A (wc) H.size) t) (va_A (wc) H.size) a) (va_A (wc) H.size)) (hP : va_P G.1 vwCl (X ++ pl) H) (hD : va_D A0 (X ++ pl)) (hS : va_S A0 H0 H locs) (hA : ∀ q, H0.size ≤ q → A0 q) (isC isR : List Nat) (hC : isC.map (fun i => X[i]?) = wc.map some) (hR : isR.map (fun i => X[i]?) = wr.map some) (hn : va_nd isR = true) (hdis : ∀ i ∈ isR, i ∉ isC)
    (kk : ∀ (r : Int64) (u : S) (ez : post r u) (H1 : Heap) (locs1 : List Loc), va_P G.1 vwCl ((wr ++ w1 u) ++ pl) H1 → va_D A0 ((wr ++ w1 u) ++ pl) → va_S A0 H0 H1 locs1 → W p l e R s m args below meth c H1 locs1 (cells + mc) (slots + ms) Q (F0 m (pc + 3) ls (.long r :: rest))) : W p l e R s m args below meth c H locs cells slots Q (F0 m pc ls st0) := by
  have hF : ∀ q, va_A (wc) H.size q → A0 q := fun q h => va_freeP (pl := pl) hD hS hA isC hC q (h.elim (fun ⟨k, e, hk⟩ => Or.inl ⟨k, e, by rw [List.getElem?_append_left (List.getElem?_eq_some_iff.mp hk).1]; exact hk⟩) Or.inr)
  refine va_calll hr hS (fun q _ h => hF q h) hF (fun r u t H1 locs1 ht hvm hw hB hz1 hk1 hS1 => ?_)
  obtain ⟨hP1, hD1⟩ := hB
  rw [ht] at hP1
  obtain ⟨hP2, hD2⟩ := va_joinQ hP hD isC isR hC hR hn hdis hk1 hF hP1 hD1
  exact kk r u hw H1 locs1 hP2 hD2 hS1
theorem clq_v {S : Type} {post : S → Prop} {X pl wc wr : va_W} {w1 : S → va_W} (hr : va_Run p l e R s m args below meth c H locs cells slots mc ms (F0 m pc ls st0) rest (va_Qv post (fun u t => pO G (w1 u) (va_A (wc) H.size) t) (va_A (wc) H.size) a) (va_A (wc) H.size)) (hP : va_P G.1 vwCl (X ++ pl) H) (hD : va_D A0 (X ++ pl)) (hS : va_S A0 H0 H locs) (hA : ∀ q, H0.size ≤ q → A0 q) (isC isR : List Nat) (hC : isC.map (fun i => X[i]?) = wc.map some) (hR : isR.map (fun i => X[i]?) = wr.map some) (hn : va_nd isR = true) (hdis : ∀ i ∈ isR, i ∉ isC)
    (kk : ∀ (u : S) (ez : post u) (H1 : Heap) (locs1 : List Loc), va_P G.1 vwCl ((wr ++ w1 u) ++ pl) H1 → va_D A0 ((wr ++ w1 u) ++ pl) → va_S A0 H0 H1 locs1 → W p l e R s m args below meth c H1 locs1 (cells + mc) (slots + ms) Q (F0 m (pc + 3) ls (rest))) : W p l e R s m args below meth c H locs cells slots Q (F0 m pc ls st0) := by
  have hF : ∀ q, va_A (wc) H.size q → A0 q := fun q h => va_freeP (pl := pl) hD hS hA isC hC q (h.elim (fun ⟨k, e, hk⟩ => Or.inl ⟨k, e, by rw [List.getElem?_append_left (List.getElem?_eq_some_iff.mp hk).1]; exact hk⟩) Or.inr)
  refine va_callv hr hS (fun q _ h => hF q h) hF (fun u t H1 locs1 ht hvm hw hB hz1 hk1 hS1 => ?_)
  obtain ⟨hP1, hD1⟩ := hB
  rw [ht] at hP1
  obtain ⟨hP2, hD2⟩ := va_joinQ hP hD isC isR hC hR hn hdis hk1 hF hP1 hD1
  exact kk u hw H1 locs1 hP2 hD2 hS1
theorem clp_i {S : Type} {post : Int32 → S → Prop} {X pl cx wr : va_W} {w1 pl1 : S → va_W} (hr : va_Run p l e R s m args below meth c H locs cells slots mc ms (F0 m pc ls st0) rest (va_Qi post (fun u t => pO G (w1 u ++ pl1 u) (va_A (cx ++ pl) H.size) t) (va_A (cx ++ pl) H.size) a) (va_A (cx ++ pl) H.size)) (hP : va_P G.1 vwCl (X ++ pl) H) (hD : va_D A0 (X ++ pl)) (hS : va_S A0 H0 H locs) (hA : ∀ q, H0.size ≤ q → A0 q) (isC isR : List Nat) (hC : isC.map (fun i => X[i]?) = cx.map some) (hR : isR.map (fun i => X[i]?) = wr.map some) (hn : va_nd isR = true) (hdis : ∀ i ∈ isR, i ∉ isC)
    (kk : ∀ (r : Int32) (u : S) (ez : post r u) (H1 : Heap) (locs1 : List Loc), va_P G.1 vwCl ((wr ++ w1 u) ++ pl1 u) H1 → va_D A0 ((wr ++ w1 u) ++ pl1 u) → va_S A0 H0 H1 locs1 → W p l e R s m args below meth c H1 locs1 (cells + mc) (slots + ms) Q (F0 m (pc + 3) ls (.int r :: rest))) : W p l e R s m args below meth c H locs cells slots Q (F0 m pc ls st0) := by
  have hF : ∀ q, va_A (cx ++ pl) H.size q → A0 q := va_freeP hD hS hA isC hC
  refine va_calli hr hS (fun q _ h => hF q h) hF (fun r u t H1 locs1 ht hvm hw hB hz1 hk1 hS1 => ?_)
  obtain ⟨hP1, hD1⟩ := hB
  rw [ht] at hP1
  obtain ⟨hP2, hD2⟩ := va_joinP hP hD isC isR hC hR hn hdis hk1 hF hP1 hD1
  exact kk r u hw H1 locs1 hP2 hD2 hS1
theorem clp_l {S : Type} {post : Int64 → S → Prop} {X pl cx wr : va_W} {w1 pl1 : S → va_W} (hr : va_Run p l e R s m args below meth c H locs cells slots mc ms (F0 m pc ls st0) rest (va_Ql post (fun u t => pO G (w1 u ++ pl1 u) (va_A (cx ++ pl) H.size) t) (va_A (cx ++ pl) H.size) a) (va_A (cx ++ pl) H.size)) (hP : va_P G.1 vwCl (X ++ pl) H) (hD : va_D A0 (X ++ pl)) (hS : va_S A0 H0 H locs) (hA : ∀ q, H0.size ≤ q → A0 q) (isC isR : List Nat) (hC : isC.map (fun i => X[i]?) = cx.map some) (hR : isR.map (fun i => X[i]?) = wr.map some) (hn : va_nd isR = true) (hdis : ∀ i ∈ isR, i ∉ isC)
    (kk : ∀ (r : Int64) (u : S) (ez : post r u) (H1 : Heap) (locs1 : List Loc), va_P G.1 vwCl ((wr ++ w1 u) ++ pl1 u) H1 → va_D A0 ((wr ++ w1 u) ++ pl1 u) → va_S A0 H0 H1 locs1 → W p l e R s m args below meth c H1 locs1 (cells + mc) (slots + ms) Q (F0 m (pc + 3) ls (.long r :: rest))) : W p l e R s m args below meth c H locs cells slots Q (F0 m pc ls st0) := by
  have hF : ∀ q, va_A (cx ++ pl) H.size q → A0 q := va_freeP hD hS hA isC hC
  refine va_calll hr hS (fun q _ h => hF q h) hF (fun r u t H1 locs1 ht hvm hw hB hz1 hk1 hS1 => ?_)
  obtain ⟨hP1, hD1⟩ := hB
  rw [ht] at hP1
  obtain ⟨hP2, hD2⟩ := va_joinP hP hD isC isR hC hR hn hdis hk1 hF hP1 hD1
  exact kk r u hw H1 locs1 hP2 hD2 hS1
theorem clp_v {S : Type} {post : S → Prop} {X pl cx wr : va_W} {w1 pl1 : S → va_W} (hr : va_Run p l e R s m args below meth c H locs cells slots mc ms (F0 m pc ls st0) rest (va_Qv post (fun u t => pO G (w1 u ++ pl1 u) (va_A (cx ++ pl) H.size) t) (va_A (cx ++ pl) H.size) a) (va_A (cx ++ pl) H.size)) (hP : va_P G.1 vwCl (X ++ pl) H) (hD : va_D A0 (X ++ pl)) (hS : va_S A0 H0 H locs) (hA : ∀ q, H0.size ≤ q → A0 q) (isC isR : List Nat) (hC : isC.map (fun i => X[i]?) = cx.map some) (hR : isR.map (fun i => X[i]?) = wr.map some) (hn : va_nd isR = true) (hdis : ∀ i ∈ isR, i ∉ isC)
    (kk : ∀ (u : S) (ez : post u) (H1 : Heap) (locs1 : List Loc), va_P G.1 vwCl ((wr ++ w1 u) ++ pl1 u) H1 → va_D A0 ((wr ++ w1 u) ++ pl1 u) → va_S A0 H0 H1 locs1 → W p l e R s m args below meth c H1 locs1 (cells + mc) (slots + ms) Q (F0 m (pc + 3) ls (rest))) : W p l e R s m args below meth c H locs cells slots Q (F0 m pc ls st0) := by
  have hF : ∀ q, va_A (cx ++ pl) H.size q → A0 q := va_freeP hD hS hA isC hC
  refine va_callv hr hS (fun q _ h => hF q h) hF (fun u t H1 locs1 ht hvm hw hB hz1 hk1 hS1 => ?_)
  obtain ⟨hP1, hD1⟩ := hB
  rw [ht] at hP1
  obtain ⟨hP2, hD2⟩ := va_joinP hP hD isC isR hC hR hn hdis hk1 hF hP1 hD1
  exact kk u hw H1 locs1 hP2 hD2 hS1
theorem my_newa {cc : ByteArray} (hexec : p.tables.exec = Jvm.exec) (hb : c.code = cc) {atype : ArrayType} (harr : (Cond.arrayClass (newarray.typeOf atype)).before args s = true) {ty : FieldType} (hty : newarray.typeOf atype = ty) (hK : KK G s) {ws : va_W} (hP : va_P G.1 vwCl ws H) (hD : va_D A0 ws) (hS : va_S A0 H0 H locs) (hA : ∀ q, H0.size ≤ q → A0 q)
    (t0 : Nat) {cA : ClassId} (ht : (gT G)[t0]? = some (cA, ty)) (hnr : ∀ C, ty ≠ .object C) {n : Int32} {N' : Nat} {a0 : vp_A} (ha : ∀ cA : ClassId, vp_cell cA a0 = arrV cA N' (fun _ => defaultValue ty)) (hn : ¬ n < 0) (hN : n.toNatClampNeg = N') (hbytes : N' * componentBytes ty ≤ 536870912) (hcells : cells + 1 ≤ R.cells) (hslots : slots + N' ≤ R.slots) (hdg : decode cc pc = .ok (.newarray atype, 2))
    (kk : ∀ (q : Nat) (H1 : Heap), va_P G.1 vwCl (ws ++ [(q, .inl (cA, a0))]) H1 → va_D A0 (ws ++ [(q, .inl (cA, a0))]) → va_S A0 H0 H1 locs →
      W p l e R s m args below meth c H1 locs (cells + 1) (slots + N') Q (F0 m (pc + 2) ls (.ref q :: rest))) : W p l e R s m args below meth c H locs cells slots Q (F0 m pc ls (.int n :: rest)) := by
  refine va_newa hexec hb harr hty hK.1 hP hD hS hA ha hn hN hbytes hcells hslots hdg fun q cB H1 K1 P1 D1 S1 => ?_
  have e1 := (hK.1.2 t0 _ ht).2
  have e2 := (K1.2 (gT G).length (cB, ty) (by rw [List.getElem?_append_right (Nat.le_refl _), Nat.sub_self]; rfl)).2
  have e3 : cB = cA := by
    cases ty with
    | object C => exact absurd rfl (hnr C)
    | _ => exact Option.some.inj (e2.symm.trans e1)
  subst e3
  exact kk q H1 P1 D1 S1
theorem my_newq {cc : ByteArray} (hexec : p.tables.exec = Jvm.exec) (hb : c.code = cc) {own C : String} {index : Nat} (hown : s.vm.findClass own = some m.cls) (hclink : (Cond.classLink own index C).before args s = true) (hover : va_AO C s) (hK : KK G s) {ws : va_W} (hP : va_P G.1 vwCl ws H) (hD : va_D A0 ws) (hS : va_S A0 H0 H locs) (hA : ∀ q, H0.size ≤ q → A0 q)
    (t0 : Nat) {cA : ClassId} (ht : (gT G)[t0]? = some (cA, .object C)) {n : Int32} {N' : Nat} (hn : ¬ n < 0) (hN : n.toNatClampNeg = N') (hbytes : N' * 4 ≤ 536870912) (hcells : cells + 1 ≤ R.cells) (hslots : slots + N' ≤ R.slots) (hdg : decode cc pc = .ok (.anewarray index, 3))
    (kk : ∀ (q : Nat) (H1 : Heap), va_P G.1 vwCl (ws ++ [(q, .inl (cA, N', .inr (.inr (.inr (.inr (fun _ => none))))))]) H1 → va_D A0 (ws ++ [(q, .inl (cA, N', .inr (.inr (.inr (.inr (fun _ => none))))))]) → va_S A0 H0 H1 locs →
      W p l e R s m args below meth c H1 locs (cells + 1) (slots + N') Q (F0 m (pc + 3) ls (.ref q :: rest))) : W p l e R s m args below meth c H locs cells slots Q (F0 m pc ls (.int n :: rest)) := by
  refine va_newq hexec hb hown hclink hover hK.1 hP hD hS hA hn hN hbytes hcells hslots hdg fun q cB H1 K1 P1 D1 S1 => ?_
  obtain ⟨kA, comp, -, -, -, e1⟩ := (hK.1.2 t0 _ ht).2
  obtain ⟨kB, comp2, -, -, -, e2⟩ := (K1.2 (gT G).length (cB, .object C) (by rw [List.getElem?_append_right (Nat.le_refl _), Nat.sub_self]; rfl)).2
  have e3 : cB = cA := Option.some.inj (e2.symm.trans e1)
  subst e3
  exact kk q H1 P1 D1 S1
end BASE
-- indices within
theorem fb_rng (x : Int32) : -2147483648 ≤ x.toInt ∧ x.toInt < 2147483648 := by
  have h1 := Int32.le_toInt x
  have h2 := Int32.toInt_lt x
  omega
theorem fb_bmod {z : Int} (h1 : -2147483648 ≤ z) (h2 : z < 2147483648) : z.bmod (2 ^ 32) = z := by
  rw [Int.bmod_eq_of_le (by omega) (by omega)]
theorem fb_addI {x y : Int32} (h1 : -2147483648 ≤ x.toInt + y.toInt) (h2 : x.toInt + y.toInt < 2147483648) : (x + y).toInt = x.toInt + y.toInt := by
  rw [Int32.toInt_add, fb_bmod h1 h2]
theorem fb_subI {x y : Int32} (h1 : -2147483648 ≤ x.toInt - y.toInt) (h2 : x.toInt - y.toInt < 2147483648) : (x - y).toInt = x.toInt - y.toInt := by
  rw [Int32.toInt_sub, fb_bmod h1 h2]
theorem fb_mulI {x y : Int32} (h1 : -2147483648 ≤ x.toInt * y.toInt) (h2 : x.toInt * y.toInt < 2147483648) : (x * y).toInt = x.toInt * y.toInt := by
  rw [Int32.toInt_mul, fb_bmod h1 h2]
theorem fb_rngL (x : Int64) : -9223372036854775808 ≤ x.toInt ∧ x.toInt < 9223372036854775808 := by
  have h1 := Int64.le_toInt x
  have h2 := Int64.toInt_lt x
  omega
theorem fb_bmodL {z : Int} (h1 : -9223372036854775808 ≤ z) (h2 : z < 9223372036854775808) : z.bmod (2 ^ 64) = z := by
  rw [Int.bmod_eq_of_le (by omega) (by omega)]
theorem fb_addL {x y : Int64} (h1 : -9223372036854775808 ≤ x.toInt + y.toInt) (h2 : x.toInt + y.toInt < 9223372036854775808) : (x + y).toInt = x.toInt + y.toInt := by
  rw [Int64.toInt_add, fb_bmodL h1 h2]
theorem fb_subL {x y : Int64} (h1 : -9223372036854775808 ≤ x.toInt - y.toInt) (h2 : x.toInt - y.toInt < 9223372036854775808) : (x - y).toInt = x.toInt - y.toInt := by
  rw [Int64.toInt_sub, fb_bmodL h1 h2]
theorem i_lt {x y : Int32} (h : x < y) : x.toInt < y.toInt := Int32.lt_iff_toInt_lt.mp h
theorem i_nlt {x y : Int32} (h : ¬ x < y) : y.toInt ≤ x.toInt := Int.not_lt.mp fun q => h (Int32.lt_iff_toInt_lt.mpr q)
theorem i_le {x y : Int32} (h : x ≤ y) : x.toInt ≤ y.toInt := Int32.le_iff_toInt_le.mp h
theorem i_nle {x y : Int32} (h : ¬ x ≤ y) : y.toInt < x.toInt := Int.not_le.mp fun q => h (Int32.le_iff_toInt_le.mpr q)
theorem in_lo {x M : Int32} {n : Nat} (h0 : ¬ x < 0) (h1 : x < M) (hM : M.toInt = n) : vp_in x n := vp_in_iff.mpr ⟨i_nlt h0, hM ▸ i_lt h1⟩
theorem in_le {x M : Int32} {n : Nat} (h0 : ¬ x < 0) (h1 : ¬ M ≤ x) (hM : M.toInt = n) : vp_in x n := vp_in_iff.mpr ⟨i_nlt h0, hM ▸ i_nle h1⟩
theorem in_lv {x : Int32} (h0 : ¬ x < 1) (h1 : ¬ 20 < x) : vp_in x 21 := by
  have a : (1 : Int) ≤ x.toInt := i_nlt h0
  have b : x.toInt ≤ 20 := i_nlt h1
  exact vp_in_iff.mpr ⟨by omega, by omega⟩
theorem tp_a {f z : Int32} (hf : vp_in f 201) (hz : vp_in z 201) (h : f + z < 200) : vp_in (f + z) 200 := by
  have a := vp_in_iff.mp hf
  have b := vp_in_iff.mp hz
  have e : (f + z).toInt = f.toInt + z.toInt := fb_addI (by omega) (by omega)
  have h1 : (f + z).toInt < 200 := i_lt h
  exact vp_in_iff.mpr ⟨by omega, by omega⟩
theorem tp_b {f z : Int32} (hf : vp_in f 201) (hz : vp_in z 201) (h9 : z < 200) (h : ¬ f + z < 200) : vp_in (f + z - 200) 200 := by
  have a := vp_in_iff.mp hf
  have b := vp_in_iff.mp hz
  have e : (f + z).toInt = f.toInt + z.toInt := fb_addI (by omega) (by omega)
  have h1 : (200 : Int) ≤ (f + z).toInt := i_nlt h
  have h2 : z.toInt < 200 := i_lt h9
  have t2 : (200 : Int32).toInt = 200 := rfl
  have e2 : (f + z - 200).toInt = (f + z).toInt - (200 : Int32).toInt := fb_subI (by omega) (by omega)
  exact vp_in_iff.mpr ⟨by omega, by omega⟩
theorem in_sub {x : Int32} {n k : Nat} (h : vp_in x n) (hx : x.toInt < k) : vp_in x k := vp_in_iff.mpr ⟨(vp_in_iff.mp h).1, hx⟩
theorem in_n0 {x : Int32} {n : Nat} (h : vp_in x n) : ¬ x < 0 := fun q => h (Or.inl q)
theorem in_3a {k : Int32} (h : vp_in k 301) (h1 : ¬ 300 ≤ k) : vp_in (k * 3) 900 ∧ vp_in (k * 3 + 1) 900 ∧ vp_in (k * 3 + 2) 900 := by
  have a := vp_in_iff.mp h
  have b : k.toInt < 300 := i_nle h1
  have t3 : (3 : Int32).toInt = 3 := rfl
  have t1 : (1 : Int32).toInt = 1 := rfl
  have t2 : (2 : Int32).toInt = 2 := rfl
  have e : (k * 3).toInt = k.toInt * 3 := by rw [fb_mulI (by rw [t3]; omega) (by rw [t3]; omega), t3]
  have e1 : (k * 3 + 1).toInt = (k * 3).toInt + (1 : Int32).toInt := fb_addI (by omega) (by omega)
  have e2 : (k * 3 + 2).toInt = (k * 3).toInt + (2 : Int32).toInt := fb_addI (by omega) (by omega)
  exact ⟨vp_in_iff.mpr ⟨by omega, by omega⟩, vp_in_iff.mpr ⟨by omega, by omega⟩, vp_in_iff.mpr ⟨by omega, by omega⟩⟩
theorem in_3b {i w : Int32} (h : vp_in i 300) (h0 : ¬ w < 0) (h1 : ¬ 3 ≤ w) : vp_in (i * 3 + w) 900 := by
  have a := vp_in_iff.mp h
  have b : w.toInt < 3 := i_nle h1
  have b0 : 0 ≤ w.toInt := i_nlt h0
  have t3 : (3 : Int32).toInt = 3 := rfl
  have e : (i * 3).toInt = i.toInt * 3 := by rw [fb_mulI (by rw [t3]; omega) (by rw [t3]; omega), t3]
  have e1 : (i * 3 + w).toInt = (i * 3).toInt + w.toInt := fb_addI (by omega) (by omega)
  exact vp_in_iff.mpr ⟨by omega, by omega⟩
theorem i_inc {k M : Int32} {n : Nat} (h0 : vp_in k n) (h : k < M) (hM : M.toInt + 1 = n) : vp_in (k + 1) n := by
  have a := vp_in_iff.mp h0
  have b := i_lt h
  have c := fb_rng M
  have t1 : (1 : Int32).toInt = 1 := rfl
  have e : (k + 1).toInt = k.toInt + (1 : Int32).toInt := fb_addI (by omega) (by omega)
  exact vp_in_iff.mpr ⟨by omega, by omega⟩
theorem i_ge {x y : Int32} (h : x < y) : ¬ y ≤ x := fun q => absurd (i_lt h) (Int.not_lt.mpr (i_le q))
theorem i_not {x y : Int32} (h : ¬ x ≤ y) : y < x := Int32.lt_iff_toInt_lt.mpr (i_nle h)
theorem hi_lt {x : Int32} {n : Nat} (h : vp_in x n) : x.toNatClampNeg < n := Nat.not_le.mp fun q => h (Or.inr q)
theorem i_incN {k : Int32} {n : Nat} (h : vp_in k n) (hn : n < 2 ^ 31) : (k + 1).toNatClampNeg = k.toNatClampNeg + 1 := by
  obtain ⟨j, hj, rfl⟩ := vp_in_of h hn
  rw [nI_1, nI_clamp (by omega), nI_clamp (by omega)]
theorem i_dec {r : Int32} {n : Nat} (h : vp_in r n) (hn : n < 2 ^ 31) (h0 : ¬ r ≤ 0) : vp_in (r + (-1)) n ∧ (r + (-1)).toNatClampNeg + 1 = r.toNatClampNeg := by
  obtain ⟨j, hj, rfl⟩ := vp_in_of h hn
  cases j with
  | zero => exact absurd (by decide) h0
  | succ j =>
    rw [pk_m1]
    exact ⟨vp_in_nI (by omega) (by omega), by rw [nI_clamp (by omega), nI_clamp (by omega)]⟩
end
section
def F_X2_add (first : Int32) (size : Int32) (nums : Nat → Int32) (p1 : Int32) : Int32 × (Nat → Int32) :=
  (if size < 200 then (if (first + size) < 200 then ((size + 1), (upd nums ((first + size) : Int32).toNatClampNeg p1)) else ((size + 1), (upd nums (((first + size) - 200) : Int32).toNatClampNeg p1))) else (size, nums))
set_option maxHeartbeats 4000000 in
set_option maxRecDepth 100000 in
theorem c_X2_add (l : Launch) (G : gG) (h0 h1 : Nat) (sz : Nat) (first : Int32) (size : Int32) (nums : Nat → Int32) (p1 : Int32) (hf : vp_in first 201) (hz : vp_in size 201) : Met l yX2_add wsX2_add ({ frames := 0, cells := 0, slots := 0, locals := 0 }) (va_Pc [.ref h0, .int p1] (pR G [(h0, .inr (4, [.ref h1, .int first, .int size])), (h1, .inl (G.2 0, 200, .inl nums))] sz)) (va_Qv (fun (u : Int32 × (Nat → Int32)) => u = F_X2_add first size nums p1) (fun u t => pO G [(h0, .inr (4, [.ref h1, .int first, .int u.1])), (h1, .inl (G.2 0, 200, .inl u.2))] (va_A [(h0, .inr (4, [.ref h1, .int first, .int size])), (h1, .inl (G.2 0, 200, .inl nums))] sz) t) (va_A [(h0, .inr (4, [.ref h1, .int first, .int size])), (h1, .inl (G.2 0, 200, .inl nums))] sz)) 0 0 (va_A [(h0, .inr (4, [.ref h1, .int first, .int size])), (h1, .inl (G.2 0, 200, .inl nums))] sz) := by
  refine Met.ofW (cc := cX2_add) (maxL := 3) (ret := none) (by decide) rfl ?_
  intro p e s m args below meth c s₁ B hml hv
  obtain ⟨rfl, hsz, hP, hK, hD0⟩ := hv
  have hx := B.exec
  have hb := B.bytes
  have hr := B.returns
  have hts := atoms_spec (ws := wsX2_add) B.pre
  have hown : s.vm.findClass RX2 = some m.cls := findClass_of_methodNamed B.named
  have hlocks := B.notSynchronized
  subst hsz
  have iX2 : ∀ w ∈ wsX20, w ∈ wsX2_add := by decide +kernel
  have hD := hD0.self (sz := s.heap.size)
  generalize hAe : va_A [(h0, .inr (4, [.ref h1, .int first, .int size])), (h1, .inl (G.2 0, 200, .inl nums))] s.heap.size = A at hD ⊢
  have hA : ∀ q : Nat, s.heap.size ≤ q → A q := fun q h => by rw [← hAe]; exact Or.inr h
  have hS : va_S A s.heap s.heap [] := va_S.rf
  have hP : va_P G.1 vwCl [(h0, .inr (4, [.ref h1, .int first, .int size])), (h1, .inl (G.2 0, 200, .inl nums))] s.heap := hP
  have hl := lv_entry ([.ref h0, .int p1]) (n := 3) (Nat.le_of_ble_eq_true rfl)
  rw [lg_entry_eq]
  generalize (lg_sl ([.ref h0, .int p1]) ++ List.replicate (3 - (lg_sl ([.ref h0, .int p1])).length) Slot.unset).toArray = ls at hl ⊢
  have hl : lv_has ls 3 [(0, .ref h0), (1, .int p1)] := hl
  have hF : F_X2_add first size nums p1 = F_X2_add first size nums p1 := rfl
  refine lv_aload_n hx hb dX2_add_0 rfl (lv_at hl 0 rfl) ?_
  refine va_get (D := G.1) (ci := 4) (v := .int size) (C := RX2) (T := TX2) (N := 3) hx hb hts iX2 hown hK.1 hP 0 rfl rfl 2 (by decide) (hts (.fieldLink RX2 15 "RightsSteps$Tape" "size" "I") (by decide +kernel)) (fun _ h9 => h9) rfl dX2_add_1 ?_
  refine lv_aload_n hx hb dX2_add_4 rfl (lv_at hl 0 rfl) ?_
  refine va_get (D := G.1) (ci := 4) (v := .ref h1) (C := RX2) (T := TX2) (N := 3) hx hb hts iX2 hown hK.1 hP 0 rfl rfl 0 (by decide) (hts (.fieldLink RX2 11 "RightsSteps$Tape" "numbers" "[I") (by decide +kernel)) (fun _ h9 => h9) rfl dX2_add_5 ?_
  refine va_alen (v := 200) hx hb hK.1 hP 1 0 rfl rfl rfl dX2_add_8 ?_
  refine lv_icmp_lt (tgt := 13) hx hb dX2_add_9 (by decide) (fun c_9 => ?_) (fun c_9 => ?_)
  · have hF := if_t hF c_9
    refine lv_aload_n hx hb dX2_add_13 rfl (lv_at hl 0 rfl) ?_
    refine va_get (D := G.1) (ci := 4) (v := .int first) (C := RX2) (T := TX2) (N := 3) hx hb hts iX2 hown hK.1 hP 0 rfl rfl 1 (by decide) (hts (.fieldLink RX2 19 "RightsSteps$Tape" "first" "I") (by decide +kernel)) (fun _ h9 => h9) rfl dX2_add_14 ?_
    refine lv_aload_n hx hb dX2_add_17 rfl (lv_at hl 0 rfl) ?_
    refine va_get (D := G.1) (ci := 4) (v := .int size) (C := RX2) (T := TX2) (N := 3) hx hb hts iX2 hown hK.1 hP 0 rfl rfl 2 (by decide) (hts (.fieldLink RX2 15 "RightsSteps$Tape" "size" "I") (by decide +kernel)) (fun _ h9 => h9) rfl dX2_add_18 ?_
    refine lv_iadd hx hb dX2_add_21 ?_
    refine lv_istore_n (lv' := [(2, .int (first + size)), (0, .ref h0), (1, .int p1)]) hx hb dX2_add_22 rfl hl (by decide) rfl (fun ls hl => ?_)
    refine lv_iload_n hx hb dX2_add_23 rfl (lv_at hl 0 rfl) ?_
    refine lv_aload_n hx hb dX2_add_24 rfl (lv_at hl 1 rfl) ?_
    refine va_get (D := G.1) (ci := 4) (v := .ref h1) (C := RX2) (T := TX2) (N := 3) hx hb hts iX2 hown hK.1 hP 0 rfl rfl 0 (by decide) (hts (.fieldLink RX2 11 "RightsSteps$Tape" "numbers" "[I") (by decide +kernel)) (fun _ h9 => h9) rfl dX2_add_25 ?_
    refine va_alen (v := 200) hx hb hK.1 hP 1 0 rfl rfl rfl dX2_add_28 ?_
    refine lv_icmp_lt (tgt := 40) hx hb dX2_add_29 (by decide) (fun c_29 => ?_) (fun c_29 => ?_)
    · have hF := if_t hF c_29
      refine lv_aload_n hx hb dX2_add_40 rfl (lv_at hl 1 rfl) ?_
      refine va_get (D := G.1) (ci := 4) (v := .ref h1) (C := RX2) (T := TX2) (N := 3) hx hb hts iX2 hown hK.1 hP 0 rfl rfl 0 (by decide) (hts (.fieldLink RX2 11 "RightsSteps$Tape" "numbers" "[I") (by decide +kernel)) (fun _ h9 => h9) rfl dX2_add_41 ?_
      refine lv_iload_n hx hb dX2_add_44 rfl (lv_at hl 0 rfl) ?_
      refine lv_iload_n hx hb dX2_add_45 rfl (lv_at hl 2 rfl) ?_
      refine va_iast (f := nums) hx hb hK.1 hP hD hS 1 0 rfl rfl (tp_a hf hz c_29) dX2_add_46 (fun H locs hP hD hS => ?_)
      have hP : va_P G.1 vwCl [(h0, .inr (4, [.ref h1, .int first, .int size])), (h1, .inl (G.2 0, 200, .inl (upd nums ((first + size) : Int32).toNatClampNeg p1)))] H := hP
      have hD : va_D A [(h0, .inr (4, [.ref h1, .int first, .int size])), (h1, .inl (G.2 0, 200, .inl (upd nums ((first + size) : Int32).toNatClampNeg p1)))] := hD
      refine lv_aload_n hx hb dX2_add_47 rfl (lv_at hl 1 rfl) ?_
      refine lv_dup hx hb dX2_add_48 rfl ?_
      refine va_get (D := G.1) (ci := 4) (v := .int size) (C := RX2) (T := TX2) (N := 3) hx hb hts iX2 hown hK.1 hP 0 rfl rfl 2 (by decide) (hts (.fieldLink RX2 15 "RightsSteps$Tape" "size" "I") (by decide +kernel)) (fun _ h9 => h9) rfl dX2_add_49 ?_
      refine lv_iconst (v := 1) hx hb dX2_add_52 (by decide) ?_
      refine lv_iadd hx hb dX2_add_53 ?_
      refine va_put (D := G.1) (ci := 4) (v := .int (size + 1)) (ty := .int) (C := RX2) (T := TX2) (N := 3) hx hb hts iX2 tyX2 tyX2_ok nmX2 hown hK.1 hP hD hS 0 rfl rfl 2 (by decide) (hts (.fieldLink RX2 15 "RightsSteps$Tape" "size" "I") (by decide +kernel)) (fun _ h9 => h9) rfl (by decide +kernel) rfl rfl (Nat.le_of_ble_eq_true rfl) dX2_add_54 (fun H locs hP hD hS => ?_)
      have hP : va_P G.1 vwCl [(h0, .inr (4, [.ref h1, .int first, .int (size + 1)])), (h1, .inl (G.2 0, 200, .inl (upd nums ((first + size) : Int32).toNatClampNeg p1)))] H := hP
      have hD : va_D A [(h0, .inr (4, [.ref h1, .int first, .int (size + 1)])), (h1, .inl (G.2 0, 200, .inl (upd nums ((first + size) : Int32).toNatClampNeg p1)))] := hD
      exact W.vret hx hb hr (fun t ht hW => ⟨⟨((size + 1), (upd nums ((first + size) : Int32).toNatClampNeg p1)), rfl, hF.symm, by rw [ht]; exact hP.sub [0, 1] rfl, hD.sub [0, 1] (by decide) rfl⟩, hS.F ht⟩) hS.2.2 dX2_add_57
    · have hF := if_f hF c_29
      refine lv_iload_n hx hb dX2_add_32 rfl (lv_at hl 0 rfl) ?_
      refine lv_aload_n hx hb dX2_add_33 rfl (lv_at hl 1 rfl) ?_
      refine va_get (D := G.1) (ci := 4) (v := .ref h1) (C := RX2) (T := TX2) (N := 3) hx hb hts iX2 hown hK.1 hP 0 rfl rfl 0 (by decide) (hts (.fieldLink RX2 11 "RightsSteps$Tape" "numbers" "[I") (by decide +kernel)) (fun _ h9 => h9) rfl dX2_add_34 ?_
      refine va_alen (v := 200) hx hb hK.1 hP 1 0 rfl rfl rfl dX2_add_37 ?_
      refine lv_isub hx hb dX2_add_38 ?_
      refine lv_istore_n (lv' := [(2, .int ((first + size) - 200)), (0, .ref h0), (1, .int p1)]) hx hb dX2_add_39 rfl hl (by decide) rfl (fun ls hl => ?_)
      refine lv_aload_n hx hb dX2_add_40 rfl (lv_at hl 1 rfl) ?_
      refine va_get (D := G.1) (ci := 4) (v := .ref h1) (C := RX2) (T := TX2) (N := 3) hx hb hts iX2 hown hK.1 hP 0 rfl rfl 0 (by decide) (hts (.fieldLink RX2 11 "RightsSteps$Tape" "numbers" "[I") (by decide +kernel)) (fun _ h9 => h9) rfl dX2_add_41 ?_
      refine lv_iload_n hx hb dX2_add_44 rfl (lv_at hl 0 rfl) ?_
      refine lv_iload_n hx hb dX2_add_45 rfl (lv_at hl 2 rfl) ?_
      refine va_iast (f := nums) hx hb hK.1 hP hD hS 1 0 rfl rfl (tp_b hf hz c_9 c_29) dX2_add_46 (fun H locs hP hD hS => ?_)
      have hP : va_P G.1 vwCl [(h0, .inr (4, [.ref h1, .int first, .int size])), (h1, .inl (G.2 0, 200, .inl (upd nums (((first + size) - 200) : Int32).toNatClampNeg p1)))] H := hP
      have hD : va_D A [(h0, .inr (4, [.ref h1, .int first, .int size])), (h1, .inl (G.2 0, 200, .inl (upd nums (((first + size) - 200) : Int32).toNatClampNeg p1)))] := hD
      refine lv_aload_n hx hb dX2_add_47 rfl (lv_at hl 1 rfl) ?_
      refine lv_dup hx hb dX2_add_48 rfl ?_
      refine va_get (D := G.1) (ci := 4) (v := .int size) (C := RX2) (T := TX2) (N := 3) hx hb hts iX2 hown hK.1 hP 0 rfl rfl 2 (by decide) (hts (.fieldLink RX2 15 "RightsSteps$Tape" "size" "I") (by decide +kernel)) (fun _ h9 => h9) rfl dX2_add_49 ?_
      refine lv_iconst (v := 1) hx hb dX2_add_52 (by decide) ?_
      refine lv_iadd hx hb dX2_add_53 ?_
      refine va_put (D := G.1) (ci := 4) (v := .int (size + 1)) (ty := .int) (C := RX2) (T := TX2) (N := 3) hx hb hts iX2 tyX2 tyX2_ok nmX2 hown hK.1 hP hD hS 0 rfl rfl 2 (by decide) (hts (.fieldLink RX2 15 "RightsSteps$Tape" "size" "I") (by decide +kernel)) (fun _ h9 => h9) rfl (by decide +kernel) rfl rfl (Nat.le_of_ble_eq_true rfl) dX2_add_54 (fun H locs hP hD hS => ?_)
      have hP : va_P G.1 vwCl [(h0, .inr (4, [.ref h1, .int first, .int (size + 1)])), (h1, .inl (G.2 0, 200, .inl (upd nums (((first + size) - 200) : Int32).toNatClampNeg p1)))] H := hP
      have hD : va_D A [(h0, .inr (4, [.ref h1, .int first, .int (size + 1)])), (h1, .inl (G.2 0, 200, .inl (upd nums (((first + size) - 200) : Int32).toNatClampNeg p1)))] := hD
      exact W.vret hx hb hr (fun t ht hW => ⟨⟨((size + 1), (upd nums (((first + size) - 200) : Int32).toNatClampNeg p1)), rfl, hF.symm, by rw [ht]; exact hP.sub [0, 1] rfl, hD.sub [0, 1] (by decide) rfl⟩, hS.F ht⟩) hS.2.2 dX2_add_57
  · have hF := if_f hF c_9
    exact W.vret hx hb hr (fun t ht hW => ⟨⟨(size, nums), rfl, hF.symm, by rw [ht]; exact hP.sub [0, 1] rfl, hD.sub [0, 1] (by decide) rfl⟩, hS.F ht⟩) hS.2.2 dX2_add_12

def F_X2_takeFirst (first : Int32) (size : Int32) (nums : Nat → Int32) : Int32 × Int32 × Int32 :=
  (if first < 200 then ((nums (first : Int32).toNatClampNeg), ((first + 1), (size - 1))) else ((nums (0 : Int32).toNatClampNeg), (1, (size - 1))))
set_option maxHeartbeats 4000000 in
set_option maxRecDepth 100000 in
theorem c_X2_takeFirst (l : Launch) (G : gG) (h0 h1 : Nat) (sz : Nat) (first : Int32) (size : Int32) (nums : Nat → Int32) (hf : vp_in first 201) : Met l yX2_takeFirst wsX2_takeFirst ({ frames := 0, cells := 0, slots := 0, locals := 0 }) (va_Pc [.ref h0] (pR G [(h0, .inr (4, [.ref h1, .int first, .int size])), (h1, .inl (G.2 0, 200, .inl nums))] sz)) (va_Qi (fun (r : Int32) (u : Int32 × Int32) => (r, u) = F_X2_takeFirst first size nums) (fun u t => pO G [(h0, .inr (4, [.ref h1, .int u.1, .int u.2])), (h1, .inl (G.2 0, 200, .inl nums))] (va_A [(h0, .inr (4, [.ref h1, .int first, .int size])), (h1, .inl (G.2 0, 200, .inl nums))] sz) t) (va_A [(h0, .inr (4, [.ref h1, .int first, .int size])), (h1, .inl (G.2 0, 200, .inl nums))] sz)) 0 0 (va_A [(h0, .inr (4, [.ref h1, .int first, .int size])), (h1, .inl (G.2 0, 200, .inl nums))] sz) := by
  refine Met.ofW (cc := cX2_takeFirst) (maxL := 2) (ret := (some .int)) (by decide) rfl ?_
  intro p e s m args below meth c s₁ B hml hv
  obtain ⟨rfl, hsz, hP, hK, hD0⟩ := hv
  have hx := B.exec
  have hb := B.bytes
  have hr := B.returns
  have hts := atoms_spec (ws := wsX2_takeFirst) B.pre
  have hown : s.vm.findClass RX2 = some m.cls := findClass_of_methodNamed B.named
  have hlocks := B.notSynchronized
  subst hsz
  have iX2 : ∀ w ∈ wsX20, w ∈ wsX2_takeFirst := by decide +kernel
  have hD := hD0.self (sz := s.heap.size)
  generalize hAe : va_A [(h0, .inr (4, [.ref h1, .int first, .int size])), (h1, .inl (G.2 0, 200, .inl nums))] s.heap.size = A at hD ⊢
  have hA : ∀ q : Nat, s.heap.size ≤ q → A q := fun q h => by rw [← hAe]; exact Or.inr h
  have hS : va_S A s.heap s.heap [] := va_S.rf
  have hP : va_P G.1 vwCl [(h0, .inr (4, [.ref h1, .int first, .int size])), (h1, .inl (G.2 0, 200, .inl nums))] s.heap := hP
  have hl := lv_entry ([.ref h0]) (n := 2) (Nat.le_of_ble_eq_true rfl)
  rw [lg_entry_eq]
  generalize (lg_sl ([.ref h0]) ++ List.replicate (2 - (lg_sl ([.ref h0])).length) Slot.unset).toArray = ls at hl ⊢
  have hl : lv_has ls 2 [(0, .ref h0)] := hl
  have hF : F_X2_takeFirst first size nums = F_X2_takeFirst first size nums := rfl
  refine lv_aload_n hx hb dX2_takeFirst_0 rfl (lv_at hl 0 rfl) ?_
  refine va_get (D := G.1) (ci := 4) (v := .int first) (C := RX2) (T := TX2) (N := 3) hx hb hts iX2 hown hK.1 hP 0 rfl rfl 1 (by decide) (hts (.fieldLink RX2 19 "RightsSteps$Tape" "first" "I") (by decide +kernel)) (fun _ h9 => h9) rfl dX2_takeFirst_1 ?_
  refine lv_aload_n hx hb dX2_takeFirst_4 rfl (lv_at hl 0 rfl) ?_
  refine va_get (D := G.1) (ci := 4) (v := .ref h1) (C := RX2) (T := TX2) (N := 3) hx hb hts iX2 hown hK.1 hP 0 rfl rfl 0 (by decide) (hts (.fieldLink RX2 11 "RightsSteps$Tape" "numbers" "[I") (by decide +kernel)) (fun _ h9 => h9) rfl dX2_takeFirst_5 ?_
  refine va_alen (v := 200) hx hb hK.1 hP 1 0 rfl rfl rfl dX2_takeFirst_8 ?_
  refine lv_icmp_lt (tgt := 17) hx hb dX2_takeFirst_9 (by decide) (fun c_9 => ?_) (fun c_9 => ?_)
  · have hF := if_t hF c_9
    refine lv_aload_n hx hb dX2_takeFirst_17 rfl (lv_at hl 0 rfl) ?_
    refine va_get (D := G.1) (ci := 4) (v := .ref h1) (C := RX2) (T := TX2) (N := 3) hx hb hts iX2 hown hK.1 hP 0 rfl rfl 0 (by decide) (hts (.fieldLink RX2 11 "RightsSteps$Tape" "numbers" "[I") (by decide +kernel)) (fun _ h9 => h9) rfl dX2_takeFirst_18 ?_
    refine lv_aload_n hx hb dX2_takeFirst_21 rfl (lv_at hl 0 rfl) ?_
    refine va_get (D := G.1) (ci := 4) (v := .int first) (C := RX2) (T := TX2) (N := 3) hx hb hts iX2 hown hK.1 hP 0 rfl rfl 1 (by decide) (hts (.fieldLink RX2 19 "RightsSteps$Tape" "first" "I") (by decide +kernel)) (fun _ h9 => h9) rfl dX2_takeFirst_22 ?_
    refine va_iald (f := nums) hx hb hK.1 hP 1 0 rfl rfl (in_sub hf (i_lt c_9)) dX2_takeFirst_25 ?_
    refine lv_istore_n (lv' := [(1, .int (nums (first : Int32).toNatClampNeg)), (0, .ref h0)]) hx hb dX2_takeFirst_26 rfl hl (by decide) rfl (fun ls hl => ?_)
    refine lv_aload_n hx hb dX2_takeFirst_27 rfl (lv_at hl 1 rfl) ?_
    refine lv_dup hx hb dX2_takeFirst_28 rfl ?_
    refine va_get (D := G.1) (ci := 4) (v := .int first) (C := RX2) (T := TX2) (N := 3) hx hb hts iX2 hown hK.1 hP 0 rfl rfl 1 (by decide) (hts (.fieldLink RX2 19 "RightsSteps$Tape" "first" "I") (by decide +kernel)) (fun _ h9 => h9) rfl dX2_takeFirst_29 ?_
    refine lv_iconst (v := 1) hx hb dX2_takeFirst_32 (by decide) ?_
    refine lv_iadd hx hb dX2_takeFirst_33 ?_
    refine va_put (D := G.1) (ci := 4) (v := .int (first + 1)) (ty := .int) (C := RX2) (T := TX2) (N := 3) hx hb hts iX2 tyX2 tyX2_ok nmX2 hown hK.1 hP hD hS 0 rfl rfl 1 (by decide) (hts (.fieldLink RX2 19 "RightsSteps$Tape" "first" "I") (by decide +kernel)) (fun _ h9 => h9) rfl (by decide +kernel) rfl rfl (Nat.le_of_ble_eq_true rfl) dX2_takeFirst_34 (fun H locs hP hD hS => ?_)
    have hP : va_P G.1 vwCl [(h0, .inr (4, [.ref h1, .int (first + 1), .int size])), (h1, .inl (G.2 0, 200, .inl nums))] H := hP
    have hD : va_D A [(h0, .inr (4, [.ref h1, .int (first + 1), .int size])), (h1, .inl (G.2 0, 200, .inl nums))] := hD
    refine lv_aload_n hx hb dX2_takeFirst_37 rfl (lv_at hl 1 rfl) ?_
    refine lv_dup hx hb dX2_takeFirst_38 rfl ?_
    refine va_get (D := G.1) (ci := 4) (v := .int size) (C := RX2) (T := TX2) (N := 3) hx hb hts iX2 hown hK.1 hP 0 rfl rfl 2 (by decide) (hts (.fieldLink RX2 15 "RightsSteps$Tape" "size" "I") (by decide +kernel)) (fun _ h9 => h9) rfl dX2_takeFirst_39 ?_
    refine lv_iconst (v := 1) hx hb dX2_takeFirst_42 (by decide) ?_
    refine lv_isub hx hb dX2_takeFirst_43 ?_
    refine va_put (D := G.1) (ci := 4) (v := .int (size - 1)) (ty := .int) (C := RX2) (T := TX2) (N := 3) hx hb hts iX2 tyX2 tyX2_ok nmX2 hown hK.1 hP hD hS 0 rfl rfl 2 (by decide) (hts (.fieldLink RX2 15 "RightsSteps$Tape" "size" "I") (by decide +kernel)) (fun _ h9 => h9) rfl (by decide +kernel) rfl rfl (Nat.le_of_ble_eq_true rfl) dX2_takeFirst_44 (fun H locs hP hD hS => ?_)
    have hP : va_P G.1 vwCl [(h0, .inr (4, [.ref h1, .int (first + 1), .int (size - 1)])), (h1, .inl (G.2 0, 200, .inl nums))] H := hP
    have hD : va_D A [(h0, .inr (4, [.ref h1, .int (first + 1), .int (size - 1)])), (h1, .inl (G.2 0, 200, .inl nums))] := hD
    refine lv_iload_n hx hb dX2_takeFirst_47 rfl (lv_at hl 0 rfl) ?_
    exact W.iret (v := (nums (first : Int32).toNatClampNeg)) hx hb hr (fun t ht hW => ⟨⟨(nums (first : Int32).toNatClampNeg), ((first + 1), (size - 1)), rfl, hF.symm, by rw [ht]; exact hP.sub [0, 1] rfl, hD.sub [0, 1] (by decide) rfl⟩, hS.F ht⟩) hS.2.2 dX2_takeFirst_48
  · have hF := if_f hF c_9
    refine lv_aload_n hx hb dX2_takeFirst_12 rfl (lv_at hl 0 rfl) ?_
    refine lv_iconst (v := 0) hx hb dX2_takeFirst_13 (by decide) ?_
    refine va_put (D := G.1) (ci := 4) (v := .int 0) (ty := .int) (C := RX2) (T := TX2) (N := 3) hx hb hts iX2 tyX2 tyX2_ok nmX2 hown hK.1 hP hD hS 0 rfl rfl 1 (by decide) (hts (.fieldLink RX2 19 "RightsSteps$Tape" "first" "I") (by decide +kernel)) (fun _ h9 => h9) rfl (by decide +kernel) rfl rfl (Nat.le_of_ble_eq_true rfl) dX2_takeFirst_14 (fun H locs hP hD hS => ?_)
    have hP : va_P G.1 vwCl [(h0, .inr (4, [.ref h1, .int 0, .int size])), (h1, .inl (G.2 0, 200, .inl nums))] H := hP
    have hD : va_D A [(h0, .inr (4, [.ref h1, .int 0, .int size])), (h1, .inl (G.2 0, 200, .inl nums))] := hD
    refine lv_aload_n hx hb dX2_takeFirst_17 rfl (lv_at hl 0 rfl) ?_
    refine va_get (D := G.1) (ci := 4) (v := .ref h1) (C := RX2) (T := TX2) (N := 3) hx hb hts iX2 hown hK.1 hP 0 rfl rfl 0 (by decide) (hts (.fieldLink RX2 11 "RightsSteps$Tape" "numbers" "[I") (by decide +kernel)) (fun _ h9 => h9) rfl dX2_takeFirst_18 ?_
    refine lv_aload_n hx hb dX2_takeFirst_21 rfl (lv_at hl 0 rfl) ?_
    refine va_get (D := G.1) (ci := 4) (v := .int 0) (C := RX2) (T := TX2) (N := 3) hx hb hts iX2 hown hK.1 hP 0 rfl rfl 1 (by decide) (hts (.fieldLink RX2 19 "RightsSteps$Tape" "first" "I") (by decide +kernel)) (fun _ h9 => h9) rfl dX2_takeFirst_22 ?_
    refine va_iald (f := nums) hx hb hK.1 hP 1 0 rfl rfl (vp_in_iff.mpr (by decide)) dX2_takeFirst_25 ?_
    refine lv_istore_n (lv' := [(1, .int (nums (0 : Int32).toNatClampNeg)), (0, .ref h0)]) hx hb dX2_takeFirst_26 rfl hl (by decide) rfl (fun ls hl => ?_)
    refine lv_aload_n hx hb dX2_takeFirst_27 rfl (lv_at hl 1 rfl) ?_
    refine lv_dup hx hb dX2_takeFirst_28 rfl ?_
    refine va_get (D := G.1) (ci := 4) (v := .int 0) (C := RX2) (T := TX2) (N := 3) hx hb hts iX2 hown hK.1 hP 0 rfl rfl 1 (by decide) (hts (.fieldLink RX2 19 "RightsSteps$Tape" "first" "I") (by decide +kernel)) (fun _ h9 => h9) rfl dX2_takeFirst_29 ?_
    refine lv_iconst (v := 1) hx hb dX2_takeFirst_32 (by decide) ?_
    refine lv_iadd hx hb dX2_takeFirst_33 ?_
    refine W.eq (g2 := F0 m 34 ls (.int 1 :: .ref h0 :: [])) rfl ?_
    refine va_put (D := G.1) (ci := 4) (v := .int 1) (ty := .int) (C := RX2) (T := TX2) (N := 3) hx hb hts iX2 tyX2 tyX2_ok nmX2 hown hK.1 hP hD hS 0 rfl rfl 1 (by decide) (hts (.fieldLink RX2 19 "RightsSteps$Tape" "first" "I") (by decide +kernel)) (fun _ h9 => h9) rfl (by decide +kernel) rfl rfl (Nat.le_of_ble_eq_true rfl) dX2_takeFirst_34 (fun H locs hP hD hS => ?_)
    have hP : va_P G.1 vwCl [(h0, .inr (4, [.ref h1, .int 1, .int size])), (h1, .inl (G.2 0, 200, .inl nums))] H := hP
    have hD : va_D A [(h0, .inr (4, [.ref h1, .int 1, .int size])), (h1, .inl (G.2 0, 200, .inl nums))] := hD
    refine lv_aload_n hx hb dX2_takeFirst_37 rfl (lv_at hl 1 rfl) ?_
    refine lv_dup hx hb dX2_takeFirst_38 rfl ?_
    refine va_get (D := G.1) (ci := 4) (v := .int size) (C := RX2) (T := TX2) (N := 3) hx hb hts iX2 hown hK.1 hP 0 rfl rfl 2 (by decide) (hts (.fieldLink RX2 15 "RightsSteps$Tape" "size" "I") (by decide +kernel)) (fun _ h9 => h9) rfl dX2_takeFirst_39 ?_
    refine lv_iconst (v := 1) hx hb dX2_takeFirst_42 (by decide) ?_
    refine lv_isub hx hb dX2_takeFirst_43 ?_
    refine va_put (D := G.1) (ci := 4) (v := .int (size - 1)) (ty := .int) (C := RX2) (T := TX2) (N := 3) hx hb hts iX2 tyX2 tyX2_ok nmX2 hown hK.1 hP hD hS 0 rfl rfl 2 (by decide) (hts (.fieldLink RX2 15 "RightsSteps$Tape" "size" "I") (by decide +kernel)) (fun _ h9 => h9) rfl (by decide +kernel) rfl rfl (Nat.le_of_ble_eq_true rfl) dX2_takeFirst_44 (fun H locs hP hD hS => ?_)
    have hP : va_P G.1 vwCl [(h0, .inr (4, [.ref h1, .int 1, .int (size - 1)])), (h1, .inl (G.2 0, 200, .inl nums))] H := hP
    have hD : va_D A [(h0, .inr (4, [.ref h1, .int 1, .int (size - 1)])), (h1, .inl (G.2 0, 200, .inl nums))] := hD
    refine lv_iload_n hx hb dX2_takeFirst_47 rfl (lv_at hl 0 rfl) ?_
    exact W.iret (v := (nums (0 : Int32).toNatClampNeg)) hx hb hr (fun t ht hW => ⟨⟨(nums (0 : Int32).toNatClampNeg), (1, (size - 1)), rfl, hF.symm, by rw [ht]; exact hP.sub [0, 1] rfl, hD.sub [0, 1] (by decide) rfl⟩, hS.F ht⟩) hS.2.2 dX2_takeFirst_48

def FL_X0_has_2 (gsz : Int32) (seeds : Nat → Int32) (p1 : Int32) : Nat → Int32 → Int32
  | 0, _ => 0
  | n + 1, k => (if gsz ≤ k then 0 else (if 256 ≤ k then 0 else (if (seeds (k : Int32).toNatClampNeg) = p1 then 1 else (FL_X0_has_2 gsz seeds p1 n (k + 1)))))
def F_X0_has (gsz : Int32) (seeds : Nat → Int32) (p1 : Int32) : Int32 :=
  (FL_X0_has_2 gsz seeds p1 258 0)
set_option maxHeartbeats 4000000 in
set_option maxRecDepth 100000 in
theorem c_X0_has (l : Launch) (G : gG) (h0 h1 : Nat) (sz : Nat) (gsz : Int32) (seeds : Nat → Int32) (p1 : Int32) : Met l yX0_has wsX0_has ({ frames := 0, cells := 0, slots := 0, locals := 0 }) (va_Pc [.ref h0, .int p1] (pR G [(h0, .inr (2, [.ref h1, .int gsz])), (h1, .inl (G.2 0, 256, .inl seeds))] sz)) (pQ (.int (F_X0_has gsz seeds p1))) 0 0 (fun _ => False) := by
  refine Met.ofW (cc := cX0_has) (maxL := 3) (ret := (some .boolean)) (by decide) rfl ?_
  intro p e s m args below meth c s₁ B hml hv
  obtain ⟨rfl, hsz, hP, hK, hD0⟩ := hv
  have hx := B.exec
  have hb := B.bytes
  have hr := B.returns
  have hts := atoms_spec (ws := wsX0_has) B.pre
  have hown : s.vm.findClass RX0 = some m.cls := findClass_of_methodNamed B.named
  have hlocks := B.notSynchronized
  subst hsz
  have iX0 : ∀ w ∈ wsX00, w ∈ wsX0_has := by decide +kernel
  have hD := hD0
  have hP : va_P G.1 vwCl [(h0, .inr (2, [.ref h1, .int gsz])), (h1, .inl (G.2 0, 256, .inl seeds))] s.heap := hP
  have hl := lv_entry ([.ref h0, .int p1]) (n := 3) (Nat.le_of_ble_eq_true rfl)
  rw [lg_entry_eq]
  generalize (lg_sl ([.ref h0, .int p1]) ++ List.replicate (3 - (lg_sl ([.ref h0, .int p1])).length) Slot.unset).toArray = ls at hl ⊢
  have hl : lv_has ls 3 [(0, .ref h0), (1, .int p1)] := hl
  have hF : F_X0_has gsz seeds p1 = F_X0_has gsz seeds p1 := rfl
  refine lv_iconst (v := 0) hx hb dX0_has_0 (by decide) ?_
  refine lv_istore_n (lv' := [(2, .int 0), (0, .ref h0), (1, .int p1)]) hx hb dX0_has_1 rfl hl (by decide) rfl (fun ls hl => ?_)
  refine W.loop (σ := Int32) (fun (n : Nat) (v : Int32) (H : Heap) (locs : List Loc) (ls : Array Slot) => (vp_in v 257) ∧ 257 < v.toNatClampNeg + n ∧ (F_X0_has gsz seeds p1 = FL_X0_has_2 gsz seeds p1 n v) ∧ H = s.heap ∧ locs = [] ∧ va_P G.1 vwCl [(h0, .inr (2, [.ref h1, .int gsz])), (h1, .inl (G.2 0, 256, .inl seeds))] H ∧ lv_has ls 3 [(2, .int v), (0, .ref h0), (1, .int p1)]) ?_ ?_ 258 0 ⟨(vp_in_iff.mpr (by decide)), (by decide), hF, rfl, rfl, hP, lv_sub hl [0, 1, 2] rfl⟩
  · rintro k H locs ls ⟨hi0, hi1, _, _, _, _, _⟩
    exact absurd (hi_lt hi0) (by omega)
  · rintro n ih k H locs ls ⟨hi0, hi1, hF, rfl, rfl, hP, hl⟩
    have hP : va_P G.1 vwCl [(h0, .inr (2, [.ref h1, .int gsz])), (h1, .inl (G.2 0, 256, .inl seeds))] s.heap := hP
    have hl : lv_has ls 3 [(2, .int k), (0, .ref h0), (1, .int p1)] := hl
    have hF : F_X0_has gsz seeds p1 = FL_X0_has_2 gsz seeds p1 (n + 1) k := hF
    refine lv_iload_n hx hb dX0_has_2 rfl (lv_at hl 0 rfl) ?_
    refine lv_aload_n hx hb dX0_has_3 rfl (lv_at hl 1 rfl) ?_
    refine va_get (D := G.1) (ci := 2) (v := .int gsz) (C := RX0) (T := TX0) (N := 2) hx hb hts iX0 hown hK.1 hP 0 rfl rfl 1 (by decide) (hts (.fieldLink RX0 13 "RightsSteps$GivenSeeds" "size" "I") (by decide +kernel)) (fun _ h9 => h9) rfl dX0_has_4 ?_
    refine lv_icmp_ge (tgt := 37) hx hb dX0_has_7 (by decide) (fun c_7 => ?_) (fun c_7 => ?_)
    · have hF := if_t hF c_7
      refine lv_iconst (v := 0) hx hb dX0_has_37 (by decide) ?_
      exact W.zret (v := 0) (ty := .boolean) hx hb hr rfl (fun t ht hW => ⟨by rw [hF], ht⟩) (fun _ h => by cases h) dX0_has_38
    · have hF := if_f hF c_7
      refine lv_iload_n hx hb dX0_has_10 rfl (lv_at hl 0 rfl) ?_
      refine lv_aload_n hx hb dX0_has_11 rfl (lv_at hl 1 rfl) ?_
      refine va_get (D := G.1) (ci := 2) (v := .ref h1) (C := RX0) (T := TX0) (N := 2) hx hb hts iX0 hown hK.1 hP 0 rfl rfl 0 (by decide) (hts (.fieldLink RX0 9 "RightsSteps$GivenSeeds" "seeds" "[I") (by decide +kernel)) (fun _ h9 => h9) rfl dX0_has_12 ?_
      refine va_alen (v := 256) hx hb hK.1 hP 1 0 rfl rfl rfl dX0_has_15 ?_
      refine lv_icmp_ge (tgt := 37) hx hb dX0_has_16 (by decide) (fun c_16 => ?_) (fun c_16 => ?_)
      · have hF := if_t hF c_16
        refine lv_iconst (v := 0) hx hb dX0_has_37 (by decide) ?_
        exact W.zret (v := 0) (ty := .boolean) hx hb hr rfl (fun t ht hW => ⟨by rw [hF], ht⟩) (fun _ h => by cases h) dX0_has_38
      · have hF := if_f hF c_16
        refine lv_aload_n hx hb dX0_has_19 rfl (lv_at hl 1 rfl) ?_
        refine va_get (D := G.1) (ci := 2) (v := .ref h1) (C := RX0) (T := TX0) (N := 2) hx hb hts iX0 hown hK.1 hP 0 rfl rfl 0 (by decide) (hts (.fieldLink RX0 9 "RightsSteps$GivenSeeds" "seeds" "[I") (by decide +kernel)) (fun _ h9 => h9) rfl dX0_has_20 ?_
        refine lv_iload_n hx hb dX0_has_23 rfl (lv_at hl 0 rfl) ?_
        refine va_iald (f := seeds) hx hb hK.1 hP 1 0 rfl rfl (in_le (in_n0 hi0) c_16 rfl) dX0_has_24 ?_
        refine lv_iload_n hx hb dX0_has_25 rfl (lv_at hl 2 rfl) ?_
        refine lv_icmp_ne (tgt := 31) hx hb dX0_has_26 (by decide) (fun c_26 => ?_) (fun c_26 => ?_)
        · have hF := if_f hF c_26
          refine lv_iinc (v := (k + 1)) (lv' := [(2, .int (k + 1)), (0, .ref h0), (1, .int p1)]) hx hb dX0_has_31 hl (k := 0) rfl rfl (by decide) rfl (fun ls hl => ?_)
          refine lv_goto (tgt := 2) hx hb dX0_has_34 (by decide) ?_
          exact ih (k + 1) _ _ _ ⟨(i_inc hi0 (i_not c_16) rfl), (by rw [i_incN hi0 (by decide)]; omega), hF, rfl, rfl, hP, lv_sub hl [0, 1, 2] rfl⟩
        · have hF := if_t hF c_26
          refine lv_iconst (v := 1) hx hb dX0_has_29 (by decide) ?_
          exact W.zret (v := 1) (ty := .boolean) hx hb hr rfl (fun t ht hW => ⟨by rw [hF], ht⟩) (fun _ h => by cases h) dX0_has_30

def F_X0_add (gsz : Int32) (seeds : Nat → Int32) (p1 : Int32) : Int32 × (Nat → Int32) :=
  (if 256 ≤ gsz then (gsz, seeds) else ((gsz + 1), (upd seeds (gsz : Int32).toNatClampNeg p1)))
set_option maxHeartbeats 4000000 in
set_option maxRecDepth 100000 in
theorem c_X0_add (l : Launch) (G : gG) (h0 h1 : Nat) (sz : Nat) (gsz : Int32) (seeds : Nat → Int32) (p1 : Int32) (hz : ¬ gsz < 0) : Met l yX0_add wsX0_add ({ frames := 0, cells := 0, slots := 0, locals := 0 }) (va_Pc [.ref h0, .int p1] (pR G [(h0, .inr (2, [.ref h1, .int gsz])), (h1, .inl (G.2 0, 256, .inl seeds))] sz)) (va_Qv (fun (u : Int32 × (Nat → Int32)) => u = F_X0_add gsz seeds p1) (fun u t => pO G [(h0, .inr (2, [.ref h1, .int u.1])), (h1, .inl (G.2 0, 256, .inl u.2))] (va_A [(h0, .inr (2, [.ref h1, .int gsz])), (h1, .inl (G.2 0, 256, .inl seeds))] sz) t) (va_A [(h0, .inr (2, [.ref h1, .int gsz])), (h1, .inl (G.2 0, 256, .inl seeds))] sz)) 0 0 (va_A [(h0, .inr (2, [.ref h1, .int gsz])), (h1, .inl (G.2 0, 256, .inl seeds))] sz) := by
  refine Met.ofW (cc := cX0_add) (maxL := 2) (ret := none) (by decide) rfl ?_
  intro p e s m args below meth c s₁ B hml hv
  obtain ⟨rfl, hsz, hP, hK, hD0⟩ := hv
  have hx := B.exec
  have hb := B.bytes
  have hr := B.returns
  have hts := atoms_spec (ws := wsX0_add) B.pre
  have hown : s.vm.findClass RX0 = some m.cls := findClass_of_methodNamed B.named
  have hlocks := B.notSynchronized
  subst hsz
  have iX0 : ∀ w ∈ wsX00, w ∈ wsX0_add := by decide +kernel
  have hD := hD0.self (sz := s.heap.size)
  generalize hAe : va_A [(h0, .inr (2, [.ref h1, .int gsz])), (h1, .inl (G.2 0, 256, .inl seeds))] s.heap.size = A at hD ⊢
  have hA : ∀ q : Nat, s.heap.size ≤ q → A q := fun q h => by rw [← hAe]; exact Or.inr h
  have hS : va_S A s.heap s.heap [] := va_S.rf
  have hP : va_P G.1 vwCl [(h0, .inr (2, [.ref h1, .int gsz])), (h1, .inl (G.2 0, 256, .inl seeds))] s.heap := hP
  have hl := lv_entry ([.ref h0, .int p1]) (n := 2) (Nat.le_of_ble_eq_true rfl)
  rw [lg_entry_eq]
  generalize (lg_sl ([.ref h0, .int p1]) ++ List.replicate (2 - (lg_sl ([.ref h0, .int p1])).length) Slot.unset).toArray = ls at hl ⊢
  have hl : lv_has ls 2 [(0, .ref h0), (1, .int p1)] := hl
  have hF : F_X0_add gsz seeds p1 = F_X0_add gsz seeds p1 := rfl
  refine lv_aload_n hx hb dX0_add_0 rfl (lv_at hl 0 rfl) ?_
  refine va_get (D := G.1) (ci := 2) (v := .int gsz) (C := RX0) (T := TX0) (N := 2) hx hb hts iX0 hown hK.1 hP 0 rfl rfl 1 (by decide) (hts (.fieldLink RX0 13 "RightsSteps$GivenSeeds" "size" "I") (by decide +kernel)) (fun _ h9 => h9) rfl dX0_add_1 ?_
  refine lv_aload_n hx hb dX0_add_4 rfl (lv_at hl 0 rfl) ?_
  refine va_get (D := G.1) (ci := 2) (v := .ref h1) (C := RX0) (T := TX0) (N := 2) hx hb hts iX0 hown hK.1 hP 0 rfl rfl 0 (by decide) (hts (.fieldLink RX0 9 "RightsSteps$GivenSeeds" "seeds" "[I") (by decide +kernel)) (fun _ h9 => h9) rfl dX0_add_5 ?_
  refine va_alen (v := 256) hx hb hK.1 hP 1 0 rfl rfl rfl dX0_add_8 ?_
  refine lv_icmp_ge (tgt := 32) hx hb dX0_add_9 (by decide) (fun c_9 => ?_) (fun c_9 => ?_)
  · have hF := if_t hF c_9
    exact W.vret hx hb hr (fun t ht hW => ⟨⟨(gsz, seeds), rfl, hF.symm, by rw [ht]; exact hP.sub [0, 1] rfl, hD.sub [0, 1] (by decide) rfl⟩, hS.F ht⟩) hS.2.2 dX0_add_32
  · have hF := if_f hF c_9
    refine lv_aload_n hx hb dX0_add_12 rfl (lv_at hl 0 rfl) ?_
    refine va_get (D := G.1) (ci := 2) (v := .ref h1) (C := RX0) (T := TX0) (N := 2) hx hb hts iX0 hown hK.1 hP 0 rfl rfl 0 (by decide) (hts (.fieldLink RX0 9 "RightsSteps$GivenSeeds" "seeds" "[I") (by decide +kernel)) (fun _ h9 => h9) rfl dX0_add_13 ?_
    refine lv_aload_n hx hb dX0_add_16 rfl (lv_at hl 0 rfl) ?_
    refine va_get (D := G.1) (ci := 2) (v := .int gsz) (C := RX0) (T := TX0) (N := 2) hx hb hts iX0 hown hK.1 hP 0 rfl rfl 1 (by decide) (hts (.fieldLink RX0 13 "RightsSteps$GivenSeeds" "size" "I") (by decide +kernel)) (fun _ h9 => h9) rfl dX0_add_17 ?_
    refine lv_iload_n hx hb dX0_add_20 rfl (lv_at hl 1 rfl) ?_
    refine va_iast (f := seeds) hx hb hK.1 hP hD hS 1 0 rfl rfl (in_lo hz (i_not c_9) rfl) dX0_add_21 (fun H locs hP hD hS => ?_)
    have hP : va_P G.1 vwCl [(h0, .inr (2, [.ref h1, .int gsz])), (h1, .inl (G.2 0, 256, .inl (upd seeds (gsz : Int32).toNatClampNeg p1)))] H := hP
    have hD : va_D A [(h0, .inr (2, [.ref h1, .int gsz])), (h1, .inl (G.2 0, 256, .inl (upd seeds (gsz : Int32).toNatClampNeg p1)))] := hD
    refine lv_aload_n hx hb dX0_add_22 rfl (lv_at hl 0 rfl) ?_
    refine lv_dup hx hb dX0_add_23 rfl ?_
    refine va_get (D := G.1) (ci := 2) (v := .int gsz) (C := RX0) (T := TX0) (N := 2) hx hb hts iX0 hown hK.1 hP 0 rfl rfl 1 (by decide) (hts (.fieldLink RX0 13 "RightsSteps$GivenSeeds" "size" "I") (by decide +kernel)) (fun _ h9 => h9) rfl dX0_add_24 ?_
    refine lv_iconst (v := 1) hx hb dX0_add_27 (by decide) ?_
    refine lv_iadd hx hb dX0_add_28 ?_
    refine va_put (D := G.1) (ci := 2) (v := .int (gsz + 1)) (ty := .int) (C := RX0) (T := TX0) (N := 2) hx hb hts iX0 tyX0 tyX0_ok nmX0 hown hK.1 hP hD hS 0 rfl rfl 1 (by decide) (hts (.fieldLink RX0 13 "RightsSteps$GivenSeeds" "size" "I") (by decide +kernel)) (fun _ h9 => h9) rfl (by decide +kernel) rfl rfl (Nat.le_of_ble_eq_true rfl) dX0_add_29 (fun H locs hP hD hS => ?_)
    have hP : va_P G.1 vwCl [(h0, .inr (2, [.ref h1, .int (gsz + 1)])), (h1, .inl (G.2 0, 256, .inl (upd seeds (gsz : Int32).toNatClampNeg p1)))] H := hP
    have hD : va_D A [(h0, .inr (2, [.ref h1, .int (gsz + 1)])), (h1, .inl (G.2 0, 256, .inl (upd seeds (gsz : Int32).toNatClampNeg p1)))] := hD
    exact W.vret hx hb hr (fun t ht hW => ⟨⟨((gsz + 1), (upd seeds (gsz : Int32).toNatClampNeg p1)), rfl, hF.symm, by rw [ht]; exact hP.sub [0, 1] rfl, hD.sub [0, 1] (by decide) rfl⟩, hS.F ht⟩) hS.2.2 dX0_add_32

def F_X0_forgetAll (gsz : Int32) : Int32 :=
  0
set_option maxHeartbeats 4000000 in
set_option maxRecDepth 100000 in
theorem c_X0_forgetAll (l : Launch) (G : gG) (h0 h1 : Nat) (sz : Nat) (gsz : Int32) : Met l yX0_forgetAll wsX0_forgetAll ({ frames := 0, cells := 0, slots := 0, locals := 0 }) (va_Pc [.ref h0] (pR G [(h0, .inr (2, [.ref h1, .int gsz]))] sz)) (va_Qv (fun (u : Int32) => u = F_X0_forgetAll gsz) (fun u t => pO G [(h0, .inr (2, [.ref h1, .int u]))] (va_A [(h0, .inr (2, [.ref h1, .int gsz]))] sz) t) (va_A [(h0, .inr (2, [.ref h1, .int gsz]))] sz)) 0 0 (va_A [(h0, .inr (2, [.ref h1, .int gsz]))] sz) := by
  refine Met.ofW (cc := cX0_forgetAll) (maxL := 1) (ret := none) (by decide) rfl ?_
  intro p e s m args below meth c s₁ B hml hv
  obtain ⟨rfl, hsz, hP, hK, hD0⟩ := hv
  have hx := B.exec
  have hb := B.bytes
  have hr := B.returns
  have hts := atoms_spec (ws := wsX0_forgetAll) B.pre
  have hown : s.vm.findClass RX0 = some m.cls := findClass_of_methodNamed B.named
  have hlocks := B.notSynchronized
  subst hsz
  have iX0 : ∀ w ∈ wsX00, w ∈ wsX0_forgetAll := by decide +kernel
  have hD := hD0.self (sz := s.heap.size)
  generalize hAe : va_A [(h0, .inr (2, [.ref h1, .int gsz]))] s.heap.size = A at hD ⊢
  have hA : ∀ q : Nat, s.heap.size ≤ q → A q := fun q h => by rw [← hAe]; exact Or.inr h
  have hS : va_S A s.heap s.heap [] := va_S.rf
  have hP : va_P G.1 vwCl [(h0, .inr (2, [.ref h1, .int gsz]))] s.heap := hP
  have hl := lv_entry ([.ref h0]) (n := 1) (Nat.le_of_ble_eq_true rfl)
  rw [lg_entry_eq]
  generalize (lg_sl ([.ref h0]) ++ List.replicate (1 - (lg_sl ([.ref h0])).length) Slot.unset).toArray = ls at hl ⊢
  have hl : lv_has ls 1 [(0, .ref h0)] := hl
  have hF : F_X0_forgetAll gsz = F_X0_forgetAll gsz := rfl
  refine lv_aload_n hx hb dX0_forgetAll_0 rfl (lv_at hl 0 rfl) ?_
  refine lv_iconst (v := 0) hx hb dX0_forgetAll_1 (by decide) ?_
  refine va_put (D := G.1) (ci := 2) (v := .int 0) (ty := .int) (C := RX0) (T := TX0) (N := 2) hx hb hts iX0 tyX0 tyX0_ok nmX0 hown hK.1 hP hD hS 0 rfl rfl 1 (by decide) (hts (.fieldLink RX0 13 "RightsSteps$GivenSeeds" "size" "I") (by decide +kernel)) (fun _ h9 => h9) rfl (by decide +kernel) rfl rfl (Nat.le_of_ble_eq_true rfl) dX0_forgetAll_2 (fun H locs hP hD hS => ?_)
  have hP : va_P G.1 vwCl [(h0, .inr (2, [.ref h1, .int 0]))] H := hP
  have hD : va_D A [(h0, .inr (2, [.ref h1, .int 0]))] := hD
  exact W.vret hx hb hr (fun t ht hW => ⟨⟨0, rfl, hF.symm, by rw [ht]; exact hP.sub [0] rfl, hD.sub [0] (by decide) rfl⟩, hS.F ht⟩) hS.2.2 dX0_forgetAll_5

def F_X4_add (kept : Int32) (cnt : Int32) (prt : Nat → Int32) (p1 : Int32) (p2 : Int32) (p3 : Int32) : Int32 × Int32 × (Nat → Int32) :=
  (if kept < 300 then ((kept + 1), (cnt + 1), (upd (upd (upd prt ((kept * 3) : Int32).toNatClampNeg p1) (((kept * 3) + 1) : Int32).toNatClampNeg p2) (((kept * 3) + 2) : Int32).toNatClampNeg p3)) else (kept, (cnt + 1), prt))
set_option maxHeartbeats 4000000 in
set_option maxRecDepth 100000 in
theorem c_X4_add (l : Launch) (G : gG) (h0 h1 : Nat) (sz : Nat) (kept : Int32) (cnt : Int32) (prt : Nat → Int32) (p1 : Int32) (p2 : Int32) (p3 : Int32) (hk : vp_in kept 301) : Met l yX4_add wsX4_add ({ frames := 0, cells := 0, slots := 0, locals := 0 }) (va_Pc [.ref h0, .int p1, .int p2, .int p3] (pR G [(h0, .inr (6, [.ref h1, .int kept, .int cnt])), (h1, .inl (G.2 0, 900, .inl prt))] sz)) (va_Qv (fun (u : Int32 × Int32 × (Nat → Int32)) => u = F_X4_add kept cnt prt p1 p2 p3) (fun u t => pO G [(h0, .inr (6, [.ref h1, .int u.1, .int u.2.1])), (h1, .inl (G.2 0, 900, .inl u.2.2))] (va_A [(h0, .inr (6, [.ref h1, .int kept, .int cnt])), (h1, .inl (G.2 0, 900, .inl prt))] sz) t) (va_A [(h0, .inr (6, [.ref h1, .int kept, .int cnt])), (h1, .inl (G.2 0, 900, .inl prt))] sz)) 0 0 (va_A [(h0, .inr (6, [.ref h1, .int kept, .int cnt])), (h1, .inl (G.2 0, 900, .inl prt))] sz) := by
  refine Met.ofW (cc := cX4_add) (maxL := 5) (ret := none) (by decide) rfl ?_
  intro p e s m args below meth c s₁ B hml hv
  obtain ⟨rfl, hsz, hP, hK, hD0⟩ := hv
  have hx := B.exec
  have hb := B.bytes
  have hr := B.returns
  have hts := atoms_spec (ws := wsX4_add) B.pre
  have hown : s.vm.findClass RX4 = some m.cls := findClass_of_methodNamed B.named
  have hlocks := B.notSynchronized
  subst hsz
  have iX4 : ∀ w ∈ wsX40, w ∈ wsX4_add := by decide +kernel
  have hD := hD0.self (sz := s.heap.size)
  generalize hAe : va_A [(h0, .inr (6, [.ref h1, .int kept, .int cnt])), (h1, .inl (G.2 0, 900, .inl prt))] s.heap.size = A at hD ⊢
  have hA : ∀ q : Nat, s.heap.size ≤ q → A q := fun q h => by rw [← hAe]; exact Or.inr h
  have hS : va_S A s.heap s.heap [] := va_S.rf
  have hP : va_P G.1 vwCl [(h0, .inr (6, [.ref h1, .int kept, .int cnt])), (h1, .inl (G.2 0, 900, .inl prt))] s.heap := hP
  have hl := lv_entry ([.ref h0, .int p1, .int p2, .int p3]) (n := 5) (Nat.le_of_ble_eq_true rfl)
  rw [lg_entry_eq]
  generalize (lg_sl ([.ref h0, .int p1, .int p2, .int p3]) ++ List.replicate (5 - (lg_sl ([.ref h0, .int p1, .int p2, .int p3])).length) Slot.unset).toArray = ls at hl ⊢
  have hl : lv_has ls 5 [(0, .ref h0), (1, .int p1), (2, .int p2), (3, .int p3)] := hl
  have hF : F_X4_add kept cnt prt p1 p2 p3 = F_X4_add kept cnt prt p1 p2 p3 := rfl
  refine lv_aload_n hx hb dX4_add_0 rfl (lv_at hl 0 rfl) ?_
  refine lv_dup hx hb dX4_add_1 rfl ?_
  refine va_get (D := G.1) (ci := 6) (v := .int cnt) (C := RX4) (T := TX4) (N := 3) hx hb hts iX4 hown hK.1 hP 0 rfl rfl 2 (by decide) (hts (.fieldLink RX4 13 "RightsSteps$UseLog" "count" "I") (by decide +kernel)) (fun _ h9 => h9) rfl dX4_add_2 ?_
  refine lv_iconst (v := 1) hx hb dX4_add_5 (by decide) ?_
  refine lv_iadd hx hb dX4_add_6 ?_
  refine va_put (D := G.1) (ci := 6) (v := .int (cnt + 1)) (ty := .int) (C := RX4) (T := TX4) (N := 3) hx hb hts iX4 tyX4 tyX4_ok nmX4 hown hK.1 hP hD hS 0 rfl rfl 2 (by decide) (hts (.fieldLink RX4 13 "RightsSteps$UseLog" "count" "I") (by decide +kernel)) (fun _ h9 => h9) rfl (by decide +kernel) rfl rfl (Nat.le_of_ble_eq_true rfl) dX4_add_7 (fun H locs hP hD hS => ?_)
  have hP : va_P G.1 vwCl [(h0, .inr (6, [.ref h1, .int kept, .int (cnt + 1)])), (h1, .inl (G.2 0, 900, .inl prt))] H := hP
  have hD : va_D A [(h0, .inr (6, [.ref h1, .int kept, .int (cnt + 1)])), (h1, .inl (G.2 0, 900, .inl prt))] := hD
  refine lv_aload_n hx hb dX4_add_10 rfl (lv_at hl 0 rfl) ?_
  refine va_get (D := G.1) (ci := 6) (v := .int kept) (C := RX4) (T := TX4) (N := 3) hx hb hts iX4 hown hK.1 hP 0 rfl rfl 1 (by decide) (hts (.fieldLink RX4 17 "RightsSteps$UseLog" "kept" "I") (by decide +kernel)) (fun _ h9 => h9) rfl dX4_add_11 ?_
  refine lv_sipush (v := 300) hx hb dX4_add_14 (by decide) ?_
  refine lv_icmp_lt (tgt := 21) hx hb dX4_add_17 (by decide) (fun c_17 => ?_) (fun c_17 => ?_)
  · have hF := if_t hF c_17
    refine lv_aload_n hx hb dX4_add_21 rfl (lv_at hl 0 rfl) ?_
    refine va_get (D := G.1) (ci := 6) (v := .int kept) (C := RX4) (T := TX4) (N := 3) hx hb hts iX4 hown hK.1 hP 0 rfl rfl 1 (by decide) (hts (.fieldLink RX4 17 "RightsSteps$UseLog" "kept" "I") (by decide +kernel)) (fun _ h9 => h9) rfl dX4_add_22 ?_
    refine lv_iconst (v := 3) hx hb dX4_add_25 (by decide) ?_
    refine lv_imul hx hb dX4_add_26 ?_
    refine lv_istore (lv' := [(4, .int (kept * 3)), (0, .ref h0), (1, .int p1), (2, .int p2), (3, .int p3)]) hx hb dX4_add_27 hl (by decide) rfl (fun ls hl => ?_)
    refine lv_aload_n hx hb dX4_add_29 rfl (lv_at hl 1 rfl) ?_
    refine va_get (D := G.1) (ci := 6) (v := .ref h1) (C := RX4) (T := TX4) (N := 3) hx hb hts iX4 hown hK.1 hP 0 rfl rfl 0 (by decide) (hts (.fieldLink RX4 9 "RightsSteps$UseLog" "parts" "[I") (by decide +kernel)) (fun _ h9 => h9) rfl dX4_add_30 ?_
    refine lv_iload hx hb dX4_add_33 (lv_at hl 0 rfl) ?_
    refine lv_iload_n hx hb dX4_add_35 rfl (lv_at hl 2 rfl) ?_
    refine va_iast (f := prt) hx hb hK.1 hP hD hS 1 0 rfl rfl (in_3a hk (i_ge c_17)).1 dX4_add_36 (fun H locs hP hD hS => ?_)
    have hP : va_P G.1 vwCl [(h0, .inr (6, [.ref h1, .int kept, .int (cnt + 1)])), (h1, .inl (G.2 0, 900, .inl (upd prt ((kept * 3) : Int32).toNatClampNeg p1)))] H := hP
    have hD : va_D A [(h0, .inr (6, [.ref h1, .int kept, .int (cnt + 1)])), (h1, .inl (G.2 0, 900, .inl (upd prt ((kept * 3) : Int32).toNatClampNeg p1)))] := hD
    refine lv_aload_n hx hb dX4_add_37 rfl (lv_at hl 1 rfl) ?_
    refine va_get (D := G.1) (ci := 6) (v := .ref h1) (C := RX4) (T := TX4) (N := 3) hx hb hts iX4 hown hK.1 hP 0 rfl rfl 0 (by decide) (hts (.fieldLink RX4 9 "RightsSteps$UseLog" "parts" "[I") (by decide +kernel)) (fun _ h9 => h9) rfl dX4_add_38 ?_
    refine lv_iload hx hb dX4_add_41 (lv_at hl 0 rfl) ?_
    refine lv_iconst (v := 1) hx hb dX4_add_43 (by decide) ?_
    refine lv_iadd hx hb dX4_add_44 ?_
    refine lv_iload_n hx hb dX4_add_45 rfl (lv_at hl 3 rfl) ?_
    refine va_iast (f := (upd prt ((kept * 3) : Int32).toNatClampNeg p1)) hx hb hK.1 hP hD hS 1 0 rfl rfl (in_3a hk (i_ge c_17)).2.1 dX4_add_46 (fun H locs hP hD hS => ?_)
    have hP : va_P G.1 vwCl [(h0, .inr (6, [.ref h1, .int kept, .int (cnt + 1)])), (h1, .inl (G.2 0, 900, .inl (upd (upd prt ((kept * 3) : Int32).toNatClampNeg p1) (((kept * 3) + 1) : Int32).toNatClampNeg p2)))] H := hP
    have hD : va_D A [(h0, .inr (6, [.ref h1, .int kept, .int (cnt + 1)])), (h1, .inl (G.2 0, 900, .inl (upd (upd prt ((kept * 3) : Int32).toNatClampNeg p1) (((kept * 3) + 1) : Int32).toNatClampNeg p2)))] := hD
    refine lv_aload_n hx hb dX4_add_47 rfl (lv_at hl 1 rfl) ?_
    refine va_get (D := G.1) (ci := 6) (v := .ref h1) (C := RX4) (T := TX4) (N := 3) hx hb hts iX4 hown hK.1 hP 0 rfl rfl 0 (by decide) (hts (.fieldLink RX4 9 "RightsSteps$UseLog" "parts" "[I") (by decide +kernel)) (fun _ h9 => h9) rfl dX4_add_48 ?_
    refine lv_iload hx hb dX4_add_51 (lv_at hl 0 rfl) ?_
    refine lv_iconst (v := 2) hx hb dX4_add_53 (by decide) ?_
    refine lv_iadd hx hb dX4_add_54 ?_
    refine lv_iload_n hx hb dX4_add_55 rfl (lv_at hl 4 rfl) ?_
    refine va_iast (f := (upd (upd prt ((kept * 3) : Int32).toNatClampNeg p1) (((kept * 3) + 1) : Int32).toNatClampNeg p2)) hx hb hK.1 hP hD hS 1 0 rfl rfl (in_3a hk (i_ge c_17)).2.2 dX4_add_56 (fun H locs hP hD hS => ?_)
    have hP : va_P G.1 vwCl [(h0, .inr (6, [.ref h1, .int kept, .int (cnt + 1)])), (h1, .inl (G.2 0, 900, .inl (upd (upd (upd prt ((kept * 3) : Int32).toNatClampNeg p1) (((kept * 3) + 1) : Int32).toNatClampNeg p2) (((kept * 3) + 2) : Int32).toNatClampNeg p3)))] H := hP
    have hD : va_D A [(h0, .inr (6, [.ref h1, .int kept, .int (cnt + 1)])), (h1, .inl (G.2 0, 900, .inl (upd (upd (upd prt ((kept * 3) : Int32).toNatClampNeg p1) (((kept * 3) + 1) : Int32).toNatClampNeg p2) (((kept * 3) + 2) : Int32).toNatClampNeg p3)))] := hD
    refine lv_aload_n hx hb dX4_add_57 rfl (lv_at hl 1 rfl) ?_
    refine lv_dup hx hb dX4_add_58 rfl ?_
    refine va_get (D := G.1) (ci := 6) (v := .int kept) (C := RX4) (T := TX4) (N := 3) hx hb hts iX4 hown hK.1 hP 0 rfl rfl 1 (by decide) (hts (.fieldLink RX4 17 "RightsSteps$UseLog" "kept" "I") (by decide +kernel)) (fun _ h9 => h9) rfl dX4_add_59 ?_
    refine lv_iconst (v := 1) hx hb dX4_add_62 (by decide) ?_
    refine lv_iadd hx hb dX4_add_63 ?_
    refine va_put (D := G.1) (ci := 6) (v := .int (kept + 1)) (ty := .int) (C := RX4) (T := TX4) (N := 3) hx hb hts iX4 tyX4 tyX4_ok nmX4 hown hK.1 hP hD hS 0 rfl rfl 1 (by decide) (hts (.fieldLink RX4 17 "RightsSteps$UseLog" "kept" "I") (by decide +kernel)) (fun _ h9 => h9) rfl (by decide +kernel) rfl rfl (Nat.le_of_ble_eq_true rfl) dX4_add_64 (fun H locs hP hD hS => ?_)
    have hP : va_P G.1 vwCl [(h0, .inr (6, [.ref h1, .int (kept + 1), .int (cnt + 1)])), (h1, .inl (G.2 0, 900, .inl (upd (upd (upd prt ((kept * 3) : Int32).toNatClampNeg p1) (((kept * 3) + 1) : Int32).toNatClampNeg p2) (((kept * 3) + 2) : Int32).toNatClampNeg p3)))] H := hP
    have hD : va_D A [(h0, .inr (6, [.ref h1, .int (kept + 1), .int (cnt + 1)])), (h1, .inl (G.2 0, 900, .inl (upd (upd (upd prt ((kept * 3) : Int32).toNatClampNeg p1) (((kept * 3) + 1) : Int32).toNatClampNeg p2) (((kept * 3) + 2) : Int32).toNatClampNeg p3)))] := hD
    exact W.vret hx hb hr (fun t ht hW => ⟨⟨((kept + 1), (cnt + 1), (upd (upd (upd prt ((kept * 3) : Int32).toNatClampNeg p1) (((kept * 3) + 1) : Int32).toNatClampNeg p2) (((kept * 3) + 2) : Int32).toNatClampNeg p3)), rfl, hF.symm, by rw [ht]; exact hP.sub [0, 1] rfl, hD.sub [0, 1] (by decide) rfl⟩, hS.F ht⟩) hS.2.2 dX4_add_67
  · have hF := if_f hF c_17
    exact W.vret hx hb hr (fun t ht hW => ⟨⟨(kept, (cnt + 1), prt), rfl, hF.symm, by rw [ht]; exact hP.sub [0, 1] rfl, hD.sub [0, 1] (by decide) rfl⟩, hS.F ht⟩) hS.2.2 dX4_add_20

def F_X4_has (kept : Int32) (cnt : Int32) (p1 : Int32) : Int32 :=
  (if p1 < 0 then 0 else (if kept ≤ p1 then 0 else 1))
set_option maxHeartbeats 4000000 in
set_option maxRecDepth 100000 in
theorem c_X4_has (l : Launch) (G : gG) (h0 h1 : Nat) (sz : Nat) (kept : Int32) (cnt : Int32) (p1 : Int32) : Met l yX4_has wsX4_has ({ frames := 0, cells := 0, slots := 0, locals := 0 }) (va_Pc [.ref h0, .int p1] (pR G [(h0, .inr (6, [.ref h1, .int kept, .int cnt]))] sz)) (pQ (.int (F_X4_has kept cnt p1))) 0 0 (fun _ => False) := by
  refine Met.ofW (cc := cX4_has) (maxL := 2) (ret := (some .boolean)) (by decide) rfl ?_
  intro p e s m args below meth c s₁ B hml hv
  obtain ⟨rfl, hsz, hP, hK, hD0⟩ := hv
  have hx := B.exec
  have hb := B.bytes
  have hr := B.returns
  have hts := atoms_spec (ws := wsX4_has) B.pre
  have hown : s.vm.findClass RX4 = some m.cls := findClass_of_methodNamed B.named
  have hlocks := B.notSynchronized
  subst hsz
  have iX4 : ∀ w ∈ wsX40, w ∈ wsX4_has := by decide +kernel
  have hD := hD0
  have hP : va_P G.1 vwCl [(h0, .inr (6, [.ref h1, .int kept, .int cnt]))] s.heap := hP
  have hl := lv_entry ([.ref h0, .int p1]) (n := 2) (Nat.le_of_ble_eq_true rfl)
  rw [lg_entry_eq]
  generalize (lg_sl ([.ref h0, .int p1]) ++ List.replicate (2 - (lg_sl ([.ref h0, .int p1])).length) Slot.unset).toArray = ls at hl ⊢
  have hl : lv_has ls 2 [(0, .ref h0), (1, .int p1)] := hl
  have hF : F_X4_has kept cnt p1 = F_X4_has kept cnt p1 := rfl
  refine lv_iload_n hx hb dX4_has_0 rfl (lv_at hl 1 rfl) ?_
  refine lv_if_lt (tgt := 16) hx hb dX4_has_1 (by decide) (fun c_1 => ?_) (fun c_1 => ?_)
  · have hF := if_t hF c_1
    refine lv_iconst (v := 0) hx hb dX4_has_16 (by decide) ?_
    exact W.zret (v := 0) (ty := .boolean) hx hb hr rfl (fun t ht hW => ⟨by rw [hF], ht⟩) (fun _ h => by cases h) dX4_has_17
  · have hF := if_f hF c_1
    refine lv_iload_n hx hb dX4_has_4 rfl (lv_at hl 1 rfl) ?_
    refine lv_aload_n hx hb dX4_has_5 rfl (lv_at hl 0 rfl) ?_
    refine va_get (D := G.1) (ci := 6) (v := .int kept) (C := RX4) (T := TX4) (N := 3) hx hb hts iX4 hown hK.1 hP 0 rfl rfl 1 (by decide) (hts (.fieldLink RX4 17 "RightsSteps$UseLog" "kept" "I") (by decide +kernel)) (fun _ h9 => h9) rfl dX4_has_6 ?_
    refine lv_icmp_ge (tgt := 16) hx hb dX4_has_9 (by decide) (fun c_9 => ?_) (fun c_9 => ?_)
    · have hF := if_t hF c_9
      refine lv_iconst (v := 0) hx hb dX4_has_16 (by decide) ?_
      exact W.zret (v := 0) (ty := .boolean) hx hb hr rfl (fun t ht hW => ⟨by rw [hF], ht⟩) (fun _ h => by cases h) dX4_has_17
    · have hF := if_f hF c_9
      refine lv_iconst (v := 1) hx hb dX4_has_12 (by decide) ?_
      refine lv_goto (tgt := 17) hx hb dX4_has_13 (by decide) ?_
      exact W.zret (v := 1) (ty := .boolean) hx hb hr rfl (fun t ht hW => ⟨by rw [hF], ht⟩) (fun _ h => by cases h) dX4_has_17

theorem has_in {kept cnt p1 : Int32} (hk : vp_in kept 301) (h : ¬ F_X4_has kept cnt p1 = 0) : vp_in p1 300 := by
  have a := vp_in_iff.mp hk
  unfold F_X4_has at h
  by_cases h1 : p1 < 0
  · rw [if_pos h1] at h; exact absurd rfl h
  · rw [if_neg h1] at h
    by_cases h2 : kept ≤ p1
    · rw [if_pos h2] at h; exact absurd rfl h
    · exact vp_in_iff.mpr ⟨i_nlt h1, by have := i_nle h2; omega⟩

def F_X4_part (kept : Int32) (cnt : Int32) (prt : Nat → Int32) (p1 : Int32) (p2 : Int32) : Int32 :=
  (if (F_X4_has kept cnt p1) = 0 then 0 else (if p2 < 0 then 0 else (if 3 ≤ p2 then 0 else (prt (((p1 * 3) + p2) : Int32).toNatClampNeg))))
set_option maxHeartbeats 4000000 in
set_option maxRecDepth 100000 in
theorem c_X4_part (l : Launch) (G : gG) (h0 h1 : Nat) (sz : Nat) (kept : Int32) (cnt : Int32) (prt : Nat → Int32) (p1 : Int32) (p2 : Int32) (hk : vp_in kept 301) : Met l yX4_part wsX4_part ({ frames := 1, cells := 0, slots := 0, locals := 21 }) (va_Pc [.ref h0, .int p1, .int p2] (pR G [(h0, .inr (6, [.ref h1, .int kept, .int cnt])), (h1, .inl (G.2 0, 900, .inl prt))] sz)) (pQ (.int (F_X4_part kept cnt prt p1 p2))) 0 0 (fun _ => False) := by
  refine Met.ofW (cc := cX4_part) (maxL := 3) (ret := (some .int)) (by decide) rfl ?_
  intro p e s m args below meth c s₁ B hml hv
  obtain ⟨rfl, hsz, hP, hK, hD0⟩ := hv
  have hx := B.exec
  have hb := B.bytes
  have hr := B.returns
  have hts := atoms_spec (ws := wsX4_part) B.pre
  have hown : s.vm.findClass RX4 = some m.cls := findClass_of_methodNamed B.named
  have hlocks := B.notSynchronized
  subst hsz
  have iX4 : ∀ w ∈ wsX40, w ∈ wsX4_part := by decide +kernel
  have hD := hD0
  have hP : va_P G.1 vwCl [(h0, .inr (6, [.ref h1, .int kept, .int cnt])), (h1, .inl (G.2 0, 900, .inl prt))] s.heap := hP
  have hl := lv_entry ([.ref h0, .int p1, .int p2]) (n := 3) (Nat.le_of_ble_eq_true rfl)
  rw [lg_entry_eq]
  generalize (lg_sl ([.ref h0, .int p1, .int p2]) ++ List.replicate (3 - (lg_sl ([.ref h0, .int p1, .int p2])).length) Slot.unset).toArray = ls at hl ⊢
  have hl : lv_has ls 3 [(0, .ref h0), (1, .int p1), (2, .int p2)] := hl
  have hF : F_X4_part kept cnt prt p1 p2 = F_X4_part kept cnt prt p1 p2 := rfl
  refine lv_aload_n hx hb dX4_part_0 rfl (lv_at hl 0 rfl) ?_
  refine lv_iload_n hx hb dX4_part_1 rfl (lv_at hl 1 rfl) ?_
  have hPc := hP.sub (ws' := [(h0, .inr (6, [.ref h1, .int kept, .int cnt]))]) [0] rfl
  have hDc := hD.sub (ws' := [(h0, .inr (6, [.ref h1, .int kept, .int cnt]))]) [0] (by decide) rfl
  refine pu_call (va_runV (As := [.int p1]) (rest := []) ⟨hx, hb, hml, hown, hts⟩ (c_X4_has l G h0 h1 _ kept cnt p1) (cwV 1 hts gX4_part_X4_has rfl rfl rfl (by decide +kernel) ⟨Nat.le_of_ble_eq_true rfl, Nat.le_of_ble_eq_true rfl⟩) (pR_V hK hPc hDc (q0 := 0) rfl rfl) rfl rfl hl.1 rfl (lv_room (Nat.le_of_ble_eq_true rfl)) dX4_part_2 ⟨by decide, by decide⟩) ?_
  refine lv_if_eq (tgt := 30) hx hb dX4_part_5 (by decide) (fun c_5 => ?_) (fun c_5 => ?_)
  · have hF := if_t hF c_5
    refine lv_iconst (v := 0) hx hb dX4_part_30 (by decide) ?_
    exact W.iret (v := 0) hx hb hr (fun t ht hW => ⟨by rw [hF], ht⟩) (fun _ h => by cases h) dX4_part_31
  · have hF := if_f hF c_5
    refine lv_iload_n hx hb dX4_part_8 rfl (lv_at hl 2 rfl) ?_
    refine lv_if_lt (tgt := 30) hx hb dX4_part_9 (by decide) (fun c_9 => ?_) (fun c_9 => ?_)
    · have hF := if_t hF c_9
      refine lv_iconst (v := 0) hx hb dX4_part_30 (by decide) ?_
      exact W.iret (v := 0) hx hb hr (fun t ht hW => ⟨by rw [hF], ht⟩) (fun _ h => by cases h) dX4_part_31
    · have hF := if_f hF c_9
      refine lv_iload_n hx hb dX4_part_12 rfl (lv_at hl 2 rfl) ?_
      refine lv_iconst (v := 3) hx hb dX4_part_13 (by decide) ?_
      refine lv_icmp_ge (tgt := 30) hx hb dX4_part_14 (by decide) (fun c_14 => ?_) (fun c_14 => ?_)
      · have hF := if_t hF c_14
        refine lv_iconst (v := 0) hx hb dX4_part_30 (by decide) ?_
        exact W.iret (v := 0) hx hb hr (fun t ht hW => ⟨by rw [hF], ht⟩) (fun _ h => by cases h) dX4_part_31
      · have hF := if_f hF c_14
        refine lv_aload_n hx hb dX4_part_17 rfl (lv_at hl 0 rfl) ?_
        refine va_get (D := G.1) (ci := 6) (v := .ref h1) (C := RX4) (T := TX4) (N := 3) hx hb hts iX4 hown hK.1 hP 0 rfl rfl 0 (by decide) (hts (.fieldLink RX4 9 "RightsSteps$UseLog" "parts" "[I") (by decide +kernel)) (fun _ h9 => h9) rfl dX4_part_18 ?_
        refine lv_iload_n hx hb dX4_part_21 rfl (lv_at hl 1 rfl) ?_
        refine lv_iconst (v := 3) hx hb dX4_part_22 (by decide) ?_
        refine lv_imul hx hb dX4_part_23 ?_
        refine lv_iload_n hx hb dX4_part_24 rfl (lv_at hl 2 rfl) ?_
        refine lv_iadd hx hb dX4_part_25 ?_
        refine va_iald (f := prt) hx hb hK.1 hP 1 0 rfl rfl (in_3b (has_in hk c_5) c_9 c_14) dX4_part_26 ?_
        refine lv_goto (tgt := 31) hx hb dX4_part_27 (by decide) ?_
        exact W.iret (v := (prt (((p1 * 3) + p2) : Int32).toNatClampNeg)) hx hb hr (fun t ht hW => ⟨by rw [hF], ht⟩) (fun _ h => by cases h) dX4_part_31

def F_X3_startSession (num : Int32) (ses : Int32) (rol : Int64) (opn : Int32) (awl : Int32) (aws : Int32) (oct : Int32) (ksf : Int32) (ou : Int32) (p1 : Int32) : Int32 × Int64 × Int32 × Int32 :=
  (p1, (-9223372036854775808), 0, 0)
set_option maxHeartbeats 4000000 in
set_option maxRecDepth 100000 in
theorem c_X3_startSession (l : Launch) (G : gG) (h0 tu tk : Nat) (sz : Nat) (num : Int32) (ses : Int32) (rol : Int64) (opn : Int32) (awl : Int32) (aws : Int32) (oct : Int32) (ksf : Int32) (ou : Int32) (p1 : Int32) : Met l yX3_startSession wsX3_startSession ({ frames := 0, cells := 0, slots := 0, locals := 0 }) (va_Pc [.ref h0, .int p1] (pR G [(h0, .inr (5, [.int num, .int ses, .long rol, .int opn, .int awl, .int aws, .int oct, .int ksf, .int ou, .ref tu, .ref tk]))] sz)) (va_Qv (fun (u : Int32 × Int64 × Int32 × Int32) => u = F_X3_startSession num ses rol opn awl aws oct ksf ou p1) (fun u t => pO G [(h0, .inr (5, [.int num, .int u.1, .long u.2.1, .int u.2.2.1, .int u.2.2.2, .int aws, .int oct, .int ksf, .int ou, .ref tu, .ref tk]))] (va_A [(h0, .inr (5, [.int num, .int ses, .long rol, .int opn, .int awl, .int aws, .int oct, .int ksf, .int ou, .ref tu, .ref tk]))] sz) t) (va_A [(h0, .inr (5, [.int num, .int ses, .long rol, .int opn, .int awl, .int aws, .int oct, .int ksf, .int ou, .ref tu, .ref tk]))] sz)) 0 0 (va_A [(h0, .inr (5, [.int num, .int ses, .long rol, .int opn, .int awl, .int aws, .int oct, .int ksf, .int ou, .ref tu, .ref tk]))] sz) := by
  refine Met.ofW (cc := cX3_startSession) (maxL := 2) (ret := none) (by decide) rfl ?_
  intro p e s m args below meth c s₁ B hml hv
  obtain ⟨rfl, hsz, hP, hK, hD0⟩ := hv
  have hx := B.exec
  have hb := B.bytes
  have hr := B.returns
  have hts := atoms_spec (ws := wsX3_startSession) B.pre
  have hown : s.vm.findClass RX3 = some m.cls := findClass_of_methodNamed B.named
  have hlocks := B.notSynchronized
  subst hsz
  have iX3 : ∀ w ∈ wsX30, w ∈ wsX3_startSession := by decide +kernel
  have hD := hD0.self (sz := s.heap.size)
  generalize hAe : va_A [(h0, .inr (5, [.int num, .int ses, .long rol, .int opn, .int awl, .int aws, .int oct, .int ksf, .int ou, .ref tu, .ref tk]))] s.heap.size = A at hD ⊢
  have hA : ∀ q : Nat, s.heap.size ≤ q → A q := fun q h => by rw [← hAe]; exact Or.inr h
  have hS : va_S A s.heap s.heap [] := va_S.rf
  have hP : va_P G.1 vwCl [(h0, .inr (5, [.int num, .int ses, .long rol, .int opn, .int awl, .int aws, .int oct, .int ksf, .int ou, .ref tu, .ref tk]))] s.heap := hP
  have hl := lv_entry ([.ref h0, .int p1]) (n := 2) (Nat.le_of_ble_eq_true rfl)
  rw [lg_entry_eq]
  generalize (lg_sl ([.ref h0, .int p1]) ++ List.replicate (2 - (lg_sl ([.ref h0, .int p1])).length) Slot.unset).toArray = ls at hl ⊢
  have hl : lv_has ls 2 [(0, .ref h0), (1, .int p1)] := hl
  have hF : F_X3_startSession num ses rol opn awl aws oct ksf ou p1 = F_X3_startSession num ses rol opn awl aws oct ksf ou p1 := rfl
  refine lv_aload_n hx hb dX3_startSession_0 rfl (lv_at hl 0 rfl) ?_
  refine lv_iload_n hx hb dX3_startSession_1 rfl (lv_at hl 1 rfl) ?_
  refine va_put (D := G.1) (ci := 5) (v := .int p1) (ty := .int) (C := RX3) (T := TX3) (N := 11) hx hb hts iX3 tyX3 tyX3_ok nmX3 hown hK.1 hP hD hS 0 rfl rfl 1 (by decide) (hts (.fieldLink RX3 9 "RightsSteps$Tester" "session" "I") (by decide +kernel)) (fun _ h9 => h9) rfl (by decide +kernel) rfl rfl (Nat.le_of_ble_eq_true rfl) dX3_startSession_2 (fun H locs hP hD hS => ?_)
  have hP : va_P G.1 vwCl [(h0, .inr (5, [.int num, .int p1, .long rol, .int opn, .int awl, .int aws, .int oct, .int ksf, .int ou, .ref tu, .ref tk]))] H := hP
  have hD : va_D A [(h0, .inr (5, [.int num, .int p1, .long rol, .int opn, .int awl, .int aws, .int oct, .int ksf, .int ou, .ref tu, .ref tk]))] := hD
  refine lv_aload_n hx hb dX3_startSession_5 rfl (lv_at hl 0 rfl) ?_
  refine lv_iconst (v := 0) hx hb dX3_startSession_6 (by decide) ?_
  refine va_put (D := G.1) (ci := 5) (v := .int 0) (ty := .int) (C := RX3) (T := TX3) (N := 11) hx hb hts iX3 tyX3 tyX3_ok nmX3 hown hK.1 hP hD hS 0 rfl rfl 4 (by decide) (hts (.fieldLink RX3 24 "RightsSteps$Tester" "awaitedLevel" "I") (by decide +kernel)) (fun _ h9 => h9) rfl (by decide +kernel) rfl rfl (Nat.le_of_ble_eq_true rfl) dX3_startSession_7 (fun H locs hP hD hS => ?_)
  have hP : va_P G.1 vwCl [(h0, .inr (5, [.int num, .int p1, .long rol, .int opn, .int 0, .int aws, .int oct, .int ksf, .int ou, .ref tu, .ref tk]))] H := hP
  have hD : va_D A [(h0, .inr (5, [.int num, .int p1, .long rol, .int opn, .int 0, .int aws, .int oct, .int ksf, .int ou, .ref tu, .ref tk]))] := hD
  refine lv_aload_n hx hb dX3_startSession_10 rfl (lv_at hl 0 rfl) ?_
  refine lv_iconst (v := 0) hx hb dX3_startSession_11 (by decide) ?_
  refine va_put (D := G.1) (ci := 5) (v := .int 0) (ty := .int) (C := RX3) (T := TX3) (N := 11) hx hb hts iX3 tyX3 tyX3_ok nmX3 hown hK.1 hP hD hS 0 rfl rfl 3 (by decide) (hts (.fieldLink RX3 21 "RightsSteps$Tester" "openLevel" "I") (by decide +kernel)) (fun _ h9 => h9) rfl (by decide +kernel) rfl rfl (Nat.le_of_ble_eq_true rfl) dX3_startSession_12 (fun H locs hP hD hS => ?_)
  have hP : va_P G.1 vwCl [(h0, .inr (5, [.int num, .int p1, .long rol, .int 0, .int 0, .int aws, .int oct, .int ksf, .int ou, .ref tu, .ref tk]))] H := hP
  have hD : va_D A [(h0, .inr (5, [.int num, .int p1, .long rol, .int 0, .int 0, .int aws, .int oct, .int ksf, .int ou, .ref tu, .ref tk]))] := hD
  refine lv_aload_n hx hb dX3_startSession_15 rfl (lv_at hl 0 rfl) ?_
  refine lv_ldc2 (v := (-9223372036854775808)) hx hb hown (hts (.constantLong RX3 15 (-9223372036854775808)) (by decide +kernel)) dX3_startSession_16 ?_
  refine va_put (D := G.1) (ci := 5) (v := .long (-9223372036854775808)) (ty := .long) (C := RX3) (T := TX3) (N := 11) hx hb hts iX3 tyX3 tyX3_ok nmX3 hown hK.1 hP hD hS 0 rfl rfl 2 (by decide) (hts (.fieldLink RX3 17 "RightsSteps$Tester" "roleUntil" "J") (by decide +kernel)) (fun _ h9 => h9) rfl (by decide +kernel) rfl rfl (Nat.le_of_ble_eq_true rfl) dX3_startSession_19 (fun H locs hP hD hS => ?_)
  have hP : va_P G.1 vwCl [(h0, .inr (5, [.int num, .int p1, .long (-9223372036854775808), .int 0, .int 0, .int aws, .int oct, .int ksf, .int ou, .ref tu, .ref tk]))] H := hP
  have hD : va_D A [(h0, .inr (5, [.int num, .int p1, .long (-9223372036854775808), .int 0, .int 0, .int aws, .int oct, .int ksf, .int ou, .ref tu, .ref tk]))] := hD
  exact W.vret hx hb hr (fun t ht hW => ⟨⟨(p1, (-9223372036854775808), 0, 0), rfl, hF.symm, by rw [ht]; exact hP.sub [0] rfl, hD.sub [0] (by decide) rfl⟩, hS.F ht⟩) hS.2.2 dX3_startSession_22

def F_X3_awaitKey (num : Int32) (ses : Int32) (rol : Int64) (opn : Int32) (awl : Int32) (aws : Int32) (oct : Int32) (ksf : Int32) (ou : Int32) (p1 : Int32) (p2 : Int32) : Int32 × Int32 × Int32 :=
  (p1, p2, p2)
set_option maxHeartbeats 4000000 in
set_option maxRecDepth 100000 in
theorem c_X3_awaitKey (l : Launch) (G : gG) (h0 tu tk : Nat) (sz : Nat) (num : Int32) (ses : Int32) (rol : Int64) (opn : Int32) (awl : Int32) (aws : Int32) (oct : Int32) (ksf : Int32) (ou : Int32) (p1 : Int32) (p2 : Int32) : Met l yX3_awaitKey wsX3_awaitKey ({ frames := 0, cells := 0, slots := 0, locals := 0 }) (va_Pc [.ref h0, .int p1, .int p2] (pR G [(h0, .inr (5, [.int num, .int ses, .long rol, .int opn, .int awl, .int aws, .int oct, .int ksf, .int ou, .ref tu, .ref tk]))] sz)) (va_Qv (fun (u : Int32 × Int32 × Int32) => u = F_X3_awaitKey num ses rol opn awl aws oct ksf ou p1 p2) (fun u t => pO G [(h0, .inr (5, [.int num, .int ses, .long rol, .int opn, .int u.1, .int u.2.1, .int oct, .int ksf, .int u.2.2, .ref tu, .ref tk]))] (va_A [(h0, .inr (5, [.int num, .int ses, .long rol, .int opn, .int awl, .int aws, .int oct, .int ksf, .int ou, .ref tu, .ref tk]))] sz) t) (va_A [(h0, .inr (5, [.int num, .int ses, .long rol, .int opn, .int awl, .int aws, .int oct, .int ksf, .int ou, .ref tu, .ref tk]))] sz)) 0 0 (va_A [(h0, .inr (5, [.int num, .int ses, .long rol, .int opn, .int awl, .int aws, .int oct, .int ksf, .int ou, .ref tu, .ref tk]))] sz) := by
  refine Met.ofW (cc := cX3_awaitKey) (maxL := 3) (ret := none) (by decide) rfl ?_
  intro p e s m args below meth c s₁ B hml hv
  obtain ⟨rfl, hsz, hP, hK, hD0⟩ := hv
  have hx := B.exec
  have hb := B.bytes
  have hr := B.returns
  have hts := atoms_spec (ws := wsX3_awaitKey) B.pre
  have hown : s.vm.findClass RX3 = some m.cls := findClass_of_methodNamed B.named
  have hlocks := B.notSynchronized
  subst hsz
  have iX3 : ∀ w ∈ wsX30, w ∈ wsX3_awaitKey := by decide +kernel
  have hD := hD0.self (sz := s.heap.size)
  generalize hAe : va_A [(h0, .inr (5, [.int num, .int ses, .long rol, .int opn, .int awl, .int aws, .int oct, .int ksf, .int ou, .ref tu, .ref tk]))] s.heap.size = A at hD ⊢
  have hA : ∀ q : Nat, s.heap.size ≤ q → A q := fun q h => by rw [← hAe]; exact Or.inr h
  have hS : va_S A s.heap s.heap [] := va_S.rf
  have hP : va_P G.1 vwCl [(h0, .inr (5, [.int num, .int ses, .long rol, .int opn, .int awl, .int aws, .int oct, .int ksf, .int ou, .ref tu, .ref tk]))] s.heap := hP
  have hl := lv_entry ([.ref h0, .int p1, .int p2]) (n := 3) (Nat.le_of_ble_eq_true rfl)
  rw [lg_entry_eq]
  generalize (lg_sl ([.ref h0, .int p1, .int p2]) ++ List.replicate (3 - (lg_sl ([.ref h0, .int p1, .int p2])).length) Slot.unset).toArray = ls at hl ⊢
  have hl : lv_has ls 3 [(0, .ref h0), (1, .int p1), (2, .int p2)] := hl
  have hF : F_X3_awaitKey num ses rol opn awl aws oct ksf ou p1 p2 = F_X3_awaitKey num ses rol opn awl aws oct ksf ou p1 p2 := rfl
  refine lv_aload_n hx hb dX3_awaitKey_0 rfl (lv_at hl 0 rfl) ?_
  refine lv_iload_n hx hb dX3_awaitKey_1 rfl (lv_at hl 2 rfl) ?_
  refine va_put (D := G.1) (ci := 5) (v := .int p2) (ty := .int) (C := RX3) (T := TX3) (N := 11) hx hb hts iX3 tyX3 tyX3_ok nmX3 hown hK.1 hP hD hS 0 rfl rfl 8 (by decide) (hts (.fieldLink RX3 44 "RightsSteps$Tester" "out" "I") (by decide +kernel)) (fun _ h9 => h9) rfl (by decide +kernel) rfl rfl (Nat.le_of_ble_eq_true rfl) dX3_awaitKey_2 (fun H locs hP hD hS => ?_)
  have hP : va_P G.1 vwCl [(h0, .inr (5, [.int num, .int ses, .long rol, .int opn, .int awl, .int aws, .int oct, .int ksf, .int p2, .ref tu, .ref tk]))] H := hP
  have hD : va_D A [(h0, .inr (5, [.int num, .int ses, .long rol, .int opn, .int awl, .int aws, .int oct, .int ksf, .int p2, .ref tu, .ref tk]))] := hD
  refine lv_aload_n hx hb dX3_awaitKey_5 rfl (lv_at hl 0 rfl) ?_
  refine lv_iload_n hx hb dX3_awaitKey_6 rfl (lv_at hl 1 rfl) ?_
  refine va_put (D := G.1) (ci := 5) (v := .int p1) (ty := .int) (C := RX3) (T := TX3) (N := 11) hx hb hts iX3 tyX3 tyX3_ok nmX3 hown hK.1 hP hD hS 0 rfl rfl 4 (by decide) (hts (.fieldLink RX3 24 "RightsSteps$Tester" "awaitedLevel" "I") (by decide +kernel)) (fun _ h9 => h9) rfl (by decide +kernel) rfl rfl (Nat.le_of_ble_eq_true rfl) dX3_awaitKey_7 (fun H locs hP hD hS => ?_)
  have hP : va_P G.1 vwCl [(h0, .inr (5, [.int num, .int ses, .long rol, .int opn, .int p1, .int aws, .int oct, .int ksf, .int p2, .ref tu, .ref tk]))] H := hP
  have hD : va_D A [(h0, .inr (5, [.int num, .int ses, .long rol, .int opn, .int p1, .int aws, .int oct, .int ksf, .int p2, .ref tu, .ref tk]))] := hD
  refine lv_aload_n hx hb dX3_awaitKey_10 rfl (lv_at hl 0 rfl) ?_
  refine lv_iload_n hx hb dX3_awaitKey_11 rfl (lv_at hl 2 rfl) ?_
  refine va_put (D := G.1) (ci := 5) (v := .int p2) (ty := .int) (C := RX3) (T := TX3) (N := 11) hx hb hts iX3 tyX3 tyX3_ok nmX3 hown hK.1 hP hD hS 0 rfl rfl 5 (by decide) (hts (.fieldLink RX3 47 "RightsSteps$Tester" "awaitedSeed" "I") (by decide +kernel)) (fun _ h9 => h9) rfl (by decide +kernel) rfl rfl (Nat.le_of_ble_eq_true rfl) dX3_awaitKey_12 (fun H locs hP hD hS => ?_)
  have hP : va_P G.1 vwCl [(h0, .inr (5, [.int num, .int ses, .long rol, .int opn, .int p1, .int p2, .int oct, .int ksf, .int p2, .ref tu, .ref tk]))] H := hP
  have hD : va_D A [(h0, .inr (5, [.int num, .int ses, .long rol, .int opn, .int p1, .int p2, .int oct, .int ksf, .int p2, .ref tu, .ref tk]))] := hD
  exact W.vret hx hb hr (fun t ht hW => ⟨⟨(p1, p2, p2), rfl, hF.symm, by rw [ht]; exact hP.sub [0] rfl, hD.sub [0] (by decide) rfl⟩, hS.F ht⟩) hS.2.2 dX3_awaitKey_15

def F_X3_addOctet (num : Int32) (ses : Int32) (rol : Int64) (opn : Int32) (awl : Int32) (aws : Int32) (oct : Int32) (ksf : Int32) (ou : Int32) (p1 : Int32) : Int32 × Int32 :=
  (if 4 < oct then (oct, ((ksf <<< (8 &&& 31)) ||| (p1 &&& 255))) else ((oct + 1), ((ksf <<< (8 &&& 31)) ||| (p1 &&& 255))))
set_option maxHeartbeats 4000000 in
set_option maxRecDepth 100000 in
theorem c_X3_addOctet (l : Launch) (G : gG) (h0 tu tk : Nat) (sz : Nat) (num : Int32) (ses : Int32) (rol : Int64) (opn : Int32) (awl : Int32) (aws : Int32) (oct : Int32) (ksf : Int32) (ou : Int32) (p1 : Int32) : Met l yX3_addOctet wsX3_addOctet ({ frames := 0, cells := 0, slots := 0, locals := 0 }) (va_Pc [.ref h0, .int p1] (pR G [(h0, .inr (5, [.int num, .int ses, .long rol, .int opn, .int awl, .int aws, .int oct, .int ksf, .int ou, .ref tu, .ref tk]))] sz)) (va_Qv (fun (u : Int32 × Int32) => u = F_X3_addOctet num ses rol opn awl aws oct ksf ou p1) (fun u t => pO G [(h0, .inr (5, [.int num, .int ses, .long rol, .int opn, .int awl, .int aws, .int u.1, .int u.2, .int ou, .ref tu, .ref tk]))] (va_A [(h0, .inr (5, [.int num, .int ses, .long rol, .int opn, .int awl, .int aws, .int oct, .int ksf, .int ou, .ref tu, .ref tk]))] sz) t) (va_A [(h0, .inr (5, [.int num, .int ses, .long rol, .int opn, .int awl, .int aws, .int oct, .int ksf, .int ou, .ref tu, .ref tk]))] sz)) 0 0 (va_A [(h0, .inr (5, [.int num, .int ses, .long rol, .int opn, .int awl, .int aws, .int oct, .int ksf, .int ou, .ref tu, .ref tk]))] sz) := by
  refine Met.ofW (cc := cX3_addOctet) (maxL := 2) (ret := none) (by decide) rfl ?_
  intro p e s m args below meth c s₁ B hml hv
  obtain ⟨rfl, hsz, hP, hK, hD0⟩ := hv
  have hx := B.exec
  have hb := B.bytes
  have hr := B.returns
  have hts := atoms_spec (ws := wsX3_addOctet) B.pre
  have hown : s.vm.findClass RX3 = some m.cls := findClass_of_methodNamed B.named
  have hlocks := B.notSynchronized
  subst hsz
  have iX3 : ∀ w ∈ wsX30, w ∈ wsX3_addOctet := by decide +kernel
  have hD := hD0.self (sz := s.heap.size)
  generalize hAe : va_A [(h0, .inr (5, [.int num, .int ses, .long rol, .int opn, .int awl, .int aws, .int oct, .int ksf, .int ou, .ref tu, .ref tk]))] s.heap.size = A at hD ⊢
  have hA : ∀ q : Nat, s.heap.size ≤ q → A q := fun q h => by rw [← hAe]; exact Or.inr h
  have hS : va_S A s.heap s.heap [] := va_S.rf
  have hP : va_P G.1 vwCl [(h0, .inr (5, [.int num, .int ses, .long rol, .int opn, .int awl, .int aws, .int oct, .int ksf, .int ou, .ref tu, .ref tk]))] s.heap := hP
  have hl := lv_entry ([.ref h0, .int p1]) (n := 2) (Nat.le_of_ble_eq_true rfl)
  rw [lg_entry_eq]
  generalize (lg_sl ([.ref h0, .int p1]) ++ List.replicate (2 - (lg_sl ([.ref h0, .int p1])).length) Slot.unset).toArray = ls at hl ⊢
  have hl : lv_has ls 2 [(0, .ref h0), (1, .int p1)] := hl
  have hF : F_X3_addOctet num ses rol opn awl aws oct ksf ou p1 = F_X3_addOctet num ses rol opn awl aws oct ksf ou p1 := rfl
  refine lv_aload_n hx hb dX3_addOctet_0 rfl (lv_at hl 0 rfl) ?_
  refine va_get (D := G.1) (ci := 5) (v := .int oct) (C := RX3) (T := TX3) (N := 11) hx hb hts iX3 hown hK.1 hP 0 rfl rfl 6 (by decide) (hts (.fieldLink RX3 50 "RightsSteps$Tester" "octets" "I") (by decide +kernel)) (fun _ h9 => h9) rfl dX3_addOctet_1 ?_
  refine lv_iconst (v := 4) hx hb dX3_addOctet_4 (by decide) ?_
  refine lv_icmp_gt (tgt := 18) hx hb dX3_addOctet_5 (by decide) (fun c_5 => ?_) (fun c_5 => ?_)
  · have hF := if_t hF c_5
    refine lv_aload_n hx hb dX3_addOctet_18 rfl (lv_at hl 0 rfl) ?_
    refine lv_aload_n hx hb dX3_addOctet_19 rfl (lv_at hl 0 rfl) ?_
    refine va_get (D := G.1) (ci := 5) (v := .int ksf) (C := RX3) (T := TX3) (N := 11) hx hb hts iX3 hown hK.1 hP 0 rfl rfl 7 (by decide) (hts (.fieldLink RX3 53 "RightsSteps$Tester" "keySoFar" "I") (by decide +kernel)) (fun _ h9 => h9) rfl dX3_addOctet_20 ?_
    refine lv_bipush (v := 8) hx hb dX3_addOctet_23 (by decide) ?_
    refine lv_ishl hx hb dX3_addOctet_25 ?_
    refine lv_iload_n hx hb dX3_addOctet_26 rfl (lv_at hl 1 rfl) ?_
    refine lv_sipush (v := 255) hx hb dX3_addOctet_27 (by decide) ?_
    refine lv_iand hx hb dX3_addOctet_30 ?_
    refine lv_ior hx hb dX3_addOctet_31 ?_
    refine va_put (D := G.1) (ci := 5) (v := .int ((ksf <<< (8 &&& 31)) ||| (p1 &&& 255))) (ty := .int) (C := RX3) (T := TX3) (N := 11) hx hb hts iX3 tyX3 tyX3_ok nmX3 hown hK.1 hP hD hS 0 rfl rfl 7 (by decide) (hts (.fieldLink RX3 53 "RightsSteps$Tester" "keySoFar" "I") (by decide +kernel)) (fun _ h9 => h9) rfl (by decide +kernel) rfl rfl (Nat.le_of_ble_eq_true rfl) dX3_addOctet_32 (fun H locs hP hD hS => ?_)
    have hP : va_P G.1 vwCl [(h0, .inr (5, [.int num, .int ses, .long rol, .int opn, .int awl, .int aws, .int oct, .int ((ksf <<< (8 &&& 31)) ||| (p1 &&& 255)), .int ou, .ref tu, .ref tk]))] H := hP
    have hD : va_D A [(h0, .inr (5, [.int num, .int ses, .long rol, .int opn, .int awl, .int aws, .int oct, .int ((ksf <<< (8 &&& 31)) ||| (p1 &&& 255)), .int ou, .ref tu, .ref tk]))] := hD
    exact W.vret hx hb hr (fun t ht hW => ⟨⟨(oct, ((ksf <<< (8 &&& 31)) ||| (p1 &&& 255))), rfl, hF.symm, by rw [ht]; exact hP.sub [0] rfl, hD.sub [0] (by decide) rfl⟩, hS.F ht⟩) hS.2.2 dX3_addOctet_35
  · have hF := if_f hF c_5
    refine lv_aload_n hx hb dX3_addOctet_8 rfl (lv_at hl 0 rfl) ?_
    refine lv_dup hx hb dX3_addOctet_9 rfl ?_
    refine va_get (D := G.1) (ci := 5) (v := .int oct) (C := RX3) (T := TX3) (N := 11) hx hb hts iX3 hown hK.1 hP 0 rfl rfl 6 (by decide) (hts (.fieldLink RX3 50 "RightsSteps$Tester" "octets" "I") (by decide +kernel)) (fun _ h9 => h9) rfl dX3_addOctet_10 ?_
    refine lv_iconst (v := 1) hx hb dX3_addOctet_13 (by decide) ?_
    refine lv_iadd hx hb dX3_addOctet_14 ?_
    refine va_put (D := G.1) (ci := 5) (v := .int (oct + 1)) (ty := .int) (C := RX3) (T := TX3) (N := 11) hx hb hts iX3 tyX3 tyX3_ok nmX3 hown hK.1 hP hD hS 0 rfl rfl 6 (by decide) (hts (.fieldLink RX3 50 "RightsSteps$Tester" "octets" "I") (by decide +kernel)) (fun _ h9 => h9) rfl (by decide +kernel) rfl rfl (Nat.le_of_ble_eq_true rfl) dX3_addOctet_15 (fun H locs hP hD hS => ?_)
    have hP : va_P G.1 vwCl [(h0, .inr (5, [.int num, .int ses, .long rol, .int opn, .int awl, .int aws, .int (oct + 1), .int ksf, .int ou, .ref tu, .ref tk]))] H := hP
    have hD : va_D A [(h0, .inr (5, [.int num, .int ses, .long rol, .int opn, .int awl, .int aws, .int (oct + 1), .int ksf, .int ou, .ref tu, .ref tk]))] := hD
    refine lv_aload_n hx hb dX3_addOctet_18 rfl (lv_at hl 0 rfl) ?_
    refine lv_aload_n hx hb dX3_addOctet_19 rfl (lv_at hl 0 rfl) ?_
    refine va_get (D := G.1) (ci := 5) (v := .int ksf) (C := RX3) (T := TX3) (N := 11) hx hb hts iX3 hown hK.1 hP 0 rfl rfl 7 (by decide) (hts (.fieldLink RX3 53 "RightsSteps$Tester" "keySoFar" "I") (by decide +kernel)) (fun _ h9 => h9) rfl dX3_addOctet_20 ?_
    refine lv_bipush (v := 8) hx hb dX3_addOctet_23 (by decide) ?_
    refine lv_ishl hx hb dX3_addOctet_25 ?_
    refine lv_iload_n hx hb dX3_addOctet_26 rfl (lv_at hl 1 rfl) ?_
    refine lv_sipush (v := 255) hx hb dX3_addOctet_27 (by decide) ?_
    refine lv_iand hx hb dX3_addOctet_30 ?_
    refine lv_ior hx hb dX3_addOctet_31 ?_
    refine va_put (D := G.1) (ci := 5) (v := .int ((ksf <<< (8 &&& 31)) ||| (p1 &&& 255))) (ty := .int) (C := RX3) (T := TX3) (N := 11) hx hb hts iX3 tyX3 tyX3_ok nmX3 hown hK.1 hP hD hS 0 rfl rfl 7 (by decide) (hts (.fieldLink RX3 53 "RightsSteps$Tester" "keySoFar" "I") (by decide +kernel)) (fun _ h9 => h9) rfl (by decide +kernel) rfl rfl (Nat.le_of_ble_eq_true rfl) dX3_addOctet_32 (fun H locs hP hD hS => ?_)
    have hP : va_P G.1 vwCl [(h0, .inr (5, [.int num, .int ses, .long rol, .int opn, .int awl, .int aws, .int (oct + 1), .int ((ksf <<< (8 &&& 31)) ||| (p1 &&& 255)), .int ou, .ref tu, .ref tk]))] H := hP
    have hD : va_D A [(h0, .inr (5, [.int num, .int ses, .long rol, .int opn, .int awl, .int aws, .int (oct + 1), .int ((ksf <<< (8 &&& 31)) ||| (p1 &&& 255)), .int ou, .ref tu, .ref tk]))] := hD
    exact W.vret hx hb hr (fun t ht hW => ⟨⟨((oct + 1), ((ksf <<< (8 &&& 31)) ||| (p1 &&& 255))), rfl, hF.symm, by rw [ht]; exact hP.sub [0] rfl, hD.sub [0] (by decide) rfl⟩, hS.F ht⟩) hS.2.2 dX3_addOctet_35

def F_X3_dropOctets (num : Int32) (ses : Int32) (rol : Int64) (opn : Int32) (awl : Int32) (aws : Int32) (oct : Int32) (ksf : Int32) (ou : Int32) : Int32 × Int32 :=
  (0, 0)
set_option maxHeartbeats 4000000 in
set_option maxRecDepth 100000 in
theorem c_X3_dropOctets (l : Launch) (G : gG) (h0 tu tk : Nat) (sz : Nat) (num : Int32) (ses : Int32) (rol : Int64) (opn : Int32) (awl : Int32) (aws : Int32) (oct : Int32) (ksf : Int32) (ou : Int32) : Met l yX3_dropOctets wsX3_dropOctets ({ frames := 0, cells := 0, slots := 0, locals := 0 }) (va_Pc [.ref h0] (pR G [(h0, .inr (5, [.int num, .int ses, .long rol, .int opn, .int awl, .int aws, .int oct, .int ksf, .int ou, .ref tu, .ref tk]))] sz)) (va_Qv (fun (u : Int32 × Int32) => u = F_X3_dropOctets num ses rol opn awl aws oct ksf ou) (fun u t => pO G [(h0, .inr (5, [.int num, .int ses, .long rol, .int opn, .int awl, .int aws, .int u.1, .int u.2, .int ou, .ref tu, .ref tk]))] (va_A [(h0, .inr (5, [.int num, .int ses, .long rol, .int opn, .int awl, .int aws, .int oct, .int ksf, .int ou, .ref tu, .ref tk]))] sz) t) (va_A [(h0, .inr (5, [.int num, .int ses, .long rol, .int opn, .int awl, .int aws, .int oct, .int ksf, .int ou, .ref tu, .ref tk]))] sz)) 0 0 (va_A [(h0, .inr (5, [.int num, .int ses, .long rol, .int opn, .int awl, .int aws, .int oct, .int ksf, .int ou, .ref tu, .ref tk]))] sz) := by
  refine Met.ofW (cc := cX3_dropOctets) (maxL := 1) (ret := none) (by decide) rfl ?_
  intro p e s m args below meth c s₁ B hml hv
  obtain ⟨rfl, hsz, hP, hK, hD0⟩ := hv
  have hx := B.exec
  have hb := B.bytes
  have hr := B.returns
  have hts := atoms_spec (ws := wsX3_dropOctets) B.pre
  have hown : s.vm.findClass RX3 = some m.cls := findClass_of_methodNamed B.named
  have hlocks := B.notSynchronized
  subst hsz
  have iX3 : ∀ w ∈ wsX30, w ∈ wsX3_dropOctets := by decide +kernel
  have hD := hD0.self (sz := s.heap.size)
  generalize hAe : va_A [(h0, .inr (5, [.int num, .int ses, .long rol, .int opn, .int awl, .int aws, .int oct, .int ksf, .int ou, .ref tu, .ref tk]))] s.heap.size = A at hD ⊢
  have hA : ∀ q : Nat, s.heap.size ≤ q → A q := fun q h => by rw [← hAe]; exact Or.inr h
  have hS : va_S A s.heap s.heap [] := va_S.rf
  have hP : va_P G.1 vwCl [(h0, .inr (5, [.int num, .int ses, .long rol, .int opn, .int awl, .int aws, .int oct, .int ksf, .int ou, .ref tu, .ref tk]))] s.heap := hP
  have hl := lv_entry ([.ref h0]) (n := 1) (Nat.le_of_ble_eq_true rfl)
  rw [lg_entry_eq]
  generalize (lg_sl ([.ref h0]) ++ List.replicate (1 - (lg_sl ([.ref h0])).length) Slot.unset).toArray = ls at hl ⊢
  have hl : lv_has ls 1 [(0, .ref h0)] := hl
  have hF : F_X3_dropOctets num ses rol opn awl aws oct ksf ou = F_X3_dropOctets num ses rol opn awl aws oct ksf ou := rfl
  refine lv_aload_n hx hb dX3_dropOctets_0 rfl (lv_at hl 0 rfl) ?_
  refine lv_iconst (v := 0) hx hb dX3_dropOctets_1 (by decide) ?_
  refine va_put (D := G.1) (ci := 5) (v := .int 0) (ty := .int) (C := RX3) (T := TX3) (N := 11) hx hb hts iX3 tyX3 tyX3_ok nmX3 hown hK.1 hP hD hS 0 rfl rfl 6 (by decide) (hts (.fieldLink RX3 50 "RightsSteps$Tester" "octets" "I") (by decide +kernel)) (fun _ h9 => h9) rfl (by decide +kernel) rfl rfl (Nat.le_of_ble_eq_true rfl) dX3_dropOctets_2 (fun H locs hP hD hS => ?_)
  have hP : va_P G.1 vwCl [(h0, .inr (5, [.int num, .int ses, .long rol, .int opn, .int awl, .int aws, .int 0, .int ksf, .int ou, .ref tu, .ref tk]))] H := hP
  have hD : va_D A [(h0, .inr (5, [.int num, .int ses, .long rol, .int opn, .int awl, .int aws, .int 0, .int ksf, .int ou, .ref tu, .ref tk]))] := hD
  refine lv_aload_n hx hb dX3_dropOctets_5 rfl (lv_at hl 0 rfl) ?_
  refine lv_iconst (v := 0) hx hb dX3_dropOctets_6 (by decide) ?_
  refine va_put (D := G.1) (ci := 5) (v := .int 0) (ty := .int) (C := RX3) (T := TX3) (N := 11) hx hb hts iX3 tyX3 tyX3_ok nmX3 hown hK.1 hP hD hS 0 rfl rfl 7 (by decide) (hts (.fieldLink RX3 53 "RightsSteps$Tester" "keySoFar" "I") (by decide +kernel)) (fun _ h9 => h9) rfl (by decide +kernel) rfl rfl (Nat.le_of_ble_eq_true rfl) dX3_dropOctets_7 (fun H locs hP hD hS => ?_)
  have hP : va_P G.1 vwCl [(h0, .inr (5, [.int num, .int ses, .long rol, .int opn, .int awl, .int aws, .int 0, .int 0, .int ou, .ref tu, .ref tk]))] H := hP
  have hD : va_D A [(h0, .inr (5, [.int num, .int ses, .long rol, .int opn, .int awl, .int aws, .int 0, .int 0, .int ou, .ref tu, .ref tk]))] := hD
  exact W.vret hx hb hr (fun t ht hW => ⟨⟨(0, 0), rfl, hF.symm, by rw [ht]; exact hP.sub [0] rfl, hD.sub [0] (by decide) rfl⟩, hS.F ht⟩) hS.2.2 dX3_dropOctets_10

def F_X3_usedTries (num : Int32) (ses : Int32) (rol : Int64) (opn : Int32) (awl : Int32) (aws : Int32) (oct : Int32) (ksf : Int32) (ou : Int32) (ut : Nat → Int32) (p1 : Int32) : Int32 :=
  (if p1 < 0 then 0 else (if p1 < 21 then (ut (p1 : Int32).toNatClampNeg) else 0))
set_option maxHeartbeats 4000000 in
set_option maxRecDepth 100000 in
theorem c_X3_usedTries (l : Launch) (G : gG) (h0 tu tk : Nat) (sz : Nat) (num : Int32) (ses : Int32) (rol : Int64) (opn : Int32) (awl : Int32) (aws : Int32) (oct : Int32) (ksf : Int32) (ou : Int32) (ut : Nat → Int32) (p1 : Int32) : Met l yX3_usedTries wsX3_usedTries ({ frames := 0, cells := 0, slots := 0, locals := 0 }) (va_Pc [.ref h0, .int p1] (pR G [(h0, .inr (5, [.int num, .int ses, .long rol, .int opn, .int awl, .int aws, .int oct, .int ksf, .int ou, .ref tu, .ref tk])), (tu, .inl (G.2 0, 21, .inl ut))] sz)) (pQ (.int (F_X3_usedTries num ses rol opn awl aws oct ksf ou ut p1))) 0 0 (fun _ => False) := by
  refine Met.ofW (cc := cX3_usedTries) (maxL := 2) (ret := (some .int)) (by decide) rfl ?_
  intro p e s m args below meth c s₁ B hml hv
  obtain ⟨rfl, hsz, hP, hK, hD0⟩ := hv
  have hx := B.exec
  have hb := B.bytes
  have hr := B.returns
  have hts := atoms_spec (ws := wsX3_usedTries) B.pre
  have hown : s.vm.findClass RX3 = some m.cls := findClass_of_methodNamed B.named
  have hlocks := B.notSynchronized
  subst hsz
  have iX3 : ∀ w ∈ wsX30, w ∈ wsX3_usedTries := by decide +kernel
  have hD := hD0
  have hP : va_P G.1 vwCl [(h0, .inr (5, [.int num, .int ses, .long rol, .int opn, .int awl, .int aws, .int oct, .int ksf, .int ou, .ref tu, .ref tk])), (tu, .inl (G.2 0, 21, .inl ut))] s.heap := hP
  have hl := lv_entry ([.ref h0, .int p1]) (n := 2) (Nat.le_of_ble_eq_true rfl)
  rw [lg_entry_eq]
  generalize (lg_sl ([.ref h0, .int p1]) ++ List.replicate (2 - (lg_sl ([.ref h0, .int p1])).length) Slot.unset).toArray = ls at hl ⊢
  have hl : lv_has ls 2 [(0, .ref h0), (1, .int p1)] := hl
  have hF : F_X3_usedTries num ses rol opn awl aws oct ksf ou ut p1 = F_X3_usedTries num ses rol opn awl aws oct ksf ou ut p1 := rfl
  refine lv_iload_n hx hb dX3_usedTries_0 rfl (lv_at hl 1 rfl) ?_
  refine lv_if_lt (tgt := 13) hx hb dX3_usedTries_1 (by decide) (fun c_1 => ?_) (fun c_1 => ?_)
  · have hF := if_t hF c_1
    refine lv_iconst (v := 0) hx hb dX3_usedTries_13 (by decide) ?_
    refine lv_goto (tgt := 23) hx hb dX3_usedTries_14 (by decide) ?_
    exact W.iret (v := 0) hx hb hr (fun t ht hW => ⟨by rw [hF], ht⟩) (fun _ h => by cases h) dX3_usedTries_23
  · have hF := if_f hF c_1
    refine lv_iload_n hx hb dX3_usedTries_4 rfl (lv_at hl 1 rfl) ?_
    refine lv_aload_n hx hb dX3_usedTries_5 rfl (lv_at hl 0 rfl) ?_
    refine va_get (D := G.1) (ci := 5) (v := .ref tu) (C := RX3) (T := TX3) (N := 11) hx hb hts iX3 hown hK.1 hP 0 rfl rfl 9 (by decide) (hts (.fieldLink RX3 27 "RightsSteps$Tester" "usedTries" "[I") (by decide +kernel)) (fun _ h9 => h9) rfl dX3_usedTries_6 ?_
    refine va_alen (v := 21) hx hb hK.1 hP 1 0 rfl rfl rfl dX3_usedTries_9 ?_
    refine lv_icmp_lt (tgt := 17) hx hb dX3_usedTries_10 (by decide) (fun c_10 => ?_) (fun c_10 => ?_)
    · have hF := if_t hF c_10
      refine lv_aload_n hx hb dX3_usedTries_17 rfl (lv_at hl 0 rfl) ?_
      refine va_get (D := G.1) (ci := 5) (v := .ref tu) (C := RX3) (T := TX3) (N := 11) hx hb hts iX3 hown hK.1 hP 0 rfl rfl 9 (by decide) (hts (.fieldLink RX3 27 "RightsSteps$Tester" "usedTries" "[I") (by decide +kernel)) (fun _ h9 => h9) rfl dX3_usedTries_18 ?_
      refine lv_iload_n hx hb dX3_usedTries_21 rfl (lv_at hl 1 rfl) ?_
      refine va_iald (f := ut) hx hb hK.1 hP 1 0 rfl rfl (in_lo c_1 c_10 rfl) dX3_usedTries_22 ?_
      exact W.iret (v := (ut (p1 : Int32).toNatClampNeg)) hx hb hr (fun t ht hW => ⟨by rw [hF], ht⟩) (fun _ h => by cases h) dX3_usedTries_23
    · have hF := if_f hF c_10
      refine lv_iconst (v := 0) hx hb dX3_usedTries_13 (by decide) ?_
      refine lv_goto (tgt := 23) hx hb dX3_usedTries_14 (by decide) ?_
      exact W.iret (v := 0) hx hb hr (fun t ht hW => ⟨by rw [hF], ht⟩) (fun _ h => by cases h) dX3_usedTries_23

def F_X3_setUsedTries (num : Int32) (ses : Int32) (rol : Int64) (opn : Int32) (awl : Int32) (aws : Int32) (oct : Int32) (ksf : Int32) (ou : Int32) (ut : Nat → Int32) (p1 : Int32) (p2 : Int32) : (Nat → Int32) :=
  (if p1 < 0 then ut else (if 21 ≤ p1 then ut else (upd ut (p1 : Int32).toNatClampNeg p2)))
set_option maxHeartbeats 4000000 in
set_option maxRecDepth 100000 in
theorem c_X3_setUsedTries (l : Launch) (G : gG) (h0 tu tk : Nat) (sz : Nat) (num : Int32) (ses : Int32) (rol : Int64) (opn : Int32) (awl : Int32) (aws : Int32) (oct : Int32) (ksf : Int32) (ou : Int32) (ut : Nat → Int32) (p1 : Int32) (p2 : Int32) : Met l yX3_setUsedTries wsX3_setUsedTries ({ frames := 0, cells := 0, slots := 0, locals := 0 }) (va_Pc [.ref h0, .int p1, .int p2] (pR G [(h0, .inr (5, [.int num, .int ses, .long rol, .int opn, .int awl, .int aws, .int oct, .int ksf, .int ou, .ref tu, .ref tk])), (tu, .inl (G.2 0, 21, .inl ut))] sz)) (va_Qv (fun (u : (Nat → Int32)) => u = F_X3_setUsedTries num ses rol opn awl aws oct ksf ou ut p1 p2) (fun u t => pO G [(h0, .inr (5, [.int num, .int ses, .long rol, .int opn, .int awl, .int aws, .int oct, .int ksf, .int ou, .ref tu, .ref tk])), (tu, .inl (G.2 0, 21, .inl u))] (va_A [(h0, .inr (5, [.int num, .int ses, .long rol, .int opn, .int awl, .int aws, .int oct, .int ksf, .int ou, .ref tu, .ref tk])), (tu, .inl (G.2 0, 21, .inl ut))] sz) t) (va_A [(h0, .inr (5, [.int num, .int ses, .long rol, .int opn, .int awl, .int aws, .int oct, .int ksf, .int ou, .ref tu, .ref tk])), (tu, .inl (G.2 0, 21, .inl ut))] sz)) 0 0 (va_A [(h0, .inr (5, [.int num, .int ses, .long rol, .int opn, .int awl, .int aws, .int oct, .int ksf, .int ou, .ref tu, .ref tk])), (tu, .inl (G.2 0, 21, .inl ut))] sz) := by
  refine Met.ofW (cc := cX3_setUsedTries) (maxL := 3) (ret := none) (by decide) rfl ?_
  intro p e s m args below meth c s₁ B hml hv
  obtain ⟨rfl, hsz, hP, hK, hD0⟩ := hv
  have hx := B.exec
  have hb := B.bytes
  have hr := B.returns
  have hts := atoms_spec (ws := wsX3_setUsedTries) B.pre
  have hown : s.vm.findClass RX3 = some m.cls := findClass_of_methodNamed B.named
  have hlocks := B.notSynchronized
  subst hsz
  have iX3 : ∀ w ∈ wsX30, w ∈ wsX3_setUsedTries := by decide +kernel
  have hD := hD0.self (sz := s.heap.size)
  generalize hAe : va_A [(h0, .inr (5, [.int num, .int ses, .long rol, .int opn, .int awl, .int aws, .int oct, .int ksf, .int ou, .ref tu, .ref tk])), (tu, .inl (G.2 0, 21, .inl ut))] s.heap.size = A at hD ⊢
  have hA : ∀ q : Nat, s.heap.size ≤ q → A q := fun q h => by rw [← hAe]; exact Or.inr h
  have hS : va_S A s.heap s.heap [] := va_S.rf
  have hP : va_P G.1 vwCl [(h0, .inr (5, [.int num, .int ses, .long rol, .int opn, .int awl, .int aws, .int oct, .int ksf, .int ou, .ref tu, .ref tk])), (tu, .inl (G.2 0, 21, .inl ut))] s.heap := hP
  have hl := lv_entry ([.ref h0, .int p1, .int p2]) (n := 3) (Nat.le_of_ble_eq_true rfl)
  rw [lg_entry_eq]
  generalize (lg_sl ([.ref h0, .int p1, .int p2]) ++ List.replicate (3 - (lg_sl ([.ref h0, .int p1, .int p2])).length) Slot.unset).toArray = ls at hl ⊢
  have hl : lv_has ls 3 [(0, .ref h0), (1, .int p1), (2, .int p2)] := hl
  have hF : F_X3_setUsedTries num ses rol opn awl aws oct ksf ou ut p1 p2 = F_X3_setUsedTries num ses rol opn awl aws oct ksf ou ut p1 p2 := rfl
  refine lv_iload_n hx hb dX3_setUsedTries_0 rfl (lv_at hl 1 rfl) ?_
  refine lv_if_lt (tgt := 20) hx hb dX3_setUsedTries_1 (by decide) (fun c_1 => ?_) (fun c_1 => ?_)
  · have hF := if_t hF c_1
    exact W.vret hx hb hr (fun t ht hW => ⟨⟨ut, rfl, hF.symm, by rw [ht]; exact hP.sub [0, 1] rfl, hD.sub [0, 1] (by decide) rfl⟩, hS.F ht⟩) hS.2.2 dX3_setUsedTries_20
  · have hF := if_f hF c_1
    refine lv_iload_n hx hb dX3_setUsedTries_4 rfl (lv_at hl 1 rfl) ?_
    refine lv_aload_n hx hb dX3_setUsedTries_5 rfl (lv_at hl 0 rfl) ?_
    refine va_get (D := G.1) (ci := 5) (v := .ref tu) (C := RX3) (T := TX3) (N := 11) hx hb hts iX3 hown hK.1 hP 0 rfl rfl 9 (by decide) (hts (.fieldLink RX3 27 "RightsSteps$Tester" "usedTries" "[I") (by decide +kernel)) (fun _ h9 => h9) rfl dX3_setUsedTries_6 ?_
    refine va_alen (v := 21) hx hb hK.1 hP 1 0 rfl rfl rfl dX3_setUsedTries_9 ?_
    refine lv_icmp_ge (tgt := 20) hx hb dX3_setUsedTries_10 (by decide) (fun c_10 => ?_) (fun c_10 => ?_)
    · have hF := if_t hF c_10
      exact W.vret hx hb hr (fun t ht hW => ⟨⟨ut, rfl, hF.symm, by rw [ht]; exact hP.sub [0, 1] rfl, hD.sub [0, 1] (by decide) rfl⟩, hS.F ht⟩) hS.2.2 dX3_setUsedTries_20
    · have hF := if_f hF c_10
      refine lv_aload_n hx hb dX3_setUsedTries_13 rfl (lv_at hl 0 rfl) ?_
      refine va_get (D := G.1) (ci := 5) (v := .ref tu) (C := RX3) (T := TX3) (N := 11) hx hb hts iX3 hown hK.1 hP 0 rfl rfl 9 (by decide) (hts (.fieldLink RX3 27 "RightsSteps$Tester" "usedTries" "[I") (by decide +kernel)) (fun _ h9 => h9) rfl dX3_setUsedTries_14 ?_
      refine lv_iload_n hx hb dX3_setUsedTries_17 rfl (lv_at hl 1 rfl) ?_
      refine lv_iload_n hx hb dX3_setUsedTries_18 rfl (lv_at hl 2 rfl) ?_
      refine va_iast (f := ut) hx hb hK.1 hP hD hS 1 0 rfl rfl (in_le c_1 c_10 rfl) dX3_setUsedTries_19 (fun H locs hP hD hS => ?_)
      have hP : va_P G.1 vwCl [(h0, .inr (5, [.int num, .int ses, .long rol, .int opn, .int awl, .int aws, .int oct, .int ksf, .int ou, .ref tu, .ref tk])), (tu, .inl (G.2 0, 21, .inl (upd ut (p1 : Int32).toNatClampNeg p2)))] H := hP
      have hD : va_D A [(h0, .inr (5, [.int num, .int ses, .long rol, .int opn, .int awl, .int aws, .int oct, .int ksf, .int ou, .ref tu, .ref tk])), (tu, .inl (G.2 0, 21, .inl (upd ut (p1 : Int32).toNatClampNeg p2)))] := hD
      exact W.vret hx hb hr (fun t ht hW => ⟨⟨(upd ut (p1 : Int32).toNatClampNeg p2), rfl, hF.symm, by rw [ht]; exact hP.sub [0, 1] rfl, hD.sub [0, 1] (by decide) rfl⟩, hS.F ht⟩) hS.2.2 dX3_setUsedTries_20

def F_X3_lockedUntil (num : Int32) (ses : Int32) (rol : Int64) (opn : Int32) (awl : Int32) (aws : Int32) (oct : Int32) (ksf : Int32) (ou : Int32) (lk : Nat → Int64) (p1 : Int32) : Int64 :=
  (if p1 < 0 then (-9223372036854775808) else (if p1 < 21 then (lk (p1 : Int32).toNatClampNeg) else (-9223372036854775808)))
set_option maxHeartbeats 4000000 in
set_option maxRecDepth 100000 in
theorem c_X3_lockedUntil (l : Launch) (G : gG) (h0 tk tu : Nat) (sz : Nat) (num : Int32) (ses : Int32) (rol : Int64) (opn : Int32) (awl : Int32) (aws : Int32) (oct : Int32) (ksf : Int32) (ou : Int32) (lk : Nat → Int64) (p1 : Int32) : Met l yX3_lockedUntil wsX3_lockedUntil ({ frames := 0, cells := 0, slots := 0, locals := 0 }) (va_Pc [.ref h0, .int p1] (pR G [(h0, .inr (5, [.int num, .int ses, .long rol, .int opn, .int awl, .int aws, .int oct, .int ksf, .int ou, .ref tu, .ref tk])), (tk, .inl (G.2 1, 21, .inr (.inl lk)))] sz)) (pQ (.long (F_X3_lockedUntil num ses rol opn awl aws oct ksf ou lk p1))) 0 0 (fun _ => False) := by
  refine Met.ofW (cc := cX3_lockedUntil) (maxL := 2) (ret := (some .long)) (by decide) rfl ?_
  intro p e s m args below meth c s₁ B hml hv
  obtain ⟨rfl, hsz, hP, hK, hD0⟩ := hv
  have hx := B.exec
  have hb := B.bytes
  have hr := B.returns
  have hts := atoms_spec (ws := wsX3_lockedUntil) B.pre
  have hown : s.vm.findClass RX3 = some m.cls := findClass_of_methodNamed B.named
  have hlocks := B.notSynchronized
  subst hsz
  have iX3 : ∀ w ∈ wsX30, w ∈ wsX3_lockedUntil := by decide +kernel
  have hD := hD0
  have hP : va_P G.1 vwCl [(h0, .inr (5, [.int num, .int ses, .long rol, .int opn, .int awl, .int aws, .int oct, .int ksf, .int ou, .ref tu, .ref tk])), (tk, .inl (G.2 1, 21, .inr (.inl lk)))] s.heap := hP
  have hl := lv_entry ([.ref h0, .int p1]) (n := 2) (Nat.le_of_ble_eq_true rfl)
  rw [lg_entry_eq]
  generalize (lg_sl ([.ref h0, .int p1]) ++ List.replicate (2 - (lg_sl ([.ref h0, .int p1])).length) Slot.unset).toArray = ls at hl ⊢
  have hl : lv_has ls 2 [(0, .ref h0), (1, .int p1)] := hl
  have hF : F_X3_lockedUntil num ses rol opn awl aws oct ksf ou lk p1 = F_X3_lockedUntil num ses rol opn awl aws oct ksf ou lk p1 := rfl
  refine lv_iload_n hx hb dX3_lockedUntil_0 rfl (lv_at hl 1 rfl) ?_
  refine lv_if_lt (tgt := 13) hx hb dX3_lockedUntil_1 (by decide) (fun c_1 => ?_) (fun c_1 => ?_)
  · have hF := if_t hF c_1
    refine lv_ldc2 (v := (-9223372036854775808)) hx hb hown (hts (.constantLong RX3 15 (-9223372036854775808)) (by decide +kernel)) dX3_lockedUntil_13 ?_
    refine lv_goto (tgt := 25) hx hb dX3_lockedUntil_16 (by decide) ?_
    exact W.lret (v := (-9223372036854775808)) hx hb hr (fun t ht hW => ⟨by rw [hF], ht⟩) (fun _ h => by cases h) dX3_lockedUntil_25
  · have hF := if_f hF c_1
    refine lv_iload_n hx hb dX3_lockedUntil_4 rfl (lv_at hl 1 rfl) ?_
    refine lv_aload_n hx hb dX3_lockedUntil_5 rfl (lv_at hl 0 rfl) ?_
    refine va_get (D := G.1) (ci := 5) (v := .ref tk) (C := RX3) (T := TX3) (N := 11) hx hb hts iX3 hown hK.1 hP 0 rfl rfl 10 (by decide) (hts (.fieldLink RX3 31 "RightsSteps$Tester" "lockedUntil" "[J") (by decide +kernel)) (fun _ h9 => h9) rfl dX3_lockedUntil_6 ?_
    refine va_alen (v := 21) hx hb hK.1 hP 1 1 rfl rfl rfl dX3_lockedUntil_9 ?_
    refine lv_icmp_lt (tgt := 19) hx hb dX3_lockedUntil_10 (by decide) (fun c_10 => ?_) (fun c_10 => ?_)
    · have hF := if_t hF c_10
      refine lv_aload_n hx hb dX3_lockedUntil_19 rfl (lv_at hl 0 rfl) ?_
      refine va_get (D := G.1) (ci := 5) (v := .ref tk) (C := RX3) (T := TX3) (N := 11) hx hb hts iX3 hown hK.1 hP 0 rfl rfl 10 (by decide) (hts (.fieldLink RX3 31 "RightsSteps$Tester" "lockedUntil" "[J") (by decide +kernel)) (fun _ h9 => h9) rfl dX3_lockedUntil_20 ?_
      refine lv_iload_n hx hb dX3_lockedUntil_23 rfl (lv_at hl 1 rfl) ?_
      refine va_lald (f := lk) hx hb hK.1 hP 1 1 rfl rfl (in_lo c_1 c_10 rfl) dX3_lockedUntil_24 ?_
      exact W.lret (v := (lk (p1 : Int32).toNatClampNeg)) hx hb hr (fun t ht hW => ⟨by rw [hF], ht⟩) (fun _ h => by cases h) dX3_lockedUntil_25
    · have hF := if_f hF c_10
      refine lv_ldc2 (v := (-9223372036854775808)) hx hb hown (hts (.constantLong RX3 15 (-9223372036854775808)) (by decide +kernel)) dX3_lockedUntil_13 ?_
      refine lv_goto (tgt := 25) hx hb dX3_lockedUntil_16 (by decide) ?_
      exact W.lret (v := (-9223372036854775808)) hx hb hr (fun t ht hW => ⟨by rw [hF], ht⟩) (fun _ h => by cases h) dX3_lockedUntil_25

def F_X3_lock (num : Int32) (ses : Int32) (rol : Int64) (opn : Int32) (awl : Int32) (aws : Int32) (oct : Int32) (ksf : Int32) (ou : Int32) (lk : Nat → Int64) (p1 : Int32) (p2 : Int64) : (Nat → Int64) :=
  (if p1 < 0 then lk else (if 21 ≤ p1 then lk else (vp_updL lk (p1 : Int32).toNatClampNeg p2)))
set_option maxHeartbeats 4000000 in
set_option maxRecDepth 100000 in
theorem c_X3_lock (l : Launch) (G : gG) (h0 tk tu : Nat) (sz : Nat) (num : Int32) (ses : Int32) (rol : Int64) (opn : Int32) (awl : Int32) (aws : Int32) (oct : Int32) (ksf : Int32) (ou : Int32) (lk : Nat → Int64) (p1 : Int32) (p2 : Int64) : Met l yX3_lock wsX3_lock ({ frames := 0, cells := 0, slots := 0, locals := 0 }) (va_Pc [.ref h0, .int p1, .long p2] (pR G [(h0, .inr (5, [.int num, .int ses, .long rol, .int opn, .int awl, .int aws, .int oct, .int ksf, .int ou, .ref tu, .ref tk])), (tk, .inl (G.2 1, 21, .inr (.inl lk)))] sz)) (va_Qv (fun (u : (Nat → Int64)) => u = F_X3_lock num ses rol opn awl aws oct ksf ou lk p1 p2) (fun u t => pO G [(h0, .inr (5, [.int num, .int ses, .long rol, .int opn, .int awl, .int aws, .int oct, .int ksf, .int ou, .ref tu, .ref tk])), (tk, .inl (G.2 1, 21, .inr (.inl u)))] (va_A [(h0, .inr (5, [.int num, .int ses, .long rol, .int opn, .int awl, .int aws, .int oct, .int ksf, .int ou, .ref tu, .ref tk])), (tk, .inl (G.2 1, 21, .inr (.inl lk)))] sz) t) (va_A [(h0, .inr (5, [.int num, .int ses, .long rol, .int opn, .int awl, .int aws, .int oct, .int ksf, .int ou, .ref tu, .ref tk])), (tk, .inl (G.2 1, 21, .inr (.inl lk)))] sz)) 0 0 (va_A [(h0, .inr (5, [.int num, .int ses, .long rol, .int opn, .int awl, .int aws, .int oct, .int ksf, .int ou, .ref tu, .ref tk])), (tk, .inl (G.2 1, 21, .inr (.inl lk)))] sz) := by
  refine Met.ofW (cc := cX3_lock) (maxL := 4) (ret := none) (by decide) rfl ?_
  intro p e s m args below meth c s₁ B hml hv
  obtain ⟨rfl, hsz, hP, hK, hD0⟩ := hv
  have hx := B.exec
  have hb := B.bytes
  have hr := B.returns
  have hts := atoms_spec (ws := wsX3_lock) B.pre
  have hown : s.vm.findClass RX3 = some m.cls := findClass_of_methodNamed B.named
  have hlocks := B.notSynchronized
  subst hsz
  have iX3 : ∀ w ∈ wsX30, w ∈ wsX3_lock := by decide +kernel
  have hD := hD0.self (sz := s.heap.size)
  generalize hAe : va_A [(h0, .inr (5, [.int num, .int ses, .long rol, .int opn, .int awl, .int aws, .int oct, .int ksf, .int ou, .ref tu, .ref tk])), (tk, .inl (G.2 1, 21, .inr (.inl lk)))] s.heap.size = A at hD ⊢
  have hA : ∀ q : Nat, s.heap.size ≤ q → A q := fun q h => by rw [← hAe]; exact Or.inr h
  have hS : va_S A s.heap s.heap [] := va_S.rf
  have hP : va_P G.1 vwCl [(h0, .inr (5, [.int num, .int ses, .long rol, .int opn, .int awl, .int aws, .int oct, .int ksf, .int ou, .ref tu, .ref tk])), (tk, .inl (G.2 1, 21, .inr (.inl lk)))] s.heap := hP
  have hl := lv_entry ([.ref h0, .int p1, .long p2]) (n := 4) (Nat.le_of_ble_eq_true rfl)
  rw [lg_entry_eq]
  generalize (lg_sl ([.ref h0, .int p1, .long p2]) ++ List.replicate (4 - (lg_sl ([.ref h0, .int p1, .long p2])).length) Slot.unset).toArray = ls at hl ⊢
  have hl : lv_has ls 4 [(0, .ref h0), (1, .int p1), (2, .long p2)] := hl
  have hF : F_X3_lock num ses rol opn awl aws oct ksf ou lk p1 p2 = F_X3_lock num ses rol opn awl aws oct ksf ou lk p1 p2 := rfl
  refine lv_iload_n hx hb dX3_lock_0 rfl (lv_at hl 1 rfl) ?_
  refine lv_if_lt (tgt := 20) hx hb dX3_lock_1 (by decide) (fun c_1 => ?_) (fun c_1 => ?_)
  · have hF := if_t hF c_1
    exact W.vret hx hb hr (fun t ht hW => ⟨⟨lk, rfl, hF.symm, by rw [ht]; exact hP.sub [0, 1] rfl, hD.sub [0, 1] (by decide) rfl⟩, hS.F ht⟩) hS.2.2 dX3_lock_20
  · have hF := if_f hF c_1
    refine lv_iload_n hx hb dX3_lock_4 rfl (lv_at hl 1 rfl) ?_
    refine lv_aload_n hx hb dX3_lock_5 rfl (lv_at hl 0 rfl) ?_
    refine va_get (D := G.1) (ci := 5) (v := .ref tk) (C := RX3) (T := TX3) (N := 11) hx hb hts iX3 hown hK.1 hP 0 rfl rfl 10 (by decide) (hts (.fieldLink RX3 31 "RightsSteps$Tester" "lockedUntil" "[J") (by decide +kernel)) (fun _ h9 => h9) rfl dX3_lock_6 ?_
    refine va_alen (v := 21) hx hb hK.1 hP 1 1 rfl rfl rfl dX3_lock_9 ?_
    refine lv_icmp_ge (tgt := 20) hx hb dX3_lock_10 (by decide) (fun c_10 => ?_) (fun c_10 => ?_)
    · have hF := if_t hF c_10
      exact W.vret hx hb hr (fun t ht hW => ⟨⟨lk, rfl, hF.symm, by rw [ht]; exact hP.sub [0, 1] rfl, hD.sub [0, 1] (by decide) rfl⟩, hS.F ht⟩) hS.2.2 dX3_lock_20
    · have hF := if_f hF c_10
      refine lv_aload_n hx hb dX3_lock_13 rfl (lv_at hl 0 rfl) ?_
      refine va_get (D := G.1) (ci := 5) (v := .ref tk) (C := RX3) (T := TX3) (N := 11) hx hb hts iX3 hown hK.1 hP 0 rfl rfl 10 (by decide) (hts (.fieldLink RX3 31 "RightsSteps$Tester" "lockedUntil" "[J") (by decide +kernel)) (fun _ h9 => h9) rfl dX3_lock_14 ?_
      refine lv_iload_n hx hb dX3_lock_17 rfl (lv_at hl 1 rfl) ?_
      refine lv_lload_n hx hb dX3_lock_18 rfl (lv_at hl 2 rfl) ?_
      refine va_last (f := lk) hx hb hK.1 hP hD hS 1 1 rfl rfl (in_le c_1 c_10 rfl) dX3_lock_19 (fun H locs hP hD hS => ?_)
      have hP : va_P G.1 vwCl [(h0, .inr (5, [.int num, .int ses, .long rol, .int opn, .int awl, .int aws, .int oct, .int ksf, .int ou, .ref tu, .ref tk])), (tk, .inl (G.2 1, 21, .inr (.inl (vp_updL lk (p1 : Int32).toNatClampNeg p2))))] H := hP
      have hD : va_D A [(h0, .inr (5, [.int num, .int ses, .long rol, .int opn, .int awl, .int aws, .int oct, .int ksf, .int ou, .ref tu, .ref tk])), (tk, .inl (G.2 1, 21, .inr (.inl (vp_updL lk (p1 : Int32).toNatClampNeg p2))))] := hD
      exact W.vret hx hb hr (fun t ht hW => ⟨⟨(vp_updL lk (p1 : Int32).toNatClampNeg p2), rfl, hF.symm, by rw [ht]; exact hP.sub [0, 1] rfl, hD.sub [0, 1] (by decide) rfl⟩, hS.F ht⟩) hS.2.2 dX3_lock_20

def F_X1_needsRole (lnum : Int32) (lkind : Int32) (ltries : Int32) (ldelay : Int64) : Int32 :=
  (if lnum ≤ 10 then 0 else 1)
set_option maxHeartbeats 4000000 in
set_option maxRecDepth 100000 in
theorem c_X1_needsRole (l : Launch) (G : gG) (h0 : Nat) (sz : Nat) (lnum : Int32) (lkind : Int32) (ltries : Int32) (ldelay : Int64) : Met l yX1_needsRole wsX1_needsRole ({ frames := 0, cells := 0, slots := 0, locals := 0 }) (va_Pc [.ref h0] (pR G [(h0, .inr (3, [.int lnum, .int lkind, .int ltries, .long ldelay]))] sz)) (pQ (.int (F_X1_needsRole lnum lkind ltries ldelay))) 0 0 (fun _ => False) := by
  refine Met.ofW (cc := cX1_needsRole) (maxL := 1) (ret := (some .boolean)) (by decide) rfl ?_
  intro p e s m args below meth c s₁ B hml hv
  obtain ⟨rfl, hsz, hP, hK, hD0⟩ := hv
  have hx := B.exec
  have hb := B.bytes
  have hr := B.returns
  have hts := atoms_spec (ws := wsX1_needsRole) B.pre
  have hown : s.vm.findClass RX1 = some m.cls := findClass_of_methodNamed B.named
  have hlocks := B.notSynchronized
  subst hsz
  have iX1 : ∀ w ∈ wsX10, w ∈ wsX1_needsRole := by decide +kernel
  have hD := hD0
  have hP : va_P G.1 vwCl [(h0, .inr (3, [.int lnum, .int lkind, .int ltries, .long ldelay]))] s.heap := hP
  have hl := lv_entry ([.ref h0]) (n := 1) (Nat.le_of_ble_eq_true rfl)
  rw [lg_entry_eq]
  generalize (lg_sl ([.ref h0]) ++ List.replicate (1 - (lg_sl ([.ref h0])).length) Slot.unset).toArray = ls at hl ⊢
  have hl : lv_has ls 1 [(0, .ref h0)] := hl
  have hF : F_X1_needsRole lnum lkind ltries ldelay = F_X1_needsRole lnum lkind ltries ldelay := rfl
  refine lv_aload_n hx hb dX1_needsRole_0 rfl (lv_at hl 0 rfl) ?_
  refine va_get (D := G.1) (ci := 3) (v := .int lnum) (C := RX1) (T := TX1) (N := 4) hx hb hts iX1 hown hK.1 hP 0 rfl rfl 0 (by decide) (hts (.fieldLink RX1 9 "RightsSteps$Level" "number" "I") (by decide +kernel)) (fun _ h9 => h9) rfl dX1_needsRole_1 ?_
  refine lv_bipush (v := 10) hx hb dX1_needsRole_4 (by decide) ?_
  refine lv_icmp_le (tgt := 13) hx hb dX1_needsRole_6 (by decide) (fun c_6 => ?_) (fun c_6 => ?_)
  · have hF := if_t hF c_6
    refine lv_iconst (v := 0) hx hb dX1_needsRole_13 (by decide) ?_
    exact W.zret (v := 0) (ty := .boolean) hx hb hr rfl (fun t ht hW => ⟨by rw [hF], ht⟩) (fun _ h => by cases h) dX1_needsRole_14
  · have hF := if_f hF c_6
    refine lv_iconst (v := 1) hx hb dX1_needsRole_9 (by decide) ?_
    refine lv_goto (tgt := 14) hx hb dX1_needsRole_10 (by decide) ?_
    exact W.zret (v := 1) (ty := .boolean) hx hb hr rfl (fun t ht hW => ⟨by rw [hF], ht⟩) (fun _ h => by cases h) dX1_needsRole_14

def F_X1_isForSession (lnum : Int32) (lkind : Int32) (ltries : Int32) (ldelay : Int64) (p1 : Int32) : Int32 :=
  (if p1 = 3 then 1 else (if p1 = 2 then (if 10 < lnum then 0 else 1) else 0))
set_option maxHeartbeats 4000000 in
set_option maxRecDepth 100000 in
theorem c_X1_isForSession (l : Launch) (G : gG) (h0 : Nat) (sz : Nat) (lnum : Int32) (lkind : Int32) (ltries : Int32) (ldelay : Int64) (p1 : Int32) : Met l yX1_isForSession wsX1_isForSession ({ frames := 0, cells := 0, slots := 0, locals := 0 }) (va_Pc [.ref h0, .int p1] (pR G [(h0, .inr (3, [.int lnum, .int lkind, .int ltries, .long ldelay]))] sz)) (pQ (.int (F_X1_isForSession lnum lkind ltries ldelay p1))) 0 0 (fun _ => False) := by
  refine Met.ofW (cc := cX1_isForSession) (maxL := 2) (ret := (some .boolean)) (by decide) rfl ?_
  intro p e s m args below meth c s₁ B hml hv
  obtain ⟨rfl, hsz, hP, hK, hD0⟩ := hv
  have hx := B.exec
  have hb := B.bytes
  have hr := B.returns
  have hts := atoms_spec (ws := wsX1_isForSession) B.pre
  have hown : s.vm.findClass RX1 = some m.cls := findClass_of_methodNamed B.named
  have hlocks := B.notSynchronized
  subst hsz
  have iX1 : ∀ w ∈ wsX10, w ∈ wsX1_isForSession := by decide +kernel
  have hD := hD0
  have hP : va_P G.1 vwCl [(h0, .inr (3, [.int lnum, .int lkind, .int ltries, .long ldelay]))] s.heap := hP
  have hl := lv_entry ([.ref h0, .int p1]) (n := 2) (Nat.le_of_ble_eq_true rfl)
  rw [lg_entry_eq]
  generalize (lg_sl ([.ref h0, .int p1]) ++ List.replicate (2 - (lg_sl ([.ref h0, .int p1])).length) Slot.unset).toArray = ls at hl ⊢
  have hl : lv_has ls 2 [(0, .ref h0), (1, .int p1)] := hl
  have hF : F_X1_isForSession lnum lkind ltries ldelay p1 = F_X1_isForSession lnum lkind ltries ldelay p1 := rfl
  refine lv_iload_n hx hb dX1_isForSession_0 rfl (lv_at hl 1 rfl) ?_
  refine lv_iconst (v := 3) hx hb dX1_isForSession_1 (by decide) ?_
  refine lv_icmp_eq (tgt := 19) hx hb dX1_isForSession_2 (by decide) (fun c_2 => ?_) (fun c_2 => ?_)
  · have hF := if_t hF c_2
    refine lv_iconst (v := 1) hx hb dX1_isForSession_19 (by decide) ?_
    refine lv_goto (tgt := 24) hx hb dX1_isForSession_20 (by decide) ?_
    exact W.zret (v := 1) (ty := .boolean) hx hb hr rfl (fun t ht hW => ⟨by rw [hF], ht⟩) (fun _ h => by cases h) dX1_isForSession_24
  · have hF := if_f hF c_2
    refine lv_iload_n hx hb dX1_isForSession_5 rfl (lv_at hl 1 rfl) ?_
    refine lv_iconst (v := 2) hx hb dX1_isForSession_6 (by decide) ?_
    refine lv_icmp_ne (tgt := 23) hx hb dX1_isForSession_7 (by decide) (fun c_7 => ?_) (fun c_7 => ?_)
    · have hF := if_f hF c_7
      refine lv_iconst (v := 0) hx hb dX1_isForSession_23 (by decide) ?_
      exact W.zret (v := 0) (ty := .boolean) hx hb hr rfl (fun t ht hW => ⟨by rw [hF], ht⟩) (fun _ h => by cases h) dX1_isForSession_24
    · have hF := if_t hF c_7
      refine lv_aload_n hx hb dX1_isForSession_10 rfl (lv_at hl 0 rfl) ?_
      refine va_get (D := G.1) (ci := 3) (v := .int lnum) (C := RX1) (T := TX1) (N := 4) hx hb hts iX1 hown hK.1 hP 0 rfl rfl 0 (by decide) (hts (.fieldLink RX1 9 "RightsSteps$Level" "number" "I") (by decide +kernel)) (fun _ h9 => h9) rfl dX1_isForSession_11 ?_
      refine lv_bipush (v := 10) hx hb dX1_isForSession_14 (by decide) ?_
      refine lv_icmp_gt (tgt := 23) hx hb dX1_isForSession_16 (by decide) (fun c_16 => ?_) (fun c_16 => ?_)
      · have hF := if_t hF c_16
        refine lv_iconst (v := 0) hx hb dX1_isForSession_23 (by decide) ?_
        exact W.zret (v := 0) (ty := .boolean) hx hb hr rfl (fun t ht hW => ⟨by rw [hF], ht⟩) (fun _ h => by cases h) dX1_isForSession_24
      · have hF := if_f hF c_16
        refine lv_iconst (v := 1) hx hb dX1_isForSession_19 (by decide) ?_
        refine lv_goto (tgt := 24) hx hb dX1_isForSession_20 (by decide) ?_
        exact W.zret (v := 1) (ty := .boolean) hx hb hr rfl (fun t ht hW => ⟨by rw [hF], ht⟩) (fun _ h => by cases h) dX1_isForSession_24

def FL_X1_shiftedKeyTo_9 (lnum : Int32) (lkind : Int32) (ltries : Int32) (ldelay : Int64) (p1 : Int32) : Nat → Int32 → Int32 → Int32
  | 0, _, _ => 0
  | n + 1, rest, k => (if 32 ≤ k then rest else (if (rest &&& 1) = 1 then (FL_X1_shiftedKeyTo_9 lnum lkind ltries ldelay p1 n ((((rest : Int32).toUInt32 >>> ((1 : Int32).toUInt32 &&& Int32.toUInt32 31)).toInt32) ^^^ (-306674912)) (k + 1)) else (FL_X1_shiftedKeyTo_9 lnum lkind ltries ldelay p1 n (((rest : Int32).toUInt32 >>> ((1 : Int32).toUInt32 &&& Int32.toUInt32 31)).toInt32) (k + 1))))
def F_X1_shiftedKeyTo (lnum : Int32) (lkind : Int32) (ltries : Int32) (ldelay : Int64) (p1 : Int32) : Int32 :=
  (FL_X1_shiftedKeyTo_9 lnum lkind ltries ldelay p1 34 (p1 ^^^ lnum) 0)
set_option maxHeartbeats 4000000 in
set_option maxRecDepth 100000 in
theorem c_X1_shiftedKeyTo (l : Launch) (G : gG) (h0 : Nat) (sz : Nat) (lnum : Int32) (lkind : Int32) (ltries : Int32) (ldelay : Int64) (p1 : Int32) : Met l yX1_shiftedKeyTo wsX1_shiftedKeyTo ({ frames := 0, cells := 0, slots := 0, locals := 0 }) (va_Pc [.ref h0, .int p1] (pR G [(h0, .inr (3, [.int lnum, .int lkind, .int ltries, .long ldelay]))] sz)) (pQ (.int (F_X1_shiftedKeyTo lnum lkind ltries ldelay p1))) 0 0 (fun _ => False) := by
  refine Met.ofW (cc := cX1_shiftedKeyTo) (maxL := 5) (ret := (some .int)) (by decide) rfl ?_
  intro p e s m args below meth c s₁ B hml hv
  obtain ⟨rfl, hsz, hP, hK, hD0⟩ := hv
  have hx := B.exec
  have hb := B.bytes
  have hr := B.returns
  have hts := atoms_spec (ws := wsX1_shiftedKeyTo) B.pre
  have hown : s.vm.findClass RX1 = some m.cls := findClass_of_methodNamed B.named
  have hlocks := B.notSynchronized
  subst hsz
  have iX1 : ∀ w ∈ wsX10, w ∈ wsX1_shiftedKeyTo := by decide +kernel
  have hD := hD0
  have hP : va_P G.1 vwCl [(h0, .inr (3, [.int lnum, .int lkind, .int ltries, .long ldelay]))] s.heap := hP
  have hl := lv_entry ([.ref h0, .int p1]) (n := 5) (Nat.le_of_ble_eq_true rfl)
  rw [lg_entry_eq]
  generalize (lg_sl ([.ref h0, .int p1]) ++ List.replicate (5 - (lg_sl ([.ref h0, .int p1])).length) Slot.unset).toArray = ls at hl ⊢
  have hl : lv_has ls 5 [(0, .ref h0), (1, .int p1)] := hl
  have hF : F_X1_shiftedKeyTo lnum lkind ltries ldelay p1 = F_X1_shiftedKeyTo lnum lkind ltries ldelay p1 := rfl
  refine lv_iload_n hx hb dX1_shiftedKeyTo_0 rfl (lv_at hl 1 rfl) ?_
  refine lv_aload_n hx hb dX1_shiftedKeyTo_1 rfl (lv_at hl 0 rfl) ?_
  refine va_get (D := G.1) (ci := 3) (v := .int lnum) (C := RX1) (T := TX1) (N := 4) hx hb hts iX1 hown hK.1 hP 0 rfl rfl 0 (by decide) (hts (.fieldLink RX1 9 "RightsSteps$Level" "number" "I") (by decide +kernel)) (fun _ h9 => h9) rfl dX1_shiftedKeyTo_2 ?_
  refine lv_ixor hx hb dX1_shiftedKeyTo_5 ?_
  refine lv_istore_n (lv' := [(2, .int (p1 ^^^ lnum)), (0, .ref h0), (1, .int p1)]) hx hb dX1_shiftedKeyTo_6 rfl hl (by decide) rfl (fun ls hl => ?_)
  refine lv_iconst (v := 0) hx hb dX1_shiftedKeyTo_7 (by decide) ?_
  refine lv_istore_n (lv' := [(3, .int 0), (2, .int (p1 ^^^ lnum)), (0, .ref h0), (1, .int p1)]) hx hb dX1_shiftedKeyTo_8 rfl hl (by decide) rfl (fun ls hl => ?_)
  refine W.loop (σ := Int32 × Int32) (fun (n : Nat) (v : Int32 × Int32) (H : Heap) (locs : List Loc) (ls : Array Slot) => (vp_in v.2 33) ∧ 33 < v.2.toNatClampNeg + n ∧ (F_X1_shiftedKeyTo lnum lkind ltries ldelay p1 = FL_X1_shiftedKeyTo_9 lnum lkind ltries ldelay p1 n v.1 v.2) ∧ H = s.heap ∧ locs = [] ∧ va_P G.1 vwCl [(h0, .inr (3, [.int lnum, .int lkind, .int ltries, .long ldelay]))] H ∧ lv_has ls 5 [(3, .int v.2), (2, .int v.1)]) ?_ ?_ 34 ((p1 ^^^ lnum), 0) ⟨(show vp_in 0 33 from vp_in_iff.mpr (by decide)), (show 33 < (0 : Int32).toNatClampNeg + 34 by decide), hF, rfl, rfl, hP, lv_sub hl [0, 1] rfl⟩
  · rintro ⟨rest, k⟩ H locs ls ⟨hi0, hi1, _, _, _, _, _⟩
    exact absurd (hi_lt hi0) (by omega)
  · rintro n ih ⟨rest, k⟩ H locs ls ⟨hi0, hi1, hF, rfl, rfl, hP, hl⟩
    have hP : va_P G.1 vwCl [(h0, .inr (3, [.int lnum, .int lkind, .int ltries, .long ldelay]))] s.heap := hP
    have hl : lv_has ls 5 [(3, .int k), (2, .int rest)] := hl
    have hF : F_X1_shiftedKeyTo lnum lkind ltries ldelay p1 = FL_X1_shiftedKeyTo_9 lnum lkind ltries ldelay p1 (n + 1) rest k := hF
    refine lv_iload_n hx hb dX1_shiftedKeyTo_9 rfl (lv_at hl 0 rfl) ?_
    refine lv_bipush (v := 32) hx hb dX1_shiftedKeyTo_10 (by decide) ?_
    refine lv_icmp_ge (tgt := 49) hx hb dX1_shiftedKeyTo_12 (by decide) (fun c_12 => ?_) (fun c_12 => ?_)
    · have hF := if_t hF c_12
      refine lv_iload_n hx hb dX1_shiftedKeyTo_49 rfl (lv_at hl 1 rfl) ?_
      exact W.iret (v := rest) hx hb hr (fun t ht hW => ⟨by rw [hF], ht⟩) (fun _ h => by cases h) dX1_shiftedKeyTo_50
    · have hF := if_f hF c_12
      refine lv_iload_n hx hb dX1_shiftedKeyTo_15 rfl (lv_at hl 1 rfl) ?_
      refine lv_iconst (v := 1) hx hb dX1_shiftedKeyTo_16 (by decide) ?_
      refine lv_iand hx hb dX1_shiftedKeyTo_17 ?_
      refine lv_iconst (v := 1) hx hb dX1_shiftedKeyTo_18 (by decide) ?_
      refine lv_icmp_ne (tgt := 26) hx hb dX1_shiftedKeyTo_19 (by decide) (fun c_19 => ?_) (fun c_19 => ?_)
      · have hF := if_f hF c_19
        refine lv_iconst (v := 0) hx hb dX1_shiftedKeyTo_26 (by decide) ?_
        refine lv_istore (lv' := [(4, .int 0), (3, .int k), (2, .int rest)]) hx hb dX1_shiftedKeyTo_27 hl (by decide) rfl (fun ls hl => ?_)
        refine lv_iload_n hx hb dX1_shiftedKeyTo_29 rfl (lv_at hl 2 rfl) ?_
        refine lv_iconst (v := 1) hx hb dX1_shiftedKeyTo_30 (by decide) ?_
        refine lv_iushr (v := (((rest : Int32).toUInt32 >>> ((1 : Int32).toUInt32 &&& Int32.toUInt32 31)).toInt32)) hx hb dX1_shiftedKeyTo_31 rfl ?_
        refine lv_istore_n (lv' := [(2, .int (((rest : Int32).toUInt32 >>> ((1 : Int32).toUInt32 &&& Int32.toUInt32 31)).toInt32)), (4, .int 0), (3, .int k)]) hx hb dX1_shiftedKeyTo_32 rfl hl (by decide) rfl (fun ls hl => ?_)
        refine lv_iload hx hb dX1_shiftedKeyTo_33 (lv_at hl 1 rfl) ?_
        refine lv_if_eq (tgt := 43) hx hb dX1_shiftedKeyTo_35 (by decide) (fun _ => ?_) (fun q => absurd (by decide) q)
        refine lv_iinc (v := (k + 1)) (lv' := [(3, .int (k + 1)), (2, .int (((rest : Int32).toUInt32 >>> ((1 : Int32).toUInt32 &&& Int32.toUInt32 31)).toInt32)), (4, .int 0)]) hx hb dX1_shiftedKeyTo_43 hl (k := 2) rfl rfl (by decide) rfl (fun ls hl => ?_)
        refine lv_goto (tgt := 9) hx hb dX1_shiftedKeyTo_46 (by decide) ?_
        exact ih ((((rest : Int32).toUInt32 >>> ((1 : Int32).toUInt32 &&& Int32.toUInt32 31)).toInt32), (k + 1)) _ _ _ ⟨(i_inc hi0 (i_not c_12) rfl), (by rw [i_incN hi0 (by decide)]; omega), hF, rfl, rfl, hP, lv_sub hl [0, 1] rfl⟩
      · have hF := if_t hF c_19
        refine lv_iconst (v := 1) hx hb dX1_shiftedKeyTo_22 (by decide) ?_
        refine lv_goto (tgt := 27) hx hb dX1_shiftedKeyTo_23 (by decide) ?_
        refine lv_istore (lv' := [(4, .int 1), (3, .int k), (2, .int rest)]) hx hb dX1_shiftedKeyTo_27 hl (by decide) rfl (fun ls hl => ?_)
        refine lv_iload_n hx hb dX1_shiftedKeyTo_29 rfl (lv_at hl 2 rfl) ?_
        refine lv_iconst (v := 1) hx hb dX1_shiftedKeyTo_30 (by decide) ?_
        refine lv_iushr (v := (((rest : Int32).toUInt32 >>> ((1 : Int32).toUInt32 &&& Int32.toUInt32 31)).toInt32)) hx hb dX1_shiftedKeyTo_31 rfl ?_
        refine lv_istore_n (lv' := [(2, .int (((rest : Int32).toUInt32 >>> ((1 : Int32).toUInt32 &&& Int32.toUInt32 31)).toInt32)), (4, .int 1), (3, .int k)]) hx hb dX1_shiftedKeyTo_32 rfl hl (by decide) rfl (fun ls hl => ?_)
        refine lv_iload hx hb dX1_shiftedKeyTo_33 (lv_at hl 1 rfl) ?_
        refine lv_if_eq (tgt := 43) hx hb dX1_shiftedKeyTo_35 (by decide) (fun q => absurd q (by decide)) (fun _ => ?_)
        refine lv_iload_n hx hb dX1_shiftedKeyTo_38 rfl (lv_at hl 0 rfl) ?_
        refine lv_ldc (v := (-306674912)) hx hb hown (hts (.constant RX1 31 (-306674912)) (by decide +kernel)) dX1_shiftedKeyTo_39 ?_
        refine lv_ixor hx hb dX1_shiftedKeyTo_41 ?_
        refine lv_istore_n (lv' := [(2, .int ((((rest : Int32).toUInt32 >>> ((1 : Int32).toUInt32 &&& Int32.toUInt32 31)).toInt32) ^^^ (-306674912))), (4, .int 1), (3, .int k)]) hx hb dX1_shiftedKeyTo_42 rfl hl (by decide) rfl (fun ls hl => ?_)
        refine lv_iinc (v := (k + 1)) (lv' := [(3, .int (k + 1)), (2, .int ((((rest : Int32).toUInt32 >>> ((1 : Int32).toUInt32 &&& Int32.toUInt32 31)).toInt32) ^^^ (-306674912))), (4, .int 1)]) hx hb dX1_shiftedKeyTo_43 hl (k := 2) rfl rfl (by decide) rfl (fun ls hl => ?_)
        refine lv_goto (tgt := 9) hx hb dX1_shiftedKeyTo_46 (by decide) ?_
        exact ih (((((rest : Int32).toUInt32 >>> ((1 : Int32).toUInt32 &&& Int32.toUInt32 31)).toInt32) ^^^ (-306674912)), (k + 1)) _ _ _ ⟨(i_inc hi0 (i_not c_12) rfl), (by rw [i_incN hi0 (by decide)]; omega), hF, rfl, rfl, hP, lv_sub hl [0, 1] rfl⟩

def F_X1_keyTo (lnum : Int32) (lkind : Int32) (ltries : Int32) (ldelay : Int64) (p1 : Int32) : Int32 :=
  (if lkind = 0 then (p1 ^^^ 1515870810) else (if lkind = 1 then ((((p1 <<< (7 &&& 31)) ||| (((p1 : Int32).toUInt32 >>> ((25 : Int32).toUInt32 &&& Int32.toUInt32 31)).toInt32)) * (-1640531535)) + lnum) else (F_X1_shiftedKeyTo lnum lkind ltries ldelay p1)))
set_option maxHeartbeats 4000000 in
set_option maxRecDepth 100000 in
theorem c_X1_keyTo (l : Launch) (G : gG) (h0 : Nat) (sz : Nat) (lnum : Int32) (lkind : Int32) (ltries : Int32) (ldelay : Int64) (p1 : Int32) : Met l yX1_keyTo wsX1_keyTo ({ frames := 1, cells := 0, slots := 0, locals := 24 }) (va_Pc [.ref h0, .int p1] (pR G [(h0, .inr (3, [.int lnum, .int lkind, .int ltries, .long ldelay]))] sz)) (pQ (.int (F_X1_keyTo lnum lkind ltries ldelay p1))) 0 0 (fun _ => False) := by
  refine Met.ofW (cc := cX1_keyTo) (maxL := 2) (ret := (some .int)) (by decide) rfl ?_
  intro p e s m args below meth c s₁ B hml hv
  obtain ⟨rfl, hsz, hP, hK, hD0⟩ := hv
  have hx := B.exec
  have hb := B.bytes
  have hr := B.returns
  have hts := atoms_spec (ws := wsX1_keyTo) B.pre
  have hown : s.vm.findClass RX1 = some m.cls := findClass_of_methodNamed B.named
  have hlocks := B.notSynchronized
  subst hsz
  have iX1 : ∀ w ∈ wsX10, w ∈ wsX1_keyTo := by decide +kernel
  have hD := hD0
  have hP : va_P G.1 vwCl [(h0, .inr (3, [.int lnum, .int lkind, .int ltries, .long ldelay]))] s.heap := hP
  have hl := lv_entry ([.ref h0, .int p1]) (n := 2) (Nat.le_of_ble_eq_true rfl)
  rw [lg_entry_eq]
  generalize (lg_sl ([.ref h0, .int p1]) ++ List.replicate (2 - (lg_sl ([.ref h0, .int p1])).length) Slot.unset).toArray = ls at hl ⊢
  have hl : lv_has ls 2 [(0, .ref h0), (1, .int p1)] := hl
  have hF : F_X1_keyTo lnum lkind ltries ldelay p1 = F_X1_keyTo lnum lkind ltries ldelay p1 := rfl
  refine lv_aload_n hx hb dX1_keyTo_0 rfl (lv_at hl 0 rfl) ?_
  refine va_get (D := G.1) (ci := 3) (v := .int lkind) (C := RX1) (T := TX1) (N := 4) hx hb hts iX1 hown hK.1 hP 0 rfl rfl 1 (by decide) (hts (.fieldLink RX1 15 "RightsSteps$Level" "kind" "I") (by decide +kernel)) (fun _ h9 => h9) rfl dX1_keyTo_1 ?_
  refine lv_if_ne (tgt := 12) hx hb dX1_keyTo_4 (by decide) (fun c_4 => ?_) (fun c_4 => ?_)
  · have hF := if_f hF c_4
    refine lv_aload_n hx hb dX1_keyTo_12 rfl (lv_at hl 0 rfl) ?_
    refine va_get (D := G.1) (ci := 3) (v := .int lkind) (C := RX1) (T := TX1) (N := 4) hx hb hts iX1 hown hK.1 hP 0 rfl rfl 1 (by decide) (hts (.fieldLink RX1 15 "RightsSteps$Level" "kind" "I") (by decide +kernel)) (fun _ h9 => h9) rfl dX1_keyTo_13 ?_
    refine lv_iconst (v := 1) hx hb dX1_keyTo_16 (by decide) ?_
    refine lv_icmp_ne (tgt := 38) hx hb dX1_keyTo_17 (by decide) (fun c_17 => ?_) (fun c_17 => ?_)
    · have hF := if_f hF c_17
      refine lv_aload_n hx hb dX1_keyTo_38 rfl (lv_at hl 0 rfl) ?_
      refine lv_iload_n hx hb dX1_keyTo_39 rfl (lv_at hl 1 rfl) ?_
      have hPc := hP.sub (ws' := [(h0, .inr (3, [.int lnum, .int lkind, .int ltries, .long ldelay]))]) [0] rfl
      have hDc := hD.sub (ws' := [(h0, .inr (3, [.int lnum, .int lkind, .int ltries, .long ldelay]))]) [0] (by decide) rfl
      refine pu_call (va_runV (As := [.int p1]) (rest := []) ⟨hx, hb, hml, hown, hts⟩ (c_X1_shiftedKeyTo l G h0 _ lnum lkind ltries ldelay p1) (cwV 1 hts gX1_keyTo_X1_shiftedKeyTo rfl rfl rfl (by decide +kernel) ⟨Nat.le_of_ble_eq_true rfl, Nat.le_of_ble_eq_true rfl⟩) (pR_V hK hPc hDc (q0 := 0) rfl rfl) rfl rfl hl.1 rfl (lv_room (Nat.le_of_ble_eq_true rfl)) dX1_keyTo_40 ⟨by decide, by decide⟩) ?_
      exact W.iret (v := (F_X1_shiftedKeyTo lnum lkind ltries ldelay p1)) hx hb hr (fun t ht hW => ⟨by rw [hF], ht⟩) (fun _ h => by cases h) dX1_keyTo_43
    · have hF := if_t hF c_17
      refine lv_iload_n hx hb dX1_keyTo_20 rfl (lv_at hl 1 rfl) ?_
      refine lv_bipush (v := 7) hx hb dX1_keyTo_21 (by decide) ?_
      refine lv_ishl hx hb dX1_keyTo_23 ?_
      refine lv_iload_n hx hb dX1_keyTo_24 rfl (lv_at hl 1 rfl) ?_
      refine lv_bipush (v := 25) hx hb dX1_keyTo_25 (by decide) ?_
      refine lv_iushr (v := (((p1 : Int32).toUInt32 >>> ((25 : Int32).toUInt32 &&& Int32.toUInt32 31)).toInt32)) hx hb dX1_keyTo_27 rfl ?_
      refine lv_ior hx hb dX1_keyTo_28 ?_
      refine lv_ldc (v := (-1640531535)) hx hb hown (hts (.constant RX1 26 (-1640531535)) (by decide +kernel)) dX1_keyTo_29 ?_
      refine lv_imul hx hb dX1_keyTo_31 ?_
      refine lv_aload_n hx hb dX1_keyTo_32 rfl (lv_at hl 0 rfl) ?_
      refine va_get (D := G.1) (ci := 3) (v := .int lnum) (C := RX1) (T := TX1) (N := 4) hx hb hts iX1 hown hK.1 hP 0 rfl rfl 0 (by decide) (hts (.fieldLink RX1 9 "RightsSteps$Level" "number" "I") (by decide +kernel)) (fun _ h9 => h9) rfl dX1_keyTo_33 ?_
      refine lv_iadd hx hb dX1_keyTo_36 ?_
      exact W.iret (v := ((((p1 <<< (7 &&& 31)) ||| (((p1 : Int32).toUInt32 >>> ((25 : Int32).toUInt32 &&& Int32.toUInt32 31)).toInt32)) * (-1640531535)) + lnum)) hx hb hr (fun t ht hW => ⟨by rw [hF], ht⟩) (fun _ h => by cases h) dX1_keyTo_37
  · have hF := if_t hF c_4
    refine lv_iload_n hx hb dX1_keyTo_7 rfl (lv_at hl 1 rfl) ?_
    refine lv_ldc (v := 1515870810) hx hb hown (hts (.constant RX1 25 (1515870810)) (by decide +kernel)) dX1_keyTo_8 ?_
    refine lv_ixor hx hb dX1_keyTo_10 ?_
    exact W.iret (v := (p1 ^^^ 1515870810)) hx hb hr (fun t ht hW => ⟨by rw [hF], ht⟩) (fun _ h => by cases h) dX1_keyTo_11

def F_X5_isPlain (p1 : Int32) : Int32 :=
  (if p1 = ((p1 &&& 255) * 16843009) then 1 else 0)
set_option maxHeartbeats 4000000 in
set_option maxRecDepth 100000 in
theorem c_X5_isPlain (l : Launch) (G : gG) (sz : Nat) (p1 : Int32) : Met l yX5_isPlain wsX5_isPlain ({ frames := 0, cells := 0, slots := 0, locals := 0 }) (va_Pc [.int p1] (pR G [] sz)) (pQ (.int (F_X5_isPlain p1))) 0 0 (fun _ => False) := by
  refine Met.ofW (cc := cX5_isPlain) (maxL := 1) (ret := (some .boolean)) (by decide) rfl ?_
  intro p e s m args below meth c s₁ B hml hv
  obtain ⟨rfl, hsz, hP, hK, hD0⟩ := hv
  have hx := B.exec
  have hb := B.bytes
  have hr := B.returns
  have hts := atoms_spec (ws := wsX5_isPlain) B.pre
  have hown : s.vm.findClass RX5 = some m.cls := findClass_of_methodNamed B.named
  have hlocks := B.notSynchronized
  subst hsz
  have hD := hD0
  have hP : va_P G.1 vwCl [] s.heap := hP
  have hl := lv_entry ([.int p1]) (n := 1) (Nat.le_of_ble_eq_true rfl)
  rw [lg_entry_eq]
  generalize (lg_sl ([.int p1]) ++ List.replicate (1 - (lg_sl ([.int p1])).length) Slot.unset).toArray = ls at hl ⊢
  have hl : lv_has ls 1 [(0, .int p1)] := hl
  have hF : F_X5_isPlain p1 = F_X5_isPlain p1 := rfl
  refine lv_iload_n hx hb dX5_isPlain_0 rfl (lv_at hl 0 rfl) ?_
  refine lv_iload_n hx hb dX5_isPlain_1 rfl (lv_at hl 0 rfl) ?_
  refine lv_sipush (v := 255) hx hb dX5_isPlain_2 (by decide) ?_
  refine lv_iand hx hb dX5_isPlain_5 ?_
  refine lv_ldc (v := 16843009) hx hb hown (hts (.constant RX5 190 (16843009)) (by decide +kernel)) dX5_isPlain_6 ?_
  refine lv_imul hx hb dX5_isPlain_8 ?_
  refine lv_icmp_ne (tgt := 16) hx hb dX5_isPlain_9 (by decide) (fun c_9 => ?_) (fun c_9 => ?_)
  · have hF := if_f hF c_9
    refine lv_iconst (v := 0) hx hb dX5_isPlain_16 (by decide) ?_
    exact W.zret (v := 0) (ty := .boolean) hx hb hr rfl (fun t ht hW => ⟨by rw [hF], ht⟩) (fun _ h => by cases h) dX5_isPlain_17
  · have hF := if_t hF c_9
    refine lv_iconst (v := 1) hx hb dX5_isPlain_12 (by decide) ?_
    refine lv_goto (tgt := 17) hx hb dX5_isPlain_13 (by decide) ?_
    exact W.zret (v := 1) (ty := .boolean) hx hb hr rfl (fun t ht hW => ⟨by rw [hF], ht⟩) (fun _ h => by cases h) dX5_isPlain_17

def FL_X5_countDigits_6 (p1 : Int64) : Nat → Int32 → Int64 → Int32
  | 0, _, _ => 0
  | n + 1, dg, pw => (if 0 < (lg_cmp pw p1) then dg else (if 10 ≤ dg then dg else (FL_X5_countDigits_6 p1 n (dg + 1) (pw * 10))))
def F_X5_countDigits (p1 : Int64) : Int32 :=
  (FL_X5_countDigits_6 p1 12 1 10)
set_option maxHeartbeats 4000000 in
set_option maxRecDepth 100000 in
theorem c_X5_countDigits (l : Launch) (G : gG) (sz : Nat) (p1 : Int64) : Met l yX5_countDigits wsX5_countDigits ({ frames := 0, cells := 0, slots := 0, locals := 0 }) (va_Pc [.long p1] (pR G [] sz)) (pQ (.int (F_X5_countDigits p1))) 0 0 (fun _ => False) := by
  refine Met.ofW (cc := cX5_countDigits) (maxL := 5) (ret := (some .int)) (by decide) rfl ?_
  intro p e s m args below meth c s₁ B hml hv
  obtain ⟨rfl, hsz, hP, hK, hD0⟩ := hv
  have hx := B.exec
  have hb := B.bytes
  have hr := B.returns
  have hts := atoms_spec (ws := wsX5_countDigits) B.pre
  have hown : s.vm.findClass RX5 = some m.cls := findClass_of_methodNamed B.named
  have hlocks := B.notSynchronized
  subst hsz
  have hD := hD0
  have hP : va_P G.1 vwCl [] s.heap := hP
  have hl := lv_entry ([.long p1]) (n := 5) (Nat.le_of_ble_eq_true rfl)
  rw [lg_entry_eq]
  generalize (lg_sl ([.long p1]) ++ List.replicate (5 - (lg_sl ([.long p1])).length) Slot.unset).toArray = ls at hl ⊢
  have hl : lv_has ls 5 [(0, .long p1)] := hl
  have hF : F_X5_countDigits p1 = F_X5_countDigits p1 := rfl
  refine lv_iconst (v := 1) hx hb dX5_countDigits_0 (by decide) ?_
  refine lv_istore_n (lv' := [(2, .int 1), (0, .long p1)]) hx hb dX5_countDigits_1 rfl hl (by decide) rfl (fun ls hl => ?_)
  refine lv_ldc2 (v := 10) hx hb hown (hts (.constantLong RX5 145 (10)) (by decide +kernel)) dX5_countDigits_2 ?_
  refine lv_lstore_n (lv' := [(3, .long 10), (2, .int 1), (0, .long p1)]) hx hb dX5_countDigits_5 rfl hl (by decide) rfl (fun ls hl => ?_)
  refine W.loop (σ := Int32 × Int64) (fun (n : Nat) (v : Int32 × Int64) (H : Heap) (locs : List Loc) (ls : Array Slot) => (vp_in v.1 11) ∧ 11 < v.1.toNatClampNeg + n ∧ (F_X5_countDigits p1 = FL_X5_countDigits_6 p1 n v.1 v.2) ∧ H = s.heap ∧ locs = [] ∧ va_P G.1 vwCl [] H ∧ lv_has ls 5 [(3, .long v.2), (2, .int v.1), (0, .long p1)]) ?_ ?_ 12 (1, 10) ⟨(show vp_in 1 11 from vp_in_iff.mpr (by decide)), (show 11 < (1 : Int32).toNatClampNeg + 12 by decide), hF, rfl, rfl, hP, lv_sub hl [0, 1, 2] rfl⟩
  · rintro ⟨dg, pw⟩ H locs ls ⟨hi0, hi1, _, _, _, _, _⟩
    exact absurd (hi_lt hi0) (by omega)
  · rintro n ih ⟨dg, pw⟩ H locs ls ⟨hi0, hi1, hF, rfl, rfl, hP, hl⟩
    have hP : va_P G.1 vwCl [] s.heap := hP
    have hl : lv_has ls 5 [(3, .long pw), (2, .int dg), (0, .long p1)] := hl
    have hF : F_X5_countDigits p1 = FL_X5_countDigits_6 p1 (n + 1) dg pw := hF
    refine lv_lload_n hx hb dX5_countDigits_6 rfl (lv_at hl 0 rfl) ?_
    refine lv_lload_n hx hb dX5_countDigits_7 rfl (lv_at hl 2 rfl) ?_
    refine W.lcmp hx hb dX5_countDigits_8 ?_
    refine lv_if_gt (tgt := 30) hx hb dX5_countDigits_9 (by decide) (fun c_9 => ?_) (fun c_9 => ?_)
    · have hF := if_t hF c_9
      refine lv_iload_n hx hb dX5_countDigits_30 rfl (lv_at hl 1 rfl) ?_
      exact W.iret (v := dg) hx hb hr (fun t ht hW => ⟨by rw [hF], ht⟩) (fun _ h => by cases h) dX5_countDigits_31
    · have hF := if_f hF c_9
      refine lv_iload_n hx hb dX5_countDigits_12 rfl (lv_at hl 1 rfl) ?_
      refine lv_bipush (v := 10) hx hb dX5_countDigits_13 (by decide) ?_
      refine lv_icmp_ge (tgt := 30) hx hb dX5_countDigits_15 (by decide) (fun c_15 => ?_) (fun c_15 => ?_)
      · have hF := if_t hF c_15
        refine lv_iload_n hx hb dX5_countDigits_30 rfl (lv_at hl 1 rfl) ?_
        exact W.iret (v := dg) hx hb hr (fun t ht hW => ⟨by rw [hF], ht⟩) (fun _ h => by cases h) dX5_countDigits_31
      · have hF := if_f hF c_15
        refine lv_iinc (v := (dg + 1)) (lv' := [(2, .int (dg + 1)), (3, .long pw), (0, .long p1)]) hx hb dX5_countDigits_18 hl (k := 1) rfl rfl (by decide) rfl (fun ls hl => ?_)
        refine lv_lload_n hx hb dX5_countDigits_21 rfl (lv_at hl 1 rfl) ?_
        refine lv_ldc2 (v := 10) hx hb hown (hts (.constantLong RX5 145 (10)) (by decide +kernel)) dX5_countDigits_22 ?_
        refine lv_lmul hx hb dX5_countDigits_25 ?_
        refine lv_lstore_n (lv' := [(3, .long (pw * 10)), (2, .int (dg + 1)), (0, .long p1)]) hx hb dX5_countDigits_26 rfl hl (by decide) rfl (fun ls hl => ?_)
        refine lv_goto (tgt := 6) hx hb dX5_countDigits_27 (by decide) ?_
        exact ih ((dg + 1), (pw * 10)) _ _ _ ⟨(i_inc hi0 (i_not c_15) rfl), (by rw [i_incN hi0 (by decide)]; omega), hF, rfl, rfl, hP, lv_sub hl [0, 1, 2] rfl⟩
end
