/-! the base: class ids and tables (KK), what a method meets (pR) and leaves (pO), reads that leave the heap alone (pQ), calls by their frame -/
abbrev gG : Type := va_G × (Nat → ClassId)
abbrev gT (G : gG) : List (ClassId × FieldType) := [(G.2 0, .int), (G.2 1, .long), (G.2 2, .boolean), (G.2 3, .object "RightsSteps$Level"), (G.2 4, .object "RightsSteps$Tester")]
def nst (U : State) : Prop := va_Nw (.fieldLinkNest RX5 128 "RightsSteps$UseLog" "count" "I" RX5) U ∧ va_Nw (.fieldLinkNest RX5 77 "RightsSteps$Tester" "number" "I" RX5) U ∧ va_Nw (.fieldLinkNest RX5 109 "RightsSteps$Tester" "session" "I" RX5) U ∧ va_Nw (.fieldLinkNest RX5 118 "RightsSteps$Tester" "roleUntil" "J" RX5) U ∧ va_Nw (.fieldLinkNest RX5 106 "RightsSteps$Tester" "openLevel" "I" RX5) U ∧ va_Nw (.fieldLinkNest RX5 164 "RightsSteps$Tester" "awaitedLevel" "I" RX5) U ∧ va_Nw (.fieldLinkNest RX5 167 "RightsSteps$Tester" "awaitedSeed" "I" RX5) U ∧ va_Nw (.fieldLinkNest RX5 93 "RightsSteps$Tester" "octets" "I" RX5) U ∧ va_Nw (.fieldLinkNest RX5 96 "RightsSteps$Tester" "keySoFar" "I" RX5) U ∧ va_Nw (.fieldLinkNest RX5 86 "RightsSteps$Tester" "out" "I" RX5) U ∧ va_Nw (.fieldLinkNest RX5 154 "RightsSteps$Level" "number" "I" RX5) U ∧ va_Nw (.fieldLinkNest RX5 180 "RightsSteps$Level" "tries" "I" RX5) U ∧ va_Nw (.fieldLinkNest RX5 183 "RightsSteps$Level" "delay" "J" RX5) U ∧ va_Nw (.methodLinkNest RX5 19 yX2_init RX5) U ∧ va_Nw (.methodLinkNest RX5 26 yX0_init RX5) U ∧ va_Nw (.methodLinkNest RX5 33 yX4_init RX5) U ∧ va_Nw (.methodLinkNest RX2 26 yX5_isPlain RX5) U
theorem nst.moved {s U : State} (hW : s.WarmedH U.vm) (h : nst s) : nst U := ⟨va_Nw.warmF hW h.1, va_Nw.warmF hW h.2.1, va_Nw.warmF hW h.2.2.1, va_Nw.warmF hW h.2.2.2.1, va_Nw.warmF hW h.2.2.2.2.1, va_Nw.warmF hW h.2.2.2.2.2.1, va_Nw.warmF hW h.2.2.2.2.2.2.1, va_Nw.warmF hW h.2.2.2.2.2.2.2.1, va_Nw.warmF hW h.2.2.2.2.2.2.2.2.1, va_Nw.warmF hW h.2.2.2.2.2.2.2.2.2.1, va_Nw.warmF hW h.2.2.2.2.2.2.2.2.2.2.1, va_Nw.warmF hW h.2.2.2.2.2.2.2.2.2.2.2.1, va_Nw.warmF hW h.2.2.2.2.2.2.2.2.2.2.2.2.1, va_Nw.warmM hW h.2.2.2.2.2.2.2.2.2.2.2.2.2.1, va_Nw.warmM hW h.2.2.2.2.2.2.2.2.2.2.2.2.2.2.1, va_Nw.warmM hW h.2.2.2.2.2.2.2.2.2.2.2.2.2.2.2.1, va_Nw.warmM hW h.2.2.2.2.2.2.2.2.2.2.2.2.2.2.2.2⟩
theorem nst.same {s U : State} (e : s.vm = U.vm) (h : nst s) : nst U := ⟨va_Nw.same rfl e h.1, va_Nw.same rfl e h.2.1, va_Nw.same rfl e h.2.2.1, va_Nw.same rfl e h.2.2.2.1, va_Nw.same rfl e h.2.2.2.2.1, va_Nw.same rfl e h.2.2.2.2.2.1, va_Nw.same rfl e h.2.2.2.2.2.2.1, va_Nw.same rfl e h.2.2.2.2.2.2.2.1, va_Nw.same rfl e h.2.2.2.2.2.2.2.2.1, va_Nw.same rfl e h.2.2.2.2.2.2.2.2.2.1, va_Nw.same rfl e h.2.2.2.2.2.2.2.2.2.2.1, va_Nw.same rfl e h.2.2.2.2.2.2.2.2.2.2.2.1, va_Nw.same rfl e h.2.2.2.2.2.2.2.2.2.2.2.2.1, va_Nw.same rfl e h.2.2.2.2.2.2.2.2.2.2.2.2.2.1, va_Nw.same rfl e h.2.2.2.2.2.2.2.2.2.2.2.2.2.2.1, va_Nw.same rfl e h.2.2.2.2.2.2.2.2.2.2.2.2.2.2.2.1, va_Nw.same rfl e h.2.2.2.2.2.2.2.2.2.2.2.2.2.2.2.2⟩
def KK (G : gG) (U : State) : Prop := va_K G.1 vwCl (gT G) U ∧ nst U
theorem KK.moved {G : gG} {s U : State} (hW : s.WarmedH U.vm) (h : KK G s) : KK G U := ⟨h.1.moved hW.alike, h.2.moved hW⟩
theorem KK.same {G : gG} {s U : State} (e : s.vm = U.vm) (h : KK G s) : KK G U := ⟨h.1.moved (by rw [e]; exact Vm.Alike.refl _), h.2.same e⟩
def pR (G : gG) (ws : va_W) (sz : Nat) (U : State) : Prop := U.heap.size = sz ∧ va_P G.1 vwCl ws U.heap ∧ KK G U ∧ va_D (fun _ => True) ws
def pO (G : gG) (ws : va_W) (A : Nat → Prop) (t : State) : Prop := va_P G.1 vwCl ws t.heap ∧ va_D A ws
def pQ (v : Value) : Array Value → State → Outcome → State → Prop := fun _ st oc t => oc = .returned (some v) ∧ t.heap = st.heap
theorem pR_blind {G : gG} {ws : va_W} {sz : Nat} {av : List Value} : FrameBlind (va_Pc av (pR G ws sz)) := fun a U g mk q => ⟨q.1, q.2.1, q.2.2.1, q.2.2.2.1.same (U := U.calling g mk a) rfl, q.2.2.2.2⟩
theorem pR_S {G : gG} {s : State} {H : Heap} {wc : va_W} {A : Nat → Prop} {As : List Value} (hK : KK G s) (hP : va_P G.1 vwCl wc H) (hD : va_D A wc) : PreS s H (va_Pc As (pR G wc H.size)) As :=
  ⟨pR_blind, fun U hU hW => ⟨rfl, by rw [hU], by rw [hU]; exact hP, hK.moved hW, hD.weaken (fun _ _ _ _ => trivial)⟩⟩
theorem pR_V {G : gG} {s : State} {H : Heap} {wc : va_W} {A : Nat → Prop} {As : List Value} {b q0 ci : Nat} {r : vw_C} {fs : List Value} (hK : KK G s) (hP : va_P G.1 vwCl wc H) (hD : va_D A wc) (he : wc[q0]? = some (b, .inr (ci, fs))) (hc : vwCl[ci]? = some r) : PreV s H r.1 b (va_Pc (.ref b :: As) (pR G wc H.size)) As :=
  ⟨pR_blind, va_recv hK.1 hP hc he, fun U hU hW => ⟨rfl, by rw [hU], by rw [hU]; exact hP, hK.moved hW, hD.weaken (fun _ _ _ _ => trivial)⟩⟩
theorem va_P.one {D : va_G} {cl : List vw_C} {ws : va_W} {H : Heap} (h : va_P D cl ws H) {q : Nat × va_E} (k : Nat) (hk : ws[k]? = some q) : va_P D cl [q] H := h.by (fun _ => k) (fun j x hx => by
  have hz : j < 1 := (List.getElem?_eq_some_iff.mp hx).1
  rw [show j = 0 by omega] at hx
  cases hx
  exact hk)
theorem va_D.one (q : Nat × va_E) : va_D (fun _ => True) [q] := ⟨fun i j x y hx hy _ => by
  have h1 : i < 1 := (List.getElem?_eq_some_iff.mp hx).1
  have h2 : j < 1 := (List.getElem?_eq_some_iff.mp hy).1
  omega, fun _ _ _ => trivial⟩
theorem pl_at {X pl : va_W} {q : Nat × va_E} (h : q ∈ pl) : ∃ k : Nat, (X ++ pl)[k]? = some q := List.getElem?_of_mem (List.mem_append_right X h)
-- the shape of what a method works out: a tree of its branches
def lz {α β : Type} (f : α) (g : α → β) : β := g f
theorem lz_e {α β : Type} {X : β} {f : α} {g : α → β} {z : α} (h : X = lz f g) (e : z = f) : X = g z := by subst e; exact h
def oc {β : Type} (x : Option Nat) (a : β) (b : Nat → β) : β := match x with
  | none => a
  | some y => b y
theorem oc_n {β : Type} {X : β} {x : Option Nat} {a : β} {b : Nat → β} (h : X = oc x a b) (e : x = none) : X = a := by subst e; exact h
theorem oc_s {β : Type} {X : β} {x : Option Nat} {a : β} {b : Nat → β} {y : Nat} (h : X = oc x a b) (e : x = some y) : X = b y := by subst e; exact h
theorem if_t {β : Type} {X : β} {c : Prop} [Decidable c] {a b : β} (h : X = if c then a else b) (e : c) : X = a := h.trans (if_pos e)
theorem if_f {β : Type} {X : β} {c : Prop} [Decidable c] {a b : β} (h : X = if c then a else b) (e : ¬ c) : X = b := h.trans (if_neg e)
section BASE
variable {p : Program} {l : Launch} {e : Env} {R : Room} {s : State} {m : MethodId} {args : Array Value} {below : List Frame} {meth : Method} {c : Code} {H : Heap} {locs : List Loc} {cells slots : Nat} {Q : State → Prop}
variable {pc : Nat} {ls : Array Slot} {rest st0 : List Value} {a : Array Value} {A0 : Nat → Prop} {H0 : Heap} {mc ms : Nat} {free : Addr → Prop} {G : gG}
theorem W.join {nL J : Nat} {lvm : List (Nat × Value)} {st : List Value} {g : JFrame} (br : (∀ ls : Array Slot, lv_has ls nL lvm → W p l e R s m args below meth c H locs cells slots Q (F0 m J ls st)) → W p l e R s m args below meth c H locs cells slots Q g)
    (k : ∀ ls : Array Slot, lv_has ls nL lvm → W p l e R s m args below meth c H locs cells slots Q (F0 m J ls st)) : W p l e R s m args below meth c H locs cells slots Q g := br k
theorem pu_call {v : Value} (hr : va_Run p l e R s m args below meth c H locs cells slots 0 0 (F0 m pc ls st0) rest (pQ v a) (fun _ => False))
    (kk : W p l e R s m args below meth c H locs cells slots Q (F0 m (pc + 3) ls (v :: rest))) : W p l e R s m args below meth c H locs cells slots Q (F0 m pc ls st0) := by
  intro T hT X
  obtain ⟨v', st₀, t, T', L, h0, X', hL, e1, e2, ⟨hv, hh⟩, st⟩ := hr T hT X
  cases hv
  obtain ⟨t2, a1, b1⟩ := kk T' (by rw [e1, hh, h0]) (Stand.forget X' (fun q h => (hL q h).elim))
  exact ⟨t2, st t2 a1, b1⟩
theorem cl_i {S : Type} {f : Int32 × S} {ws wc wr : va_W} {w1 : S → va_W} (hr : va_Run p l e R s m args below meth c H locs cells slots mc ms (F0 m pc ls st0) rest (va_Qi (fun r u => (r, u) = f) (fun u t => pO G (w1 u) (va_A (wc) H.size) t) (va_A (wc) H.size) a) (va_A (wc) H.size)) (hP : va_P G.1 vwCl (ws) H) (hD : va_D A0 (ws)) (hS : va_S A0 H0 H locs) (hA : ∀ q, H0.size ≤ q → A0 q) (isC isR : List Nat) (hC : isC.map (fun i => ws[i]?) = wc.map some) (hR : isR.map (fun i => ws[i]?) = wr.map some) (hn : va_nd isR = true) (hdis : ∀ i ∈ isR, i ∉ isC)
    (kk : ∀ (z : Int32 × S) (ez : z = f) (H1 : Heap) (locs1 : List Loc), va_P G.1 vwCl (wr ++ w1 (z.2)) H1 → va_D A0 (wr ++ w1 (z.2)) → va_S A0 H0 H1 locs1 → W p l e R s m args below meth c H1 locs1 (cells + mc) (slots + ms) Q (F0 m (pc + 3) ls (.int z.1 :: rest))) : W p l e R s m args below meth c H locs cells slots Q (F0 m pc ls st0) := by
  have hF : ∀ q, va_A (wc) H.size q → A0 q := va_free hD hS hA isC hC
  refine va_calli hr hS (fun q _ h => hF q h) hF (fun r u t H1 locs1 ht hvm hw hB hz1 hk1 hS1 => ?_)
  obtain ⟨hP1, hD1⟩ := hB
  rw [ht] at hP1
  obtain ⟨hP2, hD2⟩ := va_join hP hD isC isR hC hR hn hdis hk1 hF hP1 hD1
  have hz := hw
  exact kk (r, u) hz H1 locs1 hP2 hD2 hS1
theorem cl_l {S : Type} {f : Int64 × S} {ws wc wr : va_W} {w1 : S → va_W} (hr : va_Run p l e R s m args below meth c H locs cells slots mc ms (F0 m pc ls st0) rest (va_Ql (fun r u => (r, u) = f) (fun u t => pO G (w1 u) (va_A (wc) H.size) t) (va_A (wc) H.size) a) (va_A (wc) H.size)) (hP : va_P G.1 vwCl (ws) H) (hD : va_D A0 (ws)) (hS : va_S A0 H0 H locs) (hA : ∀ q, H0.size ≤ q → A0 q) (isC isR : List Nat) (hC : isC.map (fun i => ws[i]?) = wc.map some) (hR : isR.map (fun i => ws[i]?) = wr.map some) (hn : va_nd isR = true) (hdis : ∀ i ∈ isR, i ∉ isC)
    (kk : ∀ (z : Int64 × S) (ez : z = f) (H1 : Heap) (locs1 : List Loc), va_P G.1 vwCl (wr ++ w1 (z.2)) H1 → va_D A0 (wr ++ w1 (z.2)) → va_S A0 H0 H1 locs1 → W p l e R s m args below meth c H1 locs1 (cells + mc) (slots + ms) Q (F0 m (pc + 3) ls (.long z.1 :: rest))) : W p l e R s m args below meth c H locs cells slots Q (F0 m pc ls st0) := by
  have hF : ∀ q, va_A (wc) H.size q → A0 q := va_free hD hS hA isC hC
  refine va_calll hr hS (fun q _ h => hF q h) hF (fun r u t H1 locs1 ht hvm hw hB hz1 hk1 hS1 => ?_)
  obtain ⟨hP1, hD1⟩ := hB
  rw [ht] at hP1
  obtain ⟨hP2, hD2⟩ := va_join hP hD isC isR hC hR hn hdis hk1 hF hP1 hD1
  have hz := hw
  exact kk (r, u) hz H1 locs1 hP2 hD2 hS1
theorem cl_v {S : Type} {f : S} {ws wc wr : va_W} {w1 : S → va_W} (hr : va_Run p l e R s m args below meth c H locs cells slots mc ms (F0 m pc ls st0) rest (va_Qv (fun u => u = f) (fun u t => pO G (w1 u) (va_A (wc) H.size) t) (va_A (wc) H.size) a) (va_A (wc) H.size)) (hP : va_P G.1 vwCl (ws) H) (hD : va_D A0 (ws)) (hS : va_S A0 H0 H locs) (hA : ∀ q, H0.size ≤ q → A0 q) (isC isR : List Nat) (hC : isC.map (fun i => ws[i]?) = wc.map some) (hR : isR.map (fun i => ws[i]?) = wr.map some) (hn : va_nd isR = true) (hdis : ∀ i ∈ isR, i ∉ isC)
    (kk : ∀ (z : S) (ez : z = f) (H1 : Heap) (locs1 : List Loc), va_P G.1 vwCl (wr ++ w1 (z)) H1 → va_D A0 (wr ++ w1 (z)) → va_S A0 H0 H1 locs1 → W p l e R s m args below meth c H1 locs1 (cells + mc) (slots + ms) Q (F0 m (pc + 3) ls (rest))) : W p l e R s m args below meth c H locs cells slots Q (F0 m pc ls st0) := by
  have hF : ∀ q, va_A (wc) H.size q → A0 q := va_free hD hS hA isC hC
  refine va_callv hr hS (fun q _ h => hF q h) hF (fun u t H1 locs1 ht hvm hw hB hz1 hk1 hS1 => ?_)
  obtain ⟨hP1, hD1⟩ := hB
  rw [ht] at hP1
  obtain ⟨hP2, hD2⟩ := va_join hP hD isC isR hC hR hn hdis hk1 hF hP1 hD1
  have hz : u = f := hw
  exact kk u hz H1 locs1 hP2 hD2 hS1
theorem clq_i {S : Type} {f : Int32 × S} {X pl wc wr : va_W} {w1 : S → va_W} (hr : va_Run p l e R s m args below meth c H locs cells slots mc ms (F0 m pc ls st0) rest (va_Qi (fun r u => (r, u) = f) (fun u t => pO G (w1 u) (va_A (wc) H.size) t) (va_A (wc) H.size) a) (va_A (wc) H.size)) (hP : va_P G.1 vwCl (X ++ pl) H) (hD : va_D A0 (X ++ pl)) (hS : va_S A0 H0 H locs) (hA : ∀ q, H0.size ≤ q → A0 q) (isC isR : List Nat) (hC : isC.map (fun i => X[i]?) = wc.map some) (hR : isR.map (fun i => X[i]?) = wr.map some) (hn : va_nd isR = true) (hdis : ∀ i ∈ isR, i ∉ isC)
    (kk : ∀ (z : Int32 × S) (ez : z = f) (H1 : Heap) (locs1 : List Loc), va_P G.1 vwCl ((wr ++ w1 (z.2)) ++ pl) H1 → va_D A0 ((wr ++ w1 (z.2)) ++ pl) → va_S A0 H0 H1 locs1 → W p l e R s m args below meth c H1 locs1 (cells + mc) (slots + ms) Q (F0 m (pc + 3) ls (.int z.1 :: rest))) : W p l e R s m args below meth c H locs cells slots Q (F0 m pc ls st0) := by
  have hF : ∀ q, va_A (wc) H.size q → A0 q := fun q h => va_freeP (pl := pl) hD hS hA isC hC q (h.elim (fun ⟨k, e, hk⟩ => Or.inl ⟨k, e, by rw [List.getElem?_append_left (List.getElem?_eq_some_iff.mp hk).1]; exact hk⟩) Or.inr)
  refine va_calli hr hS (fun q _ h => hF q h) hF (fun r u t H1 locs1 ht hvm hw hB hz1 hk1 hS1 => ?_)
  obtain ⟨hP1, hD1⟩ := hB
  rw [ht] at hP1
  obtain ⟨hP2, hD2⟩ := va_joinQ hP hD isC isR hC hR hn hdis hk1 hF hP1 hD1
  have hz := hw
  exact kk (r, u) hz H1 locs1 hP2 hD2 hS1
theorem clq_l {S : Type} {f : Int64 × S} {X pl wc wr : va_W} {w1 : S → va_W} (hr : va_Run p l e R s m args below meth c H locs cells slots mc ms (F0 m pc ls st0) rest (va_Ql (fun r u => (r, u) = f) (fun u t => pO G (w1 u) (va_A (wc) H.size) t) (va_A (wc) H.size) a) (va_A (wc) H.size)) (hP : va_P G.1 vwCl (X ++ pl) H) (hD : va_D A0 (X ++ pl)) (hS : va_S A0 H0 H locs) (hA : ∀ q, H0.size ≤ q → A0 q) (isC isR : List Nat) (hC : isC.map (fun i => X[i]?) = wc.map some) (hR : isR.map (fun i => X[i]?) = wr.map some) (hn : va_nd isR = true) (hdis : ∀ i ∈ isR, i ∉ isC)
    (kk : ∀ (z : Int64 × S) (ez : z = f) (H1 : Heap) (locs1 : List Loc), va_P G.1 vwCl ((wr ++ w1 (z.2)) ++ pl) H1 → va_D A0 ((wr ++ w1 (z.2)) ++ pl) → va_S A0 H0 H1 locs1 → W p l e R s m args below meth c H1 locs1 (cells + mc) (slots + ms) Q (F0 m (pc + 3) ls (.long z.1 :: rest))) : W p l e R s m args below meth c H locs cells slots Q (F0 m pc ls st0) := by
  have hF : ∀ q, va_A (wc) H.size q → A0 q := fun q h => va_freeP (pl := pl) hD hS hA isC hC q (h.elim (fun ⟨k, e, hk⟩ => Or.inl ⟨k, e, by rw [List.getElem?_append_left (List.getElem?_eq_some_iff.mp hk).1]; exact hk⟩) Or.inr)
  refine va_calll hr hS (fun q _ h => hF q h) hF (fun r u t H1 locs1 ht hvm hw hB hz1 hk1 hS1 => ?_)
  obtain ⟨hP1, hD1⟩ := hB
  rw [ht] at hP1
  obtain ⟨hP2, hD2⟩ := va_joinQ hP hD isC isR hC hR hn hdis hk1 hF hP1 hD1
  have hz := hw
  exact kk (r, u) hz H1 locs1 hP2 hD2 hS1
theorem clq_v {S : Type} {f : S} {X pl wc wr : va_W} {w1 : S → va_W} (hr : va_Run p l e R s m args below meth c H locs cells slots mc ms (F0 m pc ls st0) rest (va_Qv (fun u => u = f) (fun u t => pO G (w1 u) (va_A (wc) H.size) t) (va_A (wc) H.size) a) (va_A (wc) H.size)) (hP : va_P G.1 vwCl (X ++ pl) H) (hD : va_D A0 (X ++ pl)) (hS : va_S A0 H0 H locs) (hA : ∀ q, H0.size ≤ q → A0 q) (isC isR : List Nat) (hC : isC.map (fun i => X[i]?) = wc.map some) (hR : isR.map (fun i => X[i]?) = wr.map some) (hn : va_nd isR = true) (hdis : ∀ i ∈ isR, i ∉ isC)
    (kk : ∀ (z : S) (ez : z = f) (H1 : Heap) (locs1 : List Loc), va_P G.1 vwCl ((wr ++ w1 (z)) ++ pl) H1 → va_D A0 ((wr ++ w1 (z)) ++ pl) → va_S A0 H0 H1 locs1 → W p l e R s m args below meth c H1 locs1 (cells + mc) (slots + ms) Q (F0 m (pc + 3) ls (rest))) : W p l e R s m args below meth c H locs cells slots Q (F0 m pc ls st0) := by
  have hF : ∀ q, va_A (wc) H.size q → A0 q := fun q h => va_freeP (pl := pl) hD hS hA isC hC q (h.elim (fun ⟨k, e, hk⟩ => Or.inl ⟨k, e, by rw [List.getElem?_append_left (List.getElem?_eq_some_iff.mp hk).1]; exact hk⟩) Or.inr)
  refine va_callv hr hS (fun q _ h => hF q h) hF (fun u t H1 locs1 ht hvm hw hB hz1 hk1 hS1 => ?_)
  obtain ⟨hP1, hD1⟩ := hB
  rw [ht] at hP1
  obtain ⟨hP2, hD2⟩ := va_joinQ hP hD isC isR hC hR hn hdis hk1 hF hP1 hD1
  have hz : u = f := hw
  exact kk u hz H1 locs1 hP2 hD2 hS1
theorem clp_i {S : Type} {f : Int32 × S} {X pl cx wr : va_W} {w1 pl1 : S → va_W} (hr : va_Run p l e R s m args below meth c H locs cells slots mc ms (F0 m pc ls st0) rest (va_Qi (fun r u => (r, u) = f) (fun u t => pO G (w1 u ++ pl1 u) (va_A (cx ++ pl) H.size) t) (va_A (cx ++ pl) H.size) a) (va_A (cx ++ pl) H.size)) (hP : va_P G.1 vwCl (X ++ pl) H) (hD : va_D A0 (X ++ pl)) (hS : va_S A0 H0 H locs) (hA : ∀ q, H0.size ≤ q → A0 q) (isC isR : List Nat) (hC : isC.map (fun i => X[i]?) = cx.map some) (hR : isR.map (fun i => X[i]?) = wr.map some) (hn : va_nd isR = true) (hdis : ∀ i ∈ isR, i ∉ isC)
    (kk : ∀ (z : Int32 × S) (ez : z = f) (H1 : Heap) (locs1 : List Loc), va_P G.1 vwCl ((wr ++ w1 (z.2)) ++ pl1 (z.2)) H1 → va_D A0 ((wr ++ w1 (z.2)) ++ pl1 (z.2)) → va_S A0 H0 H1 locs1 → W p l e R s m args below meth c H1 locs1 (cells + mc) (slots + ms) Q (F0 m (pc + 3) ls (.int z.1 :: rest))) : W p l e R s m args below meth c H locs cells slots Q (F0 m pc ls st0) := by
  have hF : ∀ q, va_A (cx ++ pl) H.size q → A0 q := va_freeP hD hS hA isC hC
  refine va_calli hr hS (fun q _ h => hF q h) hF (fun r u t H1 locs1 ht hvm hw hB hz1 hk1 hS1 => ?_)
  obtain ⟨hP1, hD1⟩ := hB
  rw [ht] at hP1
  obtain ⟨hP2, hD2⟩ := va_joinP hP hD isC isR hC hR hn hdis hk1 hF hP1 hD1
  have hz := hw
  exact kk (r, u) hz H1 locs1 hP2 hD2 hS1
theorem clp_l {S : Type} {f : Int64 × S} {X pl cx wr : va_W} {w1 pl1 : S → va_W} (hr : va_Run p l e R s m args below meth c H locs cells slots mc ms (F0 m pc ls st0) rest (va_Ql (fun r u => (r, u) = f) (fun u t => pO G (w1 u ++ pl1 u) (va_A (cx ++ pl) H.size) t) (va_A (cx ++ pl) H.size) a) (va_A (cx ++ pl) H.size)) (hP : va_P G.1 vwCl (X ++ pl) H) (hD : va_D A0 (X ++ pl)) (hS : va_S A0 H0 H locs) (hA : ∀ q, H0.size ≤ q → A0 q) (isC isR : List Nat) (hC : isC.map (fun i => X[i]?) = cx.map some) (hR : isR.map (fun i => X[i]?) = wr.map some) (hn : va_nd isR = true) (hdis : ∀ i ∈ isR, i ∉ isC)
    (kk : ∀ (z : Int64 × S) (ez : z = f) (H1 : Heap) (locs1 : List Loc), va_P G.1 vwCl ((wr ++ w1 (z.2)) ++ pl1 (z.2)) H1 → va_D A0 ((wr ++ w1 (z.2)) ++ pl1 (z.2)) → va_S A0 H0 H1 locs1 → W p l e R s m args below meth c H1 locs1 (cells + mc) (slots + ms) Q (F0 m (pc + 3) ls (.long z.1 :: rest))) : W p l e R s m args below meth c H locs cells slots Q (F0 m pc ls st0) := by
  have hF : ∀ q, va_A (cx ++ pl) H.size q → A0 q := va_freeP hD hS hA isC hC
  refine va_calll hr hS (fun q _ h => hF q h) hF (fun r u t H1 locs1 ht hvm hw hB hz1 hk1 hS1 => ?_)
  obtain ⟨hP1, hD1⟩ := hB
  rw [ht] at hP1
  obtain ⟨hP2, hD2⟩ := va_joinP hP hD isC isR hC hR hn hdis hk1 hF hP1 hD1
  have hz := hw
  exact kk (r, u) hz H1 locs1 hP2 hD2 hS1
theorem clp_v {S : Type} {f : S} {X pl cx wr : va_W} {w1 pl1 : S → va_W} (hr : va_Run p l e R s m args below meth c H locs cells slots mc ms (F0 m pc ls st0) rest (va_Qv (fun u => u = f) (fun u t => pO G (w1 u ++ pl1 u) (va_A (cx ++ pl) H.size) t) (va_A (cx ++ pl) H.size) a) (va_A (cx ++ pl) H.size)) (hP : va_P G.1 vwCl (X ++ pl) H) (hD : va_D A0 (X ++ pl)) (hS : va_S A0 H0 H locs) (hA : ∀ q, H0.size ≤ q → A0 q) (isC isR : List Nat) (hC : isC.map (fun i => X[i]?) = cx.map some) (hR : isR.map (fun i => X[i]?) = wr.map some) (hn : va_nd isR = true) (hdis : ∀ i ∈ isR, i ∉ isC)
    (kk : ∀ (z : S) (ez : z = f) (H1 : Heap) (locs1 : List Loc), va_P G.1 vwCl ((wr ++ w1 (z)) ++ pl1 (z)) H1 → va_D A0 ((wr ++ w1 (z)) ++ pl1 (z)) → va_S A0 H0 H1 locs1 → W p l e R s m args below meth c H1 locs1 (cells + mc) (slots + ms) Q (F0 m (pc + 3) ls (rest))) : W p l e R s m args below meth c H locs cells slots Q (F0 m pc ls st0) := by
  have hF : ∀ q, va_A (cx ++ pl) H.size q → A0 q := va_freeP hD hS hA isC hC
  refine va_callv hr hS (fun q _ h => hF q h) hF (fun u t H1 locs1 ht hvm hw hB hz1 hk1 hS1 => ?_)
  obtain ⟨hP1, hD1⟩ := hB
  rw [ht] at hP1
  obtain ⟨hP2, hD2⟩ := va_joinP hP hD isC isR hC hR hn hdis hk1 hF hP1 hD1
  have hz : u = f := hw
  exact kk u hz H1 locs1 hP2 hD2 hS1
theorem my_newa {cc : ByteArray} (hexec : p.tables.exec = Jvm.exec) (hb : c.code = cc) {atype : ArrayType} (harr : (Cond.arrayClass (newarray.typeOf atype)).before args s = true) {ty : FieldType} (hty : newarray.typeOf atype = ty) (hK : KK G s) {ws : va_W} (hP : va_P G.1 vwCl ws H) (hD : va_D A0 ws) (hS : va_S A0 H0 H locs) (hA : ∀ q, H0.size ≤ q → A0 q)
    (t0 : Nat) {cA : ClassId} (ht : (gT G)[t0]? = some (cA, ty)) (hnr : ∀ C, ty ≠ .object C) {n : Int32} {N' : Nat} {a0 : vp_A} (ha : ∀ cA : ClassId, vp_cell cA a0 = arrV cA N' (fun _ => defaultValue ty)) (hn : ¬ n < 0) (hN : n.toNatClampNeg = N') (hbytes : N' * componentBytes ty ≤ 536870912) (hcells : cells + 1 ≤ R.cells) (hslots : slots + N' ≤ R.slots) (hdg : decode cc pc = .ok (.newarray atype, 2))
    (kk : ∀ (q : Nat) (H1 : Heap), va_P G.1 vwCl (ws ++ [(q, .inl (cA, a0))]) H1 → va_D A0 (ws ++ [(q, .inl (cA, a0))]) → va_S A0 H0 H1 locs →
      W p l e R s m args below meth c H1 locs (cells + 1) (slots + N') Q (F0 m (pc + 2) ls (.ref q :: rest))) : W p l e R s m args below meth c H locs cells slots Q (F0 m pc ls (.int n :: rest)) := by
  refine va_newa hexec hb harr hty hK.1 hP hD hS hA ha hn hN hbytes hcells hslots hdg fun q cB H1 K1 P1 D1 S1 => ?_
  have e1 := (hK.1.2 t0 _ ht).2
  have e2 := (K1.2 (gT G).length (cB, ty) (by rw [List.getElem?_append_right (Nat.le_refl _), Nat.sub_self]; rfl)).2
  have e3 : cB = cA := by
    cases ty with
    | object C => exact absurd rfl (hnr C)
    | _ => exact Option.some.inj (e2.symm.trans e1)
  subst e3
  exact kk q H1 P1 D1 S1
theorem my_newq {cc : ByteArray} (hexec : p.tables.exec = Jvm.exec) (hb : c.code = cc) {own C : String} {index : Nat} (hown : s.vm.findClass own = some m.cls) (hclink : (Cond.classLink own index C).before args s = true) (hover : va_AO C s) (hK : KK G s) {ws : va_W} (hP : va_P G.1 vwCl ws H) (hD : va_D A0 ws) (hS : va_S A0 H0 H locs) (hA : ∀ q, H0.size ≤ q → A0 q)
    (t0 : Nat) {cA : ClassId} (ht : (gT G)[t0]? = some (cA, .object C)) {n : Int32} {N' : Nat} (hn : ¬ n < 0) (hN : n.toNatClampNeg = N') (hbytes : N' * 4 ≤ 536870912) (hcells : cells + 1 ≤ R.cells) (hslots : slots + N' ≤ R.slots) (hdg : decode cc pc = .ok (.anewarray index, 3))
    (kk : ∀ (q : Nat) (H1 : Heap), va_P G.1 vwCl (ws ++ [(q, .inl (cA, N', .inr (.inr (.inr (.inr (fun _ => none))))))]) H1 → va_D A0 (ws ++ [(q, .inl (cA, N', .inr (.inr (.inr (.inr (fun _ => none))))))]) → va_S A0 H0 H1 locs →
      W p l e R s m args below meth c H1 locs (cells + 1) (slots + N') Q (F0 m (pc + 3) ls (.ref q :: rest))) : W p l e R s m args below meth c H locs cells slots Q (F0 m pc ls (.int n :: rest)) := by
  refine va_newq hexec hb hown hclink hover hK.1 hP hD hS hA hn hN hbytes hcells hslots hdg fun q cB H1 K1 P1 D1 S1 => ?_
  obtain ⟨kA, comp, -, -, -, e1⟩ := (hK.1.2 t0 _ ht).2
  obtain ⟨kB, comp2, -, -, -, e2⟩ := (K1.2 (gT G).length (cB, .object C) (by rw [List.getElem?_append_right (Nat.le_refl _), Nat.sub_self]; rfl)).2
  have e3 : cB = cA := Option.some.inj (e2.symm.trans e1)
  subst e3
  exact kk q H1 P1 D1 S1
end BASE
-- indices within
theorem i_lt {x y : Int32} (h : x < y) : x.toInt < y.toInt := Int32.lt_iff_toInt_lt.mp h
theorem i_nlt {x y : Int32} (h : ¬ x < y) : y.toInt ≤ x.toInt := Int.not_lt.mp fun q => h (Int32.lt_iff_toInt_lt.mpr q)
theorem i_le {x y : Int32} (h : x ≤ y) : x.toInt ≤ y.toInt := Int32.le_iff_toInt_le.mp h
theorem i_nle {x y : Int32} (h : ¬ x ≤ y) : y.toInt < x.toInt := Int.not_le.mp fun q => h (Int32.le_iff_toInt_le.mpr q)
theorem in_lo {x M : Int32} {n : Nat} (h0 : ¬ x < 0) (h1 : x < M) (hM : M.toInt = n) : vp_in x n := vp_in_iff.mpr ⟨i_nlt h0, hM ▸ i_lt h1⟩
theorem in_le {x M : Int32} {n : Nat} (h0 : ¬ x < 0) (h1 : ¬ M ≤ x) (hM : M.toInt = n) : vp_in x n := vp_in_iff.mpr ⟨i_nlt h0, hM ▸ i_nle h1⟩
theorem in_lv {x : Int32} (h0 : ¬ x < 1) (h1 : ¬ 20 < x) : vp_in x 21 := by
  have a : (1 : Int) ≤ x.toInt := i_nlt h0
  have b : x.toInt ≤ 20 := i_nlt h1
  exact vp_in_iff.mpr ⟨by omega, by omega⟩
