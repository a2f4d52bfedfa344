/-! the base: class ids and tables (KK), what a method meets (pR) and leaves (pO), reads that leave the heap alone (pQ), calls by their frame -/
abbrev gG : Type := va_G × (Nat → ClassId)
abbrev gT (G : gG) : List (ClassId × FieldType) := [(G.2 0, .int), (G.2 1, .long), (G.2 2, .boolean), (G.2 3, .object "RightsSteps$Level"), (G.2 4, .object "RightsSteps$Tester")]
def nst (U : State) : Prop := va_Nw (.fieldLinkNest RX5 126 "RightsSteps$UseLog" "count" "I" RX5) U ∧ va_Nw (.fieldLinkNest RX5 75 "RightsSteps$Tester" "number" "I" RX5) U ∧ va_Nw (.fieldLinkNest RX5 107 "RightsSteps$Tester" "session" "I" RX5) U ∧ va_Nw (.fieldLinkNest RX5 116 "RightsSteps$Tester" "roleUntil" "J" RX5) U ∧ va_Nw (.fieldLinkNest RX5 104 "RightsSteps$Tester" "openLevel" "I" RX5) U ∧ va_Nw (.fieldLinkNest RX5 162 "RightsSteps$Tester" "awaitedLevel" "I" RX5) U ∧ va_Nw (.fieldLinkNest RX5 165 "RightsSteps$Tester" "awaitedSeed" "I" RX5) U ∧ va_Nw (.fieldLinkNest RX5 91 "RightsSteps$Tester" "octets" "I" RX5) U ∧ va_Nw (.fieldLinkNest RX5 94 "RightsSteps$Tester" "keySoFar" "I" RX5) U ∧ va_Nw (.fieldLinkNest RX5 84 "RightsSteps$Tester" "out" "I" RX5) U ∧ va_Nw (.fieldLinkNest RX5 152 "RightsSteps$Level" "number" "I" RX5) U ∧ va_Nw (.fieldLinkNest RX5 178 "RightsSteps$Level" "tries" "I" RX5) U ∧ va_Nw (.fieldLinkNest RX5 181 "RightsSteps$Level" "delay" "J" RX5) U ∧ va_Nw (.methodLinkNest RX5 17 yX2_init RX5) U ∧ va_Nw (.methodLinkNest RX5 24 yX0_init RX5) U ∧ va_Nw (.methodLinkNest RX5 31 yX4_init RX5) U ∧ va_Nw (.methodLinkNest RX2 26 yX5_isPlain RX5) U ∧ va_AO RX1 U ∧ va_AO RX3 U
theorem nst.moved {s U : State} (hW : s.WarmedH U.vm) (h : nst s) : nst U := ⟨va_Nw.warmF hW h.1, va_Nw.warmF hW h.2.1, va_Nw.warmF hW h.2.2.1, va_Nw.warmF hW h.2.2.2.1, va_Nw.warmF hW h.2.2.2.2.1, va_Nw.warmF hW h.2.2.2.2.2.1, va_Nw.warmF hW h.2.2.2.2.2.2.1, va_Nw.warmF hW h.2.2.2.2.2.2.2.1, va_Nw.warmF hW h.2.2.2.2.2.2.2.2.1, va_Nw.warmF hW h.2.2.2.2.2.2.2.2.2.1, va_Nw.warmF hW h.2.2.2.2.2.2.2.2.2.2.1, va_Nw.warmF hW h.2.2.2.2.2.2.2.2.2.2.2.1, va_Nw.warmF hW h.2.2.2.2.2.2.2.2.2.2.2.2.1, va_Nw.warmM hW h.2.2.2.2.2.2.2.2.2.2.2.2.2.1, va_Nw.warmM hW h.2.2.2.2.2.2.2.2.2.2.2.2.2.2.1, va_Nw.warmM hW h.2.2.2.2.2.2.2.2.2.2.2.2.2.2.2.1, va_Nw.warmM hW h.2.2.2.2.2.2.2.2.2.2.2.2.2.2.2.2.1, va_AO.moved hW.alike h.2.2.2.2.2.2.2.2.2.2.2.2.2.2.2.2.2.1, va_AO.moved hW.alike h.2.2.2.2.2.2.2.2.2.2.2.2.2.2.2.2.2.2⟩
theorem nst.same {s U : State} (e : s.vm = U.vm) (h : nst s) : nst U := ⟨va_Nw.same rfl e h.1, va_Nw.same rfl e h.2.1, va_Nw.same rfl e h.2.2.1, va_Nw.same rfl e h.2.2.2.1, va_Nw.same rfl e h.2.2.2.2.1, va_Nw.same rfl e h.2.2.2.2.2.1, va_Nw.same rfl e h.2.2.2.2.2.2.1, va_Nw.same rfl e h.2.2.2.2.2.2.2.1, va_Nw.same rfl e h.2.2.2.2.2.2.2.2.1, va_Nw.same rfl e h.2.2.2.2.2.2.2.2.2.1, va_Nw.same rfl e h.2.2.2.2.2.2.2.2.2.2.1, va_Nw.same rfl e h.2.2.2.2.2.2.2.2.2.2.2.1, va_Nw.same rfl e h.2.2.2.2.2.2.2.2.2.2.2.2.1, va_Nw.same rfl e h.2.2.2.2.2.2.2.2.2.2.2.2.2.1, va_Nw.same rfl e h.2.2.2.2.2.2.2.2.2.2.2.2.2.2.1, va_Nw.same rfl e h.2.2.2.2.2.2.2.2.2.2.2.2.2.2.2.1, va_Nw.same rfl e h.2.2.2.2.2.2.2.2.2.2.2.2.2.2.2.2.1, va_AO.moved (by rw [e]; exact Vm.Alike.refl _) h.2.2.2.2.2.2.2.2.2.2.2.2.2.2.2.2.2.1, va_AO.moved (by rw [e]; exact Vm.Alike.refl _) h.2.2.2.2.2.2.2.2.2.2.2.2.2.2.2.2.2.2⟩
def KK (G : gG) (U : State) : Prop := va_K G.1 vwCl (gT G) U ∧ nst U
theorem KK.moved {G : gG} {s U : State} (hW : s.WarmedH U.vm) (h : KK G s) : KK G U := ⟨h.1.moved hW.alike, h.2.moved hW⟩
theorem KK.same {G : gG} {s U : State} (e : s.vm = U.vm) (h : KK G s) : KK G U := ⟨h.1.moved (by rw [e]; exact Vm.Alike.refl _), h.2.same e⟩
def pR (G : gG) (ws : va_W) (sz : Nat) (U : State) : Prop := U.heap.size = sz ∧ va_P G.1 vwCl ws U.heap ∧ KK G U ∧ va_D (fun _ => True) ws
def pO (G : gG) (ws : va_W) (A : Nat → Prop) (t : State) : Prop := va_P G.1 vwCl ws t.heap ∧ va_D A ws
def pQ (v : Value) : Array Value → State → Outcome → State → Prop := fun _ st oc t => oc = .returned (some v) ∧ t.heap = st.heap
theorem pR_blind {G : gG} {ws : va_W} {sz : Nat} {av : List Value} : FrameBlind (va_Pc av (pR G ws sz)) := fun a U g mk q => ⟨q.1, q.2.1, q.2.2.1, q.2.2.2.1.same (U := U.calling g mk a) rfl, q.2.2.2.2⟩
theorem pR_S {G : gG} {s : State} {H : Heap} {wc : va_W} {A : Nat → Prop} {As : List Value} (hK : KK G s) (hP : va_P G.1 vwCl wc H) (hD : va_D A wc) : PreS s H (va_Pc As (pR G wc H.size)) As :=
  ⟨pR_blind, fun U hU hW => ⟨rfl, by rw [hU], by rw [hU]; exact hP, hK.moved hW, hD.weaken (fun _ _ _ _ => trivial)⟩⟩
theorem pR_V {G : gG} {s : State} {H : Heap} {wc : va_W} {A : Nat → Prop} {As : List Value} {b q0 ci : Nat} {r : vw_C} {fs : List Value} (hK : KK G s) (hP : va_P G.1 vwCl wc H) (hD : va_D A wc) (he : wc[q0]? = some (b, .inr (ci, fs))) (hc : vwCl[ci]? = some r) : PreV s H r.1 b (va_Pc (.ref b :: As) (pR G wc H.size)) As :=
  ⟨pR_blind, va_recv hK.1 hP hc he, fun U hU hW => ⟨rfl, by rw [hU], by rw [hU]; exact hP, hK.moved hW, hD.weaken (fun _ _ _ _ => trivial)⟩⟩
theorem va_P.one {D : va_G} {cl : List vw_C} {ws : va_W} {H : Heap} (h : va_P D cl ws H) {q : Nat × va_E} (k : Nat) (hk : ws[k]? = some q) : va_P D cl [q] H := h.by (fun _ => k) (fun j x hx => by
  have hz : j < 1 := (List.getElem?_eq_some_iff.mp hx).1
  rw [show j = 0 by omega] at hx
  cases hx
  exact hk)
theorem va_D.one (q : Nat × va_E) : va_D (fun _ => True) [q] := ⟨fun i j x y hx hy _ => by
  have h1 : i < 1 := (List.getElem?_eq_some_iff.mp hx).1
  have h2 : j < 1 := (List.getElem?_eq_some_iff.mp hy).1
  omega, fun _ _ _ => trivial⟩
theorem va_P.nil {D : va_G} {cl : List vw_C} {H : Heap} : va_P D cl [] H := fun k q h => by simp at h
theorem va_D.nil : va_D (fun _ => True) [] := ⟨fun i j x y h => by simp at h, fun k q h => by simp at h⟩
theorem va_P.pl {D : va_G} {cl : List vw_C} {X pl : va_W} {H : Heap} {q : Nat × va_E} (h : va_P D cl (X ++ pl) H) (hm : q ∈ pl) : va_P D cl [q] H := by
  obtain ⟨k, hk⟩ := List.getElem?_of_mem (List.mem_append_right X hm)
  exact h.one k hk
theorem pl_at {X pl : va_W} {q : Nat × va_E} (h : q ∈ pl) : ∃ k : Nat, (X ++ pl)[k]? = some q := List.getElem?_of_mem (List.mem_append_right X h)
-- the shape of what a method works out: a tree of its branches
def lz {α β : Type} (f : α) (g : α → β) : β := g f
theorem lz_e {α β : Type} {X : β} {f : α} {g : α → β} {z : α} (h : X = lz f g) (e : z = f) : X = g z := by subst e; exact h
def lz2 {α β γ : Type} (f : α × β) (g : α → β → γ) : γ := g f.1 f.2
theorem lz2_e {α β γ : Type} {X : γ} {f : α × β} {g : α → β → γ} {r : α} {u : β} (h : X = lz2 f g) (e : (r, u) = f) : X = g r u := by subst e; exact h
def oc {β : Type} (x : Option Nat) (a : β) (b : Nat → β) : β := match x with
  | none => a
  | some y => b y
theorem oc_n {β : Type} {X : β} {x : Option Nat} {a : β} {b : Nat → β} (h : X = oc x a b) (e : x = none) : X = a := by subst e; exact h
theorem oc_s {β : Type} {X : β} {x : Option Nat} {a : β} {b : Nat → β} {y : Nat} (h : X = oc x a b) (e : x = some y) : X = b y := by subst e; exact h
theorem if_t {β : Type} {X : β} {c : Prop} [Decidable c] {a b : β} (h : X = if c then a else b) (e : c) : X = a := h.trans (if_pos e)
theorem if_f {β : Type} {X : β} {c : Prop} [Decidable c] {a b : β} (h : X = if c then a else b) (e : ¬ c) : X = b := h.trans (if_neg e)
section BASE
variable {p : Program} {l : Launch} {e : Env} {R : Room} {s : State} {m : MethodId} {args : Array Value} {below : List Frame} {meth : Method} {c : Code} {H : Heap} {locs : List Loc} {cells slots : Nat} {Q : State → Prop}
variable {pc : Nat} {ls : Array Slot} {rest st0 : List Value} {a : Array Value} {A0 : Nat → Prop} {H0 : Heap} {mc ms : Nat} {free : Addr → Prop} {G : gG}
theorem W.join {nL J : Nat} {lvm : List (Nat × Value)} {st : List Value} {g : JFrame} (br : (∀ ls : Array Slot, lv_has ls nL lvm → W p l e R s m args below meth c H locs cells slots Q (F0 m J ls st)) → W p l e R s m args below meth c H locs cells slots Q g)
    (k : ∀ ls : Array Slot, lv_has ls nL lvm → W p l e R s m args below meth c H locs cells slots Q (F0 m J ls st)) : W p l e R s m args below meth c H locs cells slots Q g := br k
theorem W.loop {σ : Type} {J : Nat} {st : List Value} (I : Nat → σ → Heap → List Loc → Array Slot → Prop) (h0 : ∀ (v : σ) (H : Heap) (locs : List Loc) (ls : Array Slot), ¬ I 0 v H locs ls)
    (hs : ∀ n : Nat, (∀ (v : σ) (H : Heap) (locs : List Loc) (ls : Array Slot), I n v H locs ls → W p l e R s m args below meth c H locs cells slots Q (F0 m J ls st)) → ∀ (v : σ) (H : Heap) (locs : List Loc) (ls : Array Slot), I (n + 1) v H locs ls → W p l e R s m args below meth c H locs cells slots Q (F0 m J ls st))
    (n : Nat) (v : σ) (hI : I n v H locs ls) : W p l e R s m args below meth c H locs cells slots Q (F0 m J ls st) := by
  have key : ∀ (n : Nat) (v : σ) (H : Heap) (locs : List Loc) (ls : Array Slot), I n v H locs ls → W p l e R s m args below meth c H locs cells slots Q (F0 m J ls st) := by
    intro n
    induction n with
    | zero => exact fun v H locs ls h => absurd h (h0 v H locs ls)
    | succ n ih => exact hs n ih
  exact key n v H locs ls hI
theorem pu_call {v : Value} (hr : va_Run p l e R s m args below meth c H locs cells slots 0 0 (F0 m pc ls st0) rest (pQ v a) (fun _ => False))
    (kk : W p l e R s m args below meth c H locs cells slots Q (F0 m (pc + 3) ls (v :: rest))) : W p l e R s m args below meth c H locs cells slots Q (F0 m pc ls st0) := by
  intro T hT X
  obtain ⟨v', st₀, t, T', L, h0, X', hL, e1, e2, ⟨hv, hh⟩, st⟩ := hr T hT X
  cases hv
  obtain ⟨t2, a1, b1⟩ := kk T' (by rw [e1, hh, h0]) (Stand.forget X' (fun q h => (hL q h).elim))
  exact ⟨t2, st t2 a1, b1⟩
theorem cl_i {S : Type} {post : Int32 → S → Prop} {ws wc wr : va_W} {w1 : S → va_W} (hr : va_Run p l e R s m args below meth c H locs cells slots mc ms (F0 m pc ls st0) rest (va_Qi post (fun u t => pO G (w1 u) (va_A (wc) H.size) t) (va_A (wc) H.size) a) (va_A (wc) H.size)) (hP : va_P G.1 vwCl (ws) H) (hD : va_D A0 (ws)) (hS : va_S A0 H0 H locs) (hA : ∀ q, H0.size ≤ q → A0 q) (isC isR : List Nat) (hC : isC.map (fun i => ws[i]?) = wc.map some) (hR : isR.map (fun i => ws[i]?) = wr.map some) (hn : va_nd isR = true) (hdis : ∀ i ∈ isR, i ∉ isC)
    (kk : ∀ (r : Int32) (u : S) (ez : post r u) (H1 : Heap) (locs1 : List Loc), va_P G.1 vwCl (wr ++ w1 u) H1 → va_D A0 (wr ++ w1 u) → va_S A0 H0 H1 locs1 → W p l e R s m args below meth c H1 locs1 (cells + mc) (slots + ms) Q (F0 m (pc + 3) ls (.int r :: rest))) : W p l e R s m args below meth c H locs cells slots Q (F0 m pc ls st0) := by
  have hF : ∀ q, va_A (wc) H.size q → A0 q := va_free hD hS hA isC hC
  refine va_calli hr hS (fun q _ h => hF q h) hF (fun r u t H1 locs1 ht hvm hw hB hz1 hk1 hS1 => ?_)
  obtain ⟨hP1, hD1⟩ := hB
  rw [ht] at hP1
  obtain ⟨hP2, hD2⟩ := va_join hP hD isC isR hC hR hn hdis hk1 hF hP1 hD1
  exact kk r u hw H1 locs1 hP2 hD2 hS1
theorem cl_l {S : Type} {post : Int64 → S → Prop} {ws wc wr : va_W} {w1 : S → va_W} (hr : va_Run p l e R s m args below meth c H locs cells slots mc ms (F0 m pc ls st0) rest (va_Ql post (fun u t => pO G (w1 u) (va_A (wc) H.size) t) (va_A (wc) H.size) a) (va_A (wc) H.size)) (hP : va_P G.1 vwCl (ws) H) (hD : va_D A0 (ws)) (hS : va_S A0 H0 H locs) (hA : ∀ q, H0.size ≤ q → A0 q) (isC isR : List Nat) (hC : isC.map (fun i => ws[i]?) = wc.map some) (hR : isR.map (fun i => ws[i]?) = wr.map some) (hn : va_nd isR = true) (hdis : ∀ i ∈ isR, i ∉ isC)
    (kk : ∀ (r : Int64) (u : S) (ez : post r u) (H1 : Heap) (locs1 : List Loc), va_P G.1 vwCl (wr ++ w1 u) H1 → va_D A0 (wr ++ w1 u) → va_S A0 H0 H1 locs1 → W p l e R s m args below meth c H1 locs1 (cells + mc) (slots + ms) Q (F0 m (pc + 3) ls (.long r :: rest))) : W p l e R s m args below meth c H locs cells slots Q (F0 m pc ls st0) := by
  have hF : ∀ q, va_A (wc) H.size q → A0 q := va_free hD hS hA isC hC
  refine va_calll hr hS (fun q _ h => hF q h) hF (fun r u t H1 locs1 ht hvm hw hB hz1 hk1 hS1 => ?_)
  obtain ⟨hP1, hD1⟩ := hB
  rw [ht] at hP1
  obtain ⟨hP2, hD2⟩ := va_join hP hD isC isR hC hR hn hdis hk1 hF hP1 hD1
  exact kk r u hw H1 locs1 hP2 hD2 hS1
theorem cl_v {S : Type} {post : S → Prop} {ws wc wr : va_W} {w1 : S → va_W} (hr : va_Run p l e R s m args below meth c H locs cells slots mc ms (F0 m pc ls st0) rest (va_Qv post (fun u t => pO G (w1 u) (va_A (wc) H.size) t) (va_A (wc) H.size) a) (va_A (wc) H.size)) (hP : va_P G.1 vwCl (ws) H) (hD : va_D A0 (ws)) (hS : va_S A0 H0 H locs) (hA : ∀ q, H0.size ≤ q → A0 q) (isC isR : List Nat) (hC : isC.map (fun i => ws[i]?) = wc.map some) (hR : isR.map (fun i => ws[i]?) = wr.map some) (hn : va_nd isR = true) (hdis : ∀ i ∈ isR, i ∉ isC)
    (kk : ∀ (u : S) (ez : post u) (H1 : Heap) (locs1 : List Loc), va_P G.1 vwCl (wr ++ w1 u) H1 → va_D A0 (wr ++ w1 u) → va_S A0 H0 H1 locs1 → W p l e R s m args below meth c H1 locs1 (cells + mc) (slots + ms) Q (F0 m (pc + 3) ls (rest))) : W p l e R s m args below meth c H locs cells slots Q (F0 m pc ls st0) := by
  have hF : ∀ q, va_A (wc) H.size q → A0 q := va_free hD hS hA isC hC
  refine va_callv hr hS (fun q _ h => hF q h) hF (fun u t H1 locs1 ht hvm hw hB hz1 hk1 hS1 => ?_)
  obtain ⟨hP1, hD1⟩ := hB
  rw [ht] at hP1
  obtain ⟨hP2, hD2⟩ := va_join hP hD isC isR hC hR hn hdis hk1 hF hP1 hD1
  exact kk u hw H1 locs1 hP2 hD2 hS1
theorem clq_i {S : Type} {post : Int32 → S → Prop} {X pl wc wr : va_W} {w1 : S → va_W} (hr : va_Run p l e R s m args below meth c H locs cells slots mc ms (F0 m pc ls st0) rest (va_Qi post (fun u t => pO G (w1 u) (va_A (wc) H.size) t) (va_A (wc) H.size) a) (va_A (wc) H.size)) (hP : va_P G.1 vwCl (X ++ pl) H) (hD : va_D A0 (X ++ pl)) (hS : va_S A0 H0 H locs) (hA : ∀ q, H0.size ≤ q → A0 q) (isC isR : List Nat) (hC : isC.map (fun i => X[i]?) = wc.map some) (hR : isR.map (fun i => X[i]?) = wr.map some) (hn : va_nd isR = true) (hdis : ∀ i ∈ isR, i ∉ isC)
    (kk : ∀ (r : Int32) (u : S) (ez : post r u) (H1 : Heap) (locs1 : List Loc), va_P G.1 vwCl ((wr ++ w1 u) ++ pl) H1 → va_D A0 ((wr ++ w1 u) ++ pl) → va_S A0 H0 H1 locs1 → W p l e R s m args below meth c H1 locs1 (cells + mc) (slots + ms) Q (F0 m (pc + 3) ls (.int r :: rest))) : W p l e R s m args below meth c H locs cells slots Q (F0 m pc ls st0) := by
  have hF : ∀ q, va_A (wc) H.size q → A0 q := fun q h => va_freeP (pl := pl) hD hS hA isC hC q (h.elim (fun ⟨k, e, hk⟩ => Or.inl ⟨k, e, by rw [List.getElem?_append_left (List.getElem?_eq_some_iff.mp hk).1]; exact hk⟩) Or.inr)
  refine va_calli hr hS (fun q _ h => hF q h) hF (fun r u t H1 locs1 ht hvm hw hB hz1 hk1 hS1 => ?_)
  obtain ⟨hP1, hD1⟩ := hB
  rw [ht] at hP1
  obtain ⟨hP2, hD2⟩ := va_joinQ hP hD isC isR hC hR hn hdis hk1 hF hP1 hD1
  exact kk r u hw H1 locs1 hP2 hD2 hS1
theorem clq_l {S : Type} {post : Int64 → S → Prop} {X pl wc wr : va_W} {w1 : S → va_W} (hr : va_Run p l e R s m args below meth c H locs cells slots mc ms (F0 m pc ls st0) rest (va_Ql post (fun u t => pO G (w1 u) (va_A (wc) H.size) t) (va_A (wc) H.size) a) (va_A (wc) H.size)) (hP : va_P G.1 vwCl (X ++ pl) H) (hD : va_D A0 (X ++ pl)) (hS : va_S A0 H0 H locs) (hA : ∀ q, H0.size ≤ q → A0 q) (isC isR : List Nat) (hC : isC.map (fun i => X[i]?) = wc.map some) (hR : isR.map (fun i => X[i]?) = wr.map some) (hn : va_nd isR = true) (hdis : ∀ i ∈ isR, i ∉ isC)
    (kk : ∀ (r : Int64) (u : S) (ez : post r u) (H1 : Heap) (locs1 : List Loc), va_P G.1 vwCl ((wr ++ w1 u) ++ pl) H1 → va_D A0 ((wr ++ w1 u) ++ pl) → va_S A0 H0 H1 locs1 → W p l e R s m args below meth c H1 locs1 (cells + mc) (slots + ms) Q (F0 m (pc + 3) ls (.long r :: rest))) : W p l e R s m args below meth c H locs cells slots Q (F0 m pc ls st0) := by
  have hF : ∀ q, va_A (wc) H.size q → A0 q := fun q h => va_freeP (pl := pl) hD hS hA isC hC q (h.elim (fun ⟨k, e, hk⟩ => Or.inl ⟨k, e, by rw [List.getElem?_append_left (List.getElem?_eq_some_iff.mp hk).1]; exact hk⟩) Or.inr)
  refine va_calll hr hS (fun q _ h => hF q h) hF (fun r u t H1 locs1 ht hvm hw hB hz1 hk1 hS1 => ?_)
  obtain ⟨hP1, hD1⟩ := hB
  rw [ht] at hP1
  obtain ⟨hP2, hD2⟩ := va_joinQ hP hD isC isR hC hR hn hdis hk1 hF hP1 hD1
  exact kk r u hw H1 locs1 hP2 hD2 hS1
theorem clq_v {S : Type} {post : S → Prop} {X pl wc wr : va_W} {w1 : S → va_W} (hr : va_Run p l e R s m args below meth c H locs cells slots mc ms (F0 m pc ls st0) rest (va_Qv post (fun u t => pO G (w1 u) (va_A (wc) H.size) t) (va_A (wc) H.size) a) (va_A (wc) H.size)) (hP : va_P G.1 vwCl (X ++ pl) H) (hD : va_D A0 (X ++ pl)) (hS : va_S A0 H0 H locs) (hA : ∀ q, H0.size ≤ q → A0 q) (isC isR : List Nat) (hC : isC.map (fun i => X[i]?) = wc.map some) (hR : isR.map (fun i => X[i]?) = wr.map some) (hn : va_nd isR = true) (hdis : ∀ i ∈ isR, i ∉ isC)
    (kk : ∀ (u : S) (ez : post u) (H1 : Heap) (locs1 : List Loc), va_P G.1 vwCl ((wr ++ w1 u) ++ pl) H1 → va_D A0 ((wr ++ w1 u) ++ pl) → va_S A0 H0 H1 locs1 → W p l e R s m args below meth c H1 locs1 (cells + mc) (slots + ms) Q (F0 m (pc + 3) ls (rest))) : W p l e R s m args below meth c H locs cells slots Q (F0 m pc ls st0) := by
  have hF : ∀ q, va_A (wc) H.size q → A0 q := fun q h => va_freeP (pl := pl) hD hS hA isC hC q (h.elim (fun ⟨k, e, hk⟩ => Or.inl ⟨k, e, by rw [List.getElem?_append_left (List.getElem?_eq_some_iff.mp hk).1]; exact hk⟩) Or.inr)
  refine va_callv hr hS (fun q _ h => hF q h) hF (fun u t H1 locs1 ht hvm hw hB hz1 hk1 hS1 => ?_)
  obtain ⟨hP1, hD1⟩ := hB
  rw [ht] at hP1
  obtain ⟨hP2, hD2⟩ := va_joinQ hP hD isC isR hC hR hn hdis hk1 hF hP1 hD1
  exact kk u hw H1 locs1 hP2 hD2 hS1
theorem clp_i {S : Type} {post : Int32 → S → Prop} {X pl cx wr : va_W} {w1 pl1 : S → va_W} (hr : va_Run p l e R s m args below meth c H locs cells slots mc ms (F0 m pc ls st0) rest (va_Qi post (fun u t => pO G (w1 u ++ pl1 u) (va_A (cx ++ pl) H.size) t) (va_A (cx ++ pl) H.size) a) (va_A (cx ++ pl) H.size)) (hP : va_P G.1 vwCl (X ++ pl) H) (hD : va_D A0 (X ++ pl)) (hS : va_S A0 H0 H locs) (hA : ∀ q, H0.size ≤ q → A0 q) (isC isR : List Nat) (hC : isC.map (fun i => X[i]?) = cx.map some) (hR : isR.map (fun i => X[i]?) = wr.map some) (hn : va_nd isR = true) (hdis : ∀ i ∈ isR, i ∉ isC)
    (kk : ∀ (r : Int32) (u : S) (ez : post r u) (H1 : Heap) (locs1 : List Loc), va_P G.1 vwCl ((wr ++ w1 u) ++ pl1 u) H1 → va_D A0 ((wr ++ w1 u) ++ pl1 u) → va_S A0 H0 H1 locs1 → W p l e R s m args below meth c H1 locs1 (cells + mc) (slots + ms) Q (F0 m (pc + 3) ls (.int r :: rest))) : W p l e R s m args below meth c H locs cells slots Q (F0 m pc ls st0) := by
  have hF : ∀ q, va_A (cx ++ pl) H.size q → A0 q := va_freeP hD hS hA isC hC
  refine va_calli hr hS (fun q _ h => hF q h) hF (fun r u t H1 locs1 ht hvm hw hB hz1 hk1 hS1 => ?_)
  obtain ⟨hP1, hD1⟩ := hB
  rw [ht] at hP1
  obtain ⟨hP2, hD2⟩ := va_joinP hP hD isC isR hC hR hn hdis hk1 hF hP1 hD1
  exact kk r u hw H1 locs1 hP2 hD2 hS1
theorem clp_l {S : Type} {post : Int64 → S → Prop} {X pl cx wr : va_W} {w1 pl1 : S → va_W} (hr : va_Run p l e R s m args below meth c H locs cells slots mc ms (F0 m pc ls st0) rest (va_Ql post (fun u t => pO G (w1 u ++ pl1 u) (va_A (cx ++ pl) H.size) t) (va_A (cx ++ pl) H.size) a) (va_A (cx ++ pl) H.size)) (hP : va_P G.1 vwCl (X ++ pl) H) (hD : va_D A0 (X ++ pl)) (hS : va_S A0 H0 H locs) (hA : ∀ q, H0.size ≤ q → A0 q) (isC isR : List Nat) (hC : isC.map (fun i => X[i]?) = cx.map some) (hR : isR.map (fun i => X[i]?) = wr.map some) (hn : va_nd isR = true) (hdis : ∀ i ∈ isR, i ∉ isC)
    (kk : ∀ (r : Int64) (u : S) (ez : post r u) (H1 : Heap) (locs1 : List Loc), va_P G.1 vwCl ((wr ++ w1 u) ++ pl1 u) H1 → va_D A0 ((wr ++ w1 u) ++ pl1 u) → va_S A0 H0 H1 locs1 → W p l e R s m args below meth c H1 locs1 (cells + mc) (slots + ms) Q (F0 m (pc + 3) ls (.long r :: rest))) : W p l e R s m args below meth c H locs cells slots Q (F0 m pc ls st0) := by
  have hF : ∀ q, va_A (cx ++ pl) H.size q → A0 q := va_freeP hD hS hA isC hC
  refine va_calll hr hS (fun q _ h => hF q h) hF (fun r u t H1 locs1 ht hvm hw hB hz1 hk1 hS1 => ?_)
  obtain ⟨hP1, hD1⟩ := hB
  rw [ht] at hP1
  obtain ⟨hP2, hD2⟩ := va_joinP hP hD isC isR hC hR hn hdis hk1 hF hP1 hD1
  exact kk r u hw H1 locs1 hP2 hD2 hS1
theorem clp_v {S : Type} {post : S → Prop} {X pl cx wr : va_W} {w1 pl1 : S → va_W} (hr : va_Run p l e R s m args below meth c H locs cells slots mc ms (F0 m pc ls st0) rest (va_Qv post (fun u t => pO G (w1 u ++ pl1 u) (va_A (cx ++ pl) H.size) t) (va_A (cx ++ pl) H.size) a) (va_A (cx ++ pl) H.size)) (hP : va_P G.1 vwCl (X ++ pl) H) (hD : va_D A0 (X ++ pl)) (hS : va_S A0 H0 H locs) (hA : ∀ q, H0.size ≤ q → A0 q) (isC isR : List Nat) (hC : isC.map (fun i => X[i]?) = cx.map some) (hR : isR.map (fun i => X[i]?) = wr.map some) (hn : va_nd isR = true) (hdis : ∀ i ∈ isR, i ∉ isC)
    (kk : ∀ (u : S) (ez : post u) (H1 : Heap) (locs1 : List Loc), va_P G.1 vwCl ((wr ++ w1 u) ++ pl1 u) H1 → va_D A0 ((wr ++ w1 u) ++ pl1 u) → va_S A0 H0 H1 locs1 → W p l e R s m args below meth c H1 locs1 (cells + mc) (slots + ms) Q (F0 m (pc + 3) ls (rest))) : W p l e R s m args below meth c H locs cells slots Q (F0 m pc ls st0) := by
  have hF : ∀ q, va_A (cx ++ pl) H.size q → A0 q := va_freeP hD hS hA isC hC
  refine va_callv hr hS (fun q _ h => hF q h) hF (fun u t H1 locs1 ht hvm hw hB hz1 hk1 hS1 => ?_)
  obtain ⟨hP1, hD1⟩ := hB
  rw [ht] at hP1
  obtain ⟨hP2, hD2⟩ := va_joinP hP hD isC isR hC hR hn hdis hk1 hF hP1 hD1
  exact kk u hw H1 locs1 hP2 hD2 hS1
theorem my_newa {cc : ByteArray} (hexec : p.tables.exec = Jvm.exec) (hb : c.code = cc) {atype : ArrayType} (harr : (Cond.arrayClass (newarray.typeOf atype)).before args s = true) {ty : FieldType} (hty : newarray.typeOf atype = ty) (hK : KK G s) {ws : va_W} (hP : va_P G.1 vwCl ws H) (hD : va_D A0 ws) (hS : va_S A0 H0 H locs) (hA : ∀ q, H0.size ≤ q → A0 q)
    (t0 : Nat) {cA : ClassId} (ht : (gT G)[t0]? = some (cA, ty)) (hnr : ∀ C, ty ≠ .object C) {n : Int32} {N' : Nat} {a0 : vp_A} (ha : ∀ cA : ClassId, vp_cell cA a0 = arrV cA N' (fun _ => defaultValue ty)) (hn : ¬ n < 0) (hN : n.toNatClampNeg = N') (hbytes : N' * componentBytes ty ≤ 536870912) (hcells : cells + 1 ≤ R.cells) (hslots : slots + N' ≤ R.slots) (hdg : decode cc pc = .ok (.newarray atype, 2))
    (kk : ∀ (q : Nat) (H1 : Heap), va_P G.1 vwCl (ws ++ [(q, .inl (cA, a0))]) H1 → va_D A0 (ws ++ [(q, .inl (cA, a0))]) → va_S A0 H0 H1 locs →
      W p l e R s m args below meth c H1 locs (cells + 1) (slots + N') Q (F0 m (pc + 2) ls (.ref q :: rest))) : W p l e R s m args below meth c H locs cells slots Q (F0 m pc ls (.int n :: rest)) := by
  refine va_newa hexec hb harr hty hK.1 hP hD hS hA ha hn hN hbytes hcells hslots hdg fun q cB H1 K1 P1 D1 S1 => ?_
  have e1 := (hK.1.2 t0 _ ht).2
  have e2 := (K1.2 (gT G).length (cB, ty) (by rw [List.getElem?_append_right (Nat.le_refl _), Nat.sub_self]; rfl)).2
  have e3 : cB = cA := by
    cases ty with
    | object C => exact absurd rfl (hnr C)
    | _ => exact Option.some.inj (e2.symm.trans e1)
  subst e3
  exact kk q H1 P1 D1 S1
theorem my_newq {cc : ByteArray} (hexec : p.tables.exec = Jvm.exec) (hb : c.code = cc) {own C : String} {index : Nat} (hown : s.vm.findClass own = some m.cls) (hclink : (Cond.classLink own index C).before args s = true) (hover : va_AO C s) (hK : KK G s) {ws : va_W} (hP : va_P G.1 vwCl ws H) (hD : va_D A0 ws) (hS : va_S A0 H0 H locs) (hA : ∀ q, H0.size ≤ q → A0 q)
    (t0 : Nat) {cA : ClassId} (ht : (gT G)[t0]? = some (cA, .object C)) {n : Int32} {N' : Nat} (hn : ¬ n < 0) (hN : n.toNatClampNeg = N') (hbytes : N' * 4 ≤ 536870912) (hcells : cells + 1 ≤ R.cells) (hslots : slots + N' ≤ R.slots) (hdg : decode cc pc = .ok (.anewarray index, 3))
    (kk : ∀ (q : Nat) (H1 : Heap), va_P G.1 vwCl (ws ++ [(q, .inl (cA, N', .inr (.inr (.inr (.inr (fun _ => none))))))]) H1 → va_D A0 (ws ++ [(q, .inl (cA, N', .inr (.inr (.inr (.inr (fun _ => none))))))]) → va_S A0 H0 H1 locs →
      W p l e R s m args below meth c H1 locs (cells + 1) (slots + N') Q (F0 m (pc + 3) ls (.ref q :: rest))) : W p l e R s m args below meth c H locs cells slots Q (F0 m pc ls (.int n :: rest)) := by
  refine va_newq hexec hb hown hclink hover hK.1 hP hD hS hA hn hN hbytes hcells hslots hdg fun q cB H1 K1 P1 D1 S1 => ?_
  obtain ⟨kA, comp, -, -, -, e1⟩ := (hK.1.2 t0 _ ht).2
  obtain ⟨kB, comp2, -, -, -, e2⟩ := (K1.2 (gT G).length (cB, .object C) (by rw [List.getElem?_append_right (Nat.le_refl _), Nat.sub_self]; rfl)).2
  have e3 : cB = cA := Option.some.inj (e2.symm.trans e1)
  subst e3
  exact kk q H1 P1 D1 S1
end BASE
-- indices within
theorem fb_rng (x : Int32) : -2147483648 ≤ x.toInt ∧ x.toInt < 2147483648 := by
  have h1 := Int32.le_toInt x
  have h2 := Int32.toInt_lt x
  omega
theorem fb_bmod {z : Int} (h1 : -2147483648 ≤ z) (h2 : z < 2147483648) : z.bmod (2 ^ 32) = z := by
  rw [Int.bmod_eq_of_le (by omega) (by omega)]
theorem fb_addI {x y : Int32} (h1 : -2147483648 ≤ x.toInt + y.toInt) (h2 : x.toInt + y.toInt < 2147483648) : (x + y).toInt = x.toInt + y.toInt := by
  rw [Int32.toInt_add, fb_bmod h1 h2]
theorem fb_subI {x y : Int32} (h1 : -2147483648 ≤ x.toInt - y.toInt) (h2 : x.toInt - y.toInt < 2147483648) : (x - y).toInt = x.toInt - y.toInt := by
  rw [Int32.toInt_sub, fb_bmod h1 h2]
theorem fb_mulI {x y : Int32} (h1 : -2147483648 ≤ x.toInt * y.toInt) (h2 : x.toInt * y.toInt < 2147483648) : (x * y).toInt = x.toInt * y.toInt := by
  rw [Int32.toInt_mul, fb_bmod h1 h2]
theorem fb_rngL (x : Int64) : -9223372036854775808 ≤ x.toInt ∧ x.toInt < 9223372036854775808 := by
  have h1 := Int64.le_toInt x
  have h2 := Int64.toInt_lt x
  omega
theorem fb_bmodL {z : Int} (h1 : -9223372036854775808 ≤ z) (h2 : z < 9223372036854775808) : z.bmod (2 ^ 64) = z := by
  rw [Int.bmod_eq_of_le (by omega) (by omega)]
theorem fb_addL {x y : Int64} (h1 : -9223372036854775808 ≤ x.toInt + y.toInt) (h2 : x.toInt + y.toInt < 9223372036854775808) : (x + y).toInt = x.toInt + y.toInt := by
  rw [Int64.toInt_add, fb_bmodL h1 h2]
theorem fb_subL {x y : Int64} (h1 : -9223372036854775808 ≤ x.toInt - y.toInt) (h2 : x.toInt - y.toInt < 9223372036854775808) : (x - y).toInt = x.toInt - y.toInt := by
  rw [Int64.toInt_sub, fb_bmodL h1 h2]
theorem i_lt {x y : Int32} (h : x < y) : x.toInt < y.toInt := Int32.lt_iff_toInt_lt.mp h
theorem i_nlt {x y : Int32} (h : ¬ x < y) : y.toInt ≤ x.toInt := Int.not_lt.mp fun q => h (Int32.lt_iff_toInt_lt.mpr q)
theorem i_le {x y : Int32} (h : x ≤ y) : x.toInt ≤ y.toInt := Int32.le_iff_toInt_le.mp h
theorem i_nle {x y : Int32} (h : ¬ x ≤ y) : y.toInt < x.toInt := Int.not_le.mp fun q => h (Int32.le_iff_toInt_le.mpr q)
theorem in_lo {x M : Int32} {n : Nat} (h0 : ¬ x < 0) (h1 : x < M) (hM : M.toInt = n) : vp_in x n := vp_in_iff.mpr ⟨i_nlt h0, hM ▸ i_lt h1⟩
theorem in_le {x M : Int32} {n : Nat} (h0 : ¬ x < 0) (h1 : ¬ M ≤ x) (hM : M.toInt = n) : vp_in x n := vp_in_iff.mpr ⟨i_nlt h0, hM ▸ i_nle h1⟩
theorem in_lv {x : Int32} (h0 : ¬ x < 1) (h1 : ¬ 20 < x) : vp_in x 21 := by
  have a : (1 : Int) ≤ x.toInt := i_nlt h0
  have b : x.toInt ≤ 20 := i_nlt h1
  exact vp_in_iff.mpr ⟨by omega, by omega⟩
theorem tp_a {f z : Int32} (hf : vp_in f 201) (hz : vp_in z 201) (h : f + z < 200) : vp_in (f + z) 200 := by
  have a := vp_in_iff.mp hf
  have b := vp_in_iff.mp hz
  have e : (f + z).toInt = f.toInt + z.toInt := fb_addI (by omega) (by omega)
  have h1 : (f + z).toInt < 200 := i_lt h
  exact vp_in_iff.mpr ⟨by omega, by omega⟩
theorem tp_b {f z : Int32} (hf : vp_in f 201) (hz : vp_in z 201) (h9 : z < 200) (h : ¬ f + z < 200) : vp_in (f + z - 200) 200 := by
  have a := vp_in_iff.mp hf
  have b := vp_in_iff.mp hz
  have e : (f + z).toInt = f.toInt + z.toInt := fb_addI (by omega) (by omega)
  have h1 : (200 : Int) ≤ (f + z).toInt := i_nlt h
  have h2 : z.toInt < 200 := i_lt h9
  have t2 : (200 : Int32).toInt = 200 := rfl
  have e2 : (f + z - 200).toInt = (f + z).toInt - (200 : Int32).toInt := fb_subI (by omega) (by omega)
  exact vp_in_iff.mpr ⟨by omega, by omega⟩
theorem in_sub {x : Int32} {n k : Nat} (h : vp_in x n) (hx : x.toInt < k) : vp_in x k := vp_in_iff.mpr ⟨(vp_in_iff.mp h).1, hx⟩
theorem in_n0 {x : Int32} {n : Nat} (h : vp_in x n) : ¬ x < 0 := fun q => h (Or.inl q)
theorem in_3a {k : Int32} (h : vp_in k 301) (h1 : ¬ 300 ≤ k) : vp_in (k * 3) 900 ∧ vp_in (k * 3 + 1) 900 ∧ vp_in (k * 3 + 2) 900 := by
  have a := vp_in_iff.mp h
  have b : k.toInt < 300 := i_nle h1
  have t3 : (3 : Int32).toInt = 3 := rfl
  have t1 : (1 : Int32).toInt = 1 := rfl
  have t2 : (2 : Int32).toInt = 2 := rfl
  have e : (k * 3).toInt = k.toInt * 3 := by rw [fb_mulI (by rw [t3]; omega) (by rw [t3]; omega), t3]
  have e1 : (k * 3 + 1).toInt = (k * 3).toInt + (1 : Int32).toInt := fb_addI (by omega) (by omega)
  have e2 : (k * 3 + 2).toInt = (k * 3).toInt + (2 : Int32).toInt := fb_addI (by omega) (by omega)
  exact ⟨vp_in_iff.mpr ⟨by omega, by omega⟩, vp_in_iff.mpr ⟨by omega, by omega⟩, vp_in_iff.mpr ⟨by omega, by omega⟩⟩
theorem in_3b {i w : Int32} (h : vp_in i 300) (h0 : ¬ w < 0) (h1 : ¬ 3 ≤ w) : vp_in (i * 3 + w) 900 := by
  have a := vp_in_iff.mp h
  have b : w.toInt < 3 := i_nle h1
  have b0 : 0 ≤ w.toInt := i_nlt h0
  have t3 : (3 : Int32).toInt = 3 := rfl
  have e : (i * 3).toInt = i.toInt * 3 := by rw [fb_mulI (by rw [t3]; omega) (by rw [t3]; omega), t3]
  have e1 : (i * 3 + w).toInt = (i * 3).toInt + w.toInt := fb_addI (by omega) (by omega)
  exact vp_in_iff.mpr ⟨by omega, by omega⟩
theorem i_inc {k M : Int32} {n : Nat} (h0 : vp_in k n) (h : k < M) (hM : M.toInt + 1 = n) : vp_in (k + 1) n := by
  have a := vp_in_iff.mp h0
  have b := i_lt h
  have c := fb_rng M
  have t1 : (1 : Int32).toInt = 1 := rfl
  have e : (k + 1).toInt = k.toInt + (1 : Int32).toInt := fb_addI (by omega) (by omega)
  exact vp_in_iff.mpr ⟨by omega, by omega⟩
theorem i_ge {x y : Int32} (h : x < y) : ¬ y ≤ x := fun q => absurd (i_lt h) (Int.not_lt.mpr (i_le q))
theorem i_not {x y : Int32} (h : ¬ x ≤ y) : y < x := Int32.lt_iff_toInt_lt.mpr (i_nle h)
theorem hi_lt {x : Int32} {n : Nat} (h : vp_in x n) : x.toNatClampNeg < n := Nat.not_le.mp fun q => h (Or.inr q)
theorem i_incN {k : Int32} {n : Nat} (h : vp_in k n) (hn : n < 2 ^ 31) : (k + 1).toNatClampNeg = k.toNatClampNeg + 1 := by
  obtain ⟨j, hj, rfl⟩ := vp_in_of h hn
  rw [nI_1, nI_clamp (by omega), nI_clamp (by omega)]
theorem i_dec {r : Int32} {n : Nat} (h : vp_in r n) (hn : n < 2 ^ 31) (h0 : ¬ r ≤ 0) : vp_in (r + (-1)) n ∧ (r + (-1)).toNatClampNeg + 1 = r.toNatClampNeg := by
  obtain ⟨j, hj, rfl⟩ := vp_in_of h hn
  cases j with
  | zero => exact absurd (by decide) h0
  | succ j =>
    rw [pk_m1]
    exact ⟨vp_in_nI (by omega) (by omega), by rw [nI_clamp (by omega), nI_clamp (by omega)]⟩
