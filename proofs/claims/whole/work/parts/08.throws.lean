def nmX : List String := ["java/lang/IndexOutOfBoundsException", "java/lang/RuntimeException", "java/lang/Exception"]
/-- the words of the throw, and the handlers' class -/
def LT : List Cond := .classLink RL 13 RJx00060 :: .castable RJx00060 RJx00060 :: vx_at0 RX5 83 RJx00060 nmX
def tw_c : Cond → Bool
  | .castable _ _ => true
  | .declares _ => true
  | w => goodWord w
theorem LT_c : ∀ w ∈ LT, tw_c w = true := by decide +kernel
theorem LT_on : ∀ w ∈ LT, w.onTables = true := by decide +kernel
def TW (U : State) : Prop := ∀ w ∈ LT, w.before #[] U = true
theorem TW.use {U : State} (h : TW U) {w : Cond} (hw : w ∈ LT) {args : Array Value} : w.before args U = true := va_tabs (LT_on w hw) rfl (h w hw)
theorem tw_good {s U : State} (hW : s.WarmedH U.vm) {w : Cond} (hg : goodWord w = true) (h : w.before #[] s = true) : w.before #[] U = true := word_at hW (good_of_word hg) h
theorem tw_moved {s U : State} (hW : s.WarmedH U.vm) (w : Cond) (hg : tw_c w = true) (h : w.before #[] s = true) : w.before #[] U = true := by
  cases w with
  | castable C T => exact va_Nw.warmC hW h
  | declares x => exact va_Nw.warmD hW h
  | _ => exact tw_good hW hg h
theorem TW.moved {s U : State} (hW : s.WarmedH U.vm) (h : TW s) : TW U := fun w hw => tw_moved hW w (LT_c w hw) (h w hw)
theorem TW.same {s U : State} (e : s.vm = U.vm) (h : TW s) : TW U := fun w hw => va_tabs (LT_on w hw) e (h w hw)
def TH (A : Nat → Prop) (U : State) (H : Heap) : Prop := vx_Zq Bundle.tN "UNASSIGNED_STACK" Bundle.steD A U H ∧ vx_Zq Bundle.tN "SUPPRESSED_SENTINEL" Bundle.listD A U H
theorem TH.moved {A : Nat → Prop} {u U : State} {H : Heap} (hvm : u.vm.Alike U.vm) (h : TH A u H) : TH A U H := ⟨h.1.moved hvm, h.2.moved hvm⟩
theorem TH.kept {A : Nat → Prop} {U : State} {H H1 : Heap} (h : TH A U H) (hq : ∀ a : Nat, a < H.size → ¬ A a → H1[a]? = H[a]?) : TH A U H1 := ⟨h.1.kept hq, h.2.kept hq⟩
theorem TH.narrow {A B : Nat → Prop} {U : State} {H : Heap} (h : TH A U H) (hAB : ∀ q, B q → A q) : TH B U H := ⟨h.1.narrow hAB, h.2.narrow hAB⟩
def pX (G : gG) (ws : va_W) (sz : Nat) (U : State) : Prop := pR G ws sz U ∧ TW U ∧ TH (va_A ws sz) U U.heap
theorem pX_blind {G : gG} {ws : va_W} {sz : Nat} {av : List Value} : FrameBlind (va_Pc av (pX G ws sz)) := fun a U g mk q => ⟨q.1, (pR_blind (av := av) a U g mk ⟨q.1, q.2.1⟩).2, TW.same (s := U) (U := U.calling g mk a) rfl q.2.2.1, q.2.2.2.moved (U := U.calling g mk a) (Vm.Alike.refl U.vm)⟩
theorem pX_V {G : gG} {s : State} {H : Heap} {wc : va_W} {A : Nat → Prop} {As : List Value} {b q0 ci : Nat} {r : vw_C} {fs : List Value} (hK : KK G s) (hT : TW s) (hZ : TH (va_A wc H.size) s H) (hP : va_P G.1 vwCl wc H) (hD : va_D A wc) (he : wc[q0]? = some (b, .inr (ci, fs))) (hc : vwCl[ci]? = some r) : PreV s H r.1 b (va_Pc (.ref b :: As) (pX G wc H.size)) As :=
  ⟨pX_blind, va_recv hK.1 hP hc he, fun U hU hW => ⟨rfl, ⟨by rw [hU], by rw [hU]; exact hP, hK.moved hW, hD.weaken (fun _ _ _ _ => trivial)⟩, hT.moved hW, by rw [hU]; exact hZ.moved hW.alike⟩⟩
theorem pX_S {G : gG} {s : State} {H : Heap} {wc : va_W} {A : Nat → Prop} {As : List Value} (hK : KK G s) (hT : TW s) (hZ : TH (va_A wc H.size) s H) (hP : va_P G.1 vwCl wc H) (hD : va_D A wc) : PreS s H (va_Pc As (pX G wc H.size)) As :=
  ⟨pX_blind, fun U hU hW => ⟨rfl, ⟨by rw [hU], by rw [hU]; exact hP, hK.moved hW, hD.weaken (fun _ _ _ _ => trivial)⟩, hT.moved hW, by rw [hU]; exact hZ.moved hW.alike⟩⟩
section CLX
variable {p : Program} {l : Launch} {e : Env} {R : Room} {s : State} {m : MethodId} {args : Array Value} {below : List Frame} {meth : Method} {c : Code} {H : Heap} {locs : List Loc} {cells slots : Nat} {Q : State → Prop}
variable {pc : Nat} {ls : Array Slot} {rest st0 : List Value} {a : Array Value} {A0 : Nat → Prop} {H0 : Heap} {mc ms : Nat} {G : gG}
theorem clx_i {f : Option Int32} {ws wc wr : va_W} (hr : vx_Run p l e R s m args below meth c H locs cells slots mc ms (F0 m pc ls st0) rest (va_Qi (fun (r : Int32) (_ : Unit) => some r = f) (fun _ t => pO G wc (va_A wc H.size) t) (va_A wc H.size) a) (vx_X (fun _ : Unit => none = f) (fun E _ t => E = RJx00060 ∧ pO G wc (va_A wc H.size) t) (va_A wc H.size)) (va_A wc H.size))
    (hP : va_P G.1 vwCl ws H) (hD : va_D A0 ws) (hS : va_S A0 H0 H locs) (hA : ∀ q, H0.size ≤ q → A0 q) (isC isR : List Nat) (hC : isC.map (fun i => ws[i]?) = wc.map some) (hR : isR.map (fun i => ws[i]?) = wr.map some) (hn : va_nd isR = true) (hdis : ∀ i ∈ isR, i ∉ isC)
    (kx : ∀ (_ : none = f) (ce : Cell) (q9 : Addr) (H1 : Heap) (locs1 : List Loc), va_P G.1 vwCl (wr ++ wc) H1 → va_D A0 (wr ++ wc) → va_S A0 H0 H1 locs1 → H1[q9]? = some ce → ce.vm = .none → s.vm.findClass RJx00060 = some ce.cls → vx_W p l e R s m args below meth c H1 locs1 (cells + mc) (slots + ms) Q (F0 m pc ls rest) q9)
    (kk : ∀ (r : Int32) (_ : some r = f) (H1 : Heap) (locs1 : List Loc), va_P G.1 vwCl (wr ++ wc) H1 → va_D A0 (wr ++ wc) → va_S A0 H0 H1 locs1 → W p l e R s m args below meth c H1 locs1 (cells + mc) (slots + ms) Q (F0 m (pc + 3) ls (.int r :: rest))) : W p l e R s m args below meth c H locs cells slots Q (F0 m pc ls st0) := by
  have hF : ∀ q, va_A wc H.size q → A0 q := va_free hD hS hA isC hC
  refine vx_calli hr hS (fun q _ h => hF q h) hF (fun q _ h => hF q h) (fun E ce q9 u t H1 locs1 ht hvm hpx hBX hz hk hS1 hce hcv hcl => ?_) (fun r u t H1 locs1 ht hvm hw hB hz1 hk1 hS1 => ?_)
  · obtain ⟨rfl, hP1, hD1⟩ := hBX
    rw [ht] at hP1
    obtain ⟨hP2, hD2⟩ := va_join hP hD isC isR hC hR hn hdis hk hF hP1 hD1
    exact kx hpx ce q9 H1 locs1 hP2 hD2 hS1 hce hcv hcl
  · obtain ⟨hP1, hD1⟩ := hB
    rw [ht] at hP1
    obtain ⟨hP2, hD2⟩ := va_join hP hD isC isR hC hR hn hdis hk1 hF hP1 hD1
    exact kk r hw H1 locs1 hP2 hD2 hS1
end CLX
theorem cd_loop (p1 : Int64) : ∀ (n : Nat) (dg : Int32) (pw : Int64), vp_in dg 11 → vp_in (FL_X5_countDigits_6 p1 n dg pw) 11 := by
  intro n
  induction n with
  | zero => intro dg pw h; exact (show vp_in 0 11 from vp_in_iff.mpr (by decide))
  | succ n ih =>
    intro dg pw h
    by_cases h1 : 0 < lg_cmp pw p1
    · have e : FL_X5_countDigits_6 p1 (n + 1) dg pw = dg := if_pos h1
      rw [e]; exact h
    · by_cases h2 : 10 ≤ dg
      · have e : FL_X5_countDigits_6 p1 (n + 1) dg pw = dg := (if_neg h1).trans (if_pos h2)
        rw [e]; exact h
      · have e : FL_X5_countDigits_6 p1 (n + 1) dg pw = FL_X5_countDigits_6 p1 n (dg + 1) (pw * 10) := (if_neg h1).trans (if_neg h2)
        rw [e]; exact ih _ _ (i_inc h (i_not h2) rfl)
theorem cd_in (p1 : Int64) : vp_in (F_X5_countDigits p1) 12 := by
  have h : vp_in (F_X5_countDigits p1) 11 := cd_loop p1 12 1 10 (vp_in_iff.mpr (by decide))
  exact in_sub h (by have := (vp_in_iff.mp h).2; omega)

def F_X5_out (made : Int32) (tim : Int64) (num : Int32) (ses : Int32) (rol : Int64) (opn : Int32) (awl : Int32) (aws : Int32) (oct : Int32) (ksf : Int32) (ou : Int32) (p1 : Int32) : Option Int32 :=
  (if p1 < 0 then none else (if p1 < 4 then (some (((((ou : Int32).toUInt32 >>> (((24 - (8 * p1)) : Int32).toUInt32 &&& Int32.toUInt32 31)).toInt32) : Int32).toInt8.toInt32)) else none))
set_option maxHeartbeats 4000000 in
set_option maxRecDepth 100000 in
theorem c_X5_out (l : Launch) (hst : l.stackTraces = false) (G : gG) (h0 xh xl xt xg xu xT tu tk : Nat) (sz : Nat) (made : Int32) (tim : Int64) (num : Int32) (ses : Int32) (rol : Int64) (opn : Int32) (awl : Int32) (aws : Int32) (oct : Int32) (ksf : Int32) (ou : Int32) (p1 : Int32) : vx_Met l yX5_out wsX5_out ({ frames := 7, cells := 1, slots := 6, locals := 94 }) (va_Pc [.ref h0, .int p1] (pX G [(h0, .inr (7, [.ref xl, .ref xt, .ref xg, .ref xu, .ref xT, .ref xh, .int made, .long tim])), (xh, .inr (5, [.int num, .int ses, .long rol, .int opn, .int awl, .int aws, .int oct, .int ksf, .int ou, .ref tu, .ref tk]))] sz)) (va_Qi (fun (r : Int32) (_ : Unit) => some r = F_X5_out made tim num ses rol opn awl aws oct ksf ou p1) (fun _ t => pO G [(h0, .inr (7, [.ref xl, .ref xt, .ref xg, .ref xu, .ref xT, .ref xh, .int made, .long tim])), (xh, .inr (5, [.int num, .int ses, .long rol, .int opn, .int awl, .int aws, .int oct, .int ksf, .int ou, .ref tu, .ref tk]))] (va_A [(h0, .inr (7, [.ref xl, .ref xt, .ref xg, .ref xu, .ref xT, .ref xh, .int made, .long tim])), (xh, .inr (5, [.int num, .int ses, .long rol, .int opn, .int awl, .int aws, .int oct, .int ksf, .int ou, .ref tu, .ref tk]))] sz) t) (va_A [(h0, .inr (7, [.ref xl, .ref xt, .ref xg, .ref xu, .ref xT, .ref xh, .int made, .long tim])), (xh, .inr (5, [.int num, .int ses, .long rol, .int opn, .int awl, .int aws, .int oct, .int ksf, .int ou, .ref tu, .ref tk]))] sz)) (vx_X (fun _ : Unit => none = F_X5_out made tim num ses rol opn awl aws oct ksf ou p1) (fun E _ t => E = RJx00060 ∧ pO G [(h0, .inr (7, [.ref xl, .ref xt, .ref xg, .ref xu, .ref xT, .ref xh, .int made, .long tim])), (xh, .inr (5, [.int num, .int ses, .long rol, .int opn, .int awl, .int aws, .int oct, .int ksf, .int ou, .ref tu, .ref tk]))] (va_A [(h0, .inr (7, [.ref xl, .ref xt, .ref xg, .ref xu, .ref xT, .ref xh, .int made, .long tim])), (xh, .inr (5, [.int num, .int ses, .long rol, .int opn, .int awl, .int aws, .int oct, .int ksf, .int ou, .ref tu, .ref tk]))] sz) t) (va_A [(h0, .inr (7, [.ref xl, .ref xt, .ref xg, .ref xu, .ref xT, .ref xh, .int made, .long tim])), (xh, .inr (5, [.int num, .int ses, .long rol, .int opn, .int awl, .int aws, .int oct, .int ksf, .int ou, .ref tu, .ref tk]))] sz)) 1 6 (va_A [(h0, .inr (7, [.ref xl, .ref xt, .ref xg, .ref xu, .ref xT, .ref xh, .int made, .long tim])), (xh, .inr (5, [.int num, .int ses, .long rol, .int opn, .int awl, .int aws, .int oct, .int ksf, .int ou, .ref tu, .ref tk]))] sz) := by
  refine vx_ofW (cc := cX5_out) (maxL := 2) (ret := (some .byte)) (by decide) rfl ?_
  intro p e s m args below meth c s₁ B hml htb hv
  obtain ⟨rfl, ⟨hsz, hP, hK, hD0⟩, hTW, hTH⟩ := hv
  have hx := B.exec
  have hb := B.bytes
  have hr := B.returns
  have hts := atoms_spec (ws := wsX5_out) B.pre
  have hown : s.vm.findClass RX5 = some m.cls := findClass_of_methodNamed B.named
  have hlocks := B.notSynchronized
  subst hsz
  have iX3 : ∀ w ∈ wsX30, w ∈ wsX5_out := by decide +kernel
  have iX5 : ∀ w ∈ wsX50, w ∈ wsX5_out := by decide +kernel
  have hD := hD0.self (sz := s.heap.size)
  generalize hAe : va_A [(h0, .inr (7, [.ref xl, .ref xt, .ref xg, .ref xu, .ref xT, .ref xh, .int made, .long tim])), (xh, .inr (5, [.int num, .int ses, .long rol, .int opn, .int awl, .int aws, .int oct, .int ksf, .int ou, .ref tu, .ref tk]))] s.heap.size = A at hD hTH ⊢
  have hA : ∀ q : Nat, s.heap.size ≤ q → A q := fun q h => by rw [← hAe]; exact Or.inr h
  have hS : va_S A s.heap s.heap [] := va_S.rf
  have hP : va_P G.1 vwCl [(h0, .inr (7, [.ref xl, .ref xt, .ref xg, .ref xu, .ref xT, .ref xh, .int made, .long tim])), (xh, .inr (5, [.int num, .int ses, .long rol, .int opn, .int awl, .int aws, .int oct, .int ksf, .int ou, .ref tu, .ref tk]))] s.heap := hP
  have hl := lv_entry ([.ref h0, .int p1]) (n := 2) (Nat.le_of_ble_eq_true rfl)
  rw [lg_entry_eq]
  generalize (lg_sl ([.ref h0, .int p1]) ++ List.replicate (2 - (lg_sl ([.ref h0, .int p1])).length) Slot.unset).toArray = ls at hl ⊢
  have hl : lv_has ls 2 [(0, .ref h0), (1, .int p1)] := hl
  have hF : F_X5_out made tim num ses rol opn awl aws oct ksf ou p1 = F_X5_out made tim num ses rol opn awl aws oct ksf ou p1 := rfl
  refine lv_iload_n hx hb dX5_out_0 rfl (lv_at hl 1 rfl) ?_
  refine lv_if_lt (tgt := 9) hx hb dX5_out_1 (by decide) (fun c_1 => ?_) (fun c_1 => ?_)
  · have hF := if_t hF c_1
    exact vx_throw0 hx hb hst (names := nmX) (ik := 81) (ic := 83) (own := RX5) (cls := RJx00060) hown (by decide +kernel) (by decide +kernel) (hts (.classLink RX5 81 RJx00060) (by decide +kernel)) (hts (.initialized RJx00060) (by decide +kernel)) (fun w hw => hTW.use (List.mem_cons_of_mem _ (List.mem_cons_of_mem _ hw))) (by decide +kernel) hTH.1 hTH.2 hS (by rw [hml]; exact hl.1) dX5_out_9 dX5_out_12 dX5_out_13 dX5_out_16 (fun x hx9 => (htb x hx9).elim) (by decide) (by decide) (by decide) (by decide) hlocks (fun t h1 h2 h3 => ⟨(), hF.symm, ⟨rfl, hP.kept (fun k q hk => h3 q.1 ((hP k q hk).lt)), hD⟩, h2, fun q h4 _ => h3 q h4⟩) hS.2.2 (by decide) (by decide)
  · have hF := if_f hF c_1
    refine lv_iload_n hx hb dX5_out_4 rfl (lv_at hl 1 rfl) ?_
    refine lv_iconst (v := 4) hx hb dX5_out_5 (by decide) ?_
    refine lv_icmp_lt (tgt := 17) hx hb dX5_out_6 (by decide) (fun c_6 => ?_) (fun c_6 => ?_)
    · have hF := if_t hF c_6
      refine lv_aload_n hx hb dX5_out_17 rfl (lv_at hl 0 rfl) ?_
      refine va_get (D := G.1) (ci := 7) (v := .ref xh) (C := RX5) (T := TX5) (N := 8) hx hb hts iX5 hown hK.1 hP 0 rfl rfl 5 (by decide) (hts (.fieldLink RX5 45 "RightsSteps" "atHand" "LRightsSteps$Tester;") (by decide +kernel)) (fun _ h9 => h9) rfl dX5_out_18 ?_
      refine va_getN (D := G.1) (ci := 5) (v := .int ou) (C := RX3) (T := TX3) (N := 11) hx hb hts iX3 hown hK.1 hP 1 rfl rfl 8 (by decide) (va_Nw.use rfl hK.2.2.2.2.2.2.2.2.2.2.1) (fun _ h9 => h9) rfl dX5_out_21 ?_
      refine lv_bipush (v := 24) hx hb dX5_out_24 (by decide) ?_
      refine lv_bipush (v := 8) hx hb dX5_out_26 (by decide) ?_
      refine lv_iload_n hx hb dX5_out_28 rfl (lv_at hl 1 rfl) ?_
      refine lv_imul hx hb dX5_out_29 ?_
      refine lv_isub hx hb dX5_out_30 ?_
      refine lv_iushr (v := (((ou : Int32).toUInt32 >>> (((24 - (8 * p1)) : Int32).toUInt32 &&& Int32.toUInt32 31)).toInt32)) hx hb dX5_out_31 rfl ?_
      refine lv_i2b (v := (((((ou : Int32).toUInt32 >>> (((24 - (8 * p1)) : Int32).toUInt32 &&& Int32.toUInt32 31)).toInt32) : Int32).toInt8.toInt32)) hx hb dX5_out_32 rfl ?_
      refine W.widen (k := 1) (n := 6) (by decide) (by decide) ?_
      exact vx_ret (W.zret (v := (((((ou : Int32).toUInt32 >>> (((24 - (8 * p1)) : Int32).toUInt32 &&& Int32.toUInt32 31)).toInt32) : Int32).toInt8.toInt32)) (ty := .byte) hx hb hr (pk_nb _) (fun t ht hW => ⟨⟨(((((ou : Int32).toUInt32 >>> (((24 - (8 * p1)) : Int32).toUInt32 &&& Int32.toUInt32 31)).toInt32) : Int32).toInt8.toInt32), (), rfl, hF.symm, by rw [ht]; exact hP, hD⟩, hS.F ht⟩) hS.2.2 dX5_out_33)
    · have hF := if_f hF c_6
      exact vx_throw0 hx hb hst (names := nmX) (ik := 81) (ic := 83) (own := RX5) (cls := RJx00060) hown (by decide +kernel) (by decide +kernel) (hts (.classLink RX5 81 RJx00060) (by decide +kernel)) (hts (.initialized RJx00060) (by decide +kernel)) (fun w hw => hTW.use (List.mem_cons_of_mem _ (List.mem_cons_of_mem _ hw))) (by decide +kernel) hTH.1 hTH.2 hS (by rw [hml]; exact hl.1) dX5_out_9 dX5_out_12 dX5_out_13 dX5_out_16 (fun x hx9 => (htb x hx9).elim) (by decide) (by decide) (by decide) (by decide) hlocks (fun t h1 h2 h3 => ⟨(), hF.symm, ⟨rfl, hP.kept (fun k q hk => h3 q.1 ((hP k q hk).lt)), hD⟩, h2, fun q h4 _ => h3 q h4⟩) hS.2.2 (by decide) (by decide)

def FL_X5_digit_43 (made : Int32) (tim : Int64) (num : Int32) (ses : Int32) (rol : Int64) (opn : Int32) (awl : Int32) (aws : Int32) (oct : Int32) (ksf : Int32) (ou : Int32) (p1 : Int32) : Nat → Int64 → Int32 → Option Int32
  | 0, _, _ => none
  | n + 1, vv, k => (if k ≤ p1 then (some (((vv - vv / 10 * 10) : Int64).toInt32)) else (FL_X5_digit_43 made tim num ses rol opn awl aws oct ksf ou p1 n (vv / 10) (k + (-1))))
def F_X5_digit (made : Int32) (tim : Int64) (num : Int32) (ses : Int32) (rol : Int64) (opn : Int32) (awl : Int32) (aws : Int32) (oct : Int32) (ksf : Int32) (ou : Int32) (p1 : Int32) : Option Int32 :=
  (if p1 < 0 then none else (if p1 < (F_X5_countDigits (((ou : Int32).toInt64) &&& 4294967295)) then (FL_X5_digit_43 made tim num ses rol opn awl aws oct ksf ou p1 12 (((ou : Int32).toInt64) &&& 4294967295) ((F_X5_countDigits (((ou : Int32).toInt64) &&& 4294967295)) - 1)) else none))
set_option maxHeartbeats 4000000 in
set_option maxRecDepth 100000 in
theorem c_X5_digit (l : Launch) (hst : l.stackTraces = false) (G : gG) (h0 xh xl xt xg xu xT tu tk : Nat) (sz : Nat) (made : Int32) (tim : Int64) (num : Int32) (ses : Int32) (rol : Int64) (opn : Int32) (awl : Int32) (aws : Int32) (oct : Int32) (ksf : Int32) (ou : Int32) (p1 : Int32) : vx_Met l yX5_digit wsX5_digit ({ frames := 7, cells := 1, slots := 6, locals := 94 }) (va_Pc [.ref h0, .int p1] (pX G [(h0, .inr (7, [.ref xl, .ref xt, .ref xg, .ref xu, .ref xT, .ref xh, .int made, .long tim])), (xh, .inr (5, [.int num, .int ses, .long rol, .int opn, .int awl, .int aws, .int oct, .int ksf, .int ou, .ref tu, .ref tk]))] sz)) (va_Qi (fun (r : Int32) (_ : Unit) => some r = F_X5_digit made tim num ses rol opn awl aws oct ksf ou p1) (fun _ t => pO G [(h0, .inr (7, [.ref xl, .ref xt, .ref xg, .ref xu, .ref xT, .ref xh, .int made, .long tim])), (xh, .inr (5, [.int num, .int ses, .long rol, .int opn, .int awl, .int aws, .int oct, .int ksf, .int ou, .ref tu, .ref tk]))] (va_A [(h0, .inr (7, [.ref xl, .ref xt, .ref xg, .ref xu, .ref xT, .ref xh, .int made, .long tim])), (xh, .inr (5, [.int num, .int ses, .long rol, .int opn, .int awl, .int aws, .int oct, .int ksf, .int ou, .ref tu, .ref tk]))] sz) t) (va_A [(h0, .inr (7, [.ref xl, .ref xt, .ref xg, .ref xu, .ref xT, .ref xh, .int made, .long tim])), (xh, .inr (5, [.int num, .int ses, .long rol, .int opn, .int awl, .int aws, .int oct, .int ksf, .int ou, .ref tu, .ref tk]))] sz)) (vx_X (fun _ : Unit => none = F_X5_digit made tim num ses rol opn awl aws oct ksf ou p1) (fun E _ t => E = RJx00060 ∧ pO G [(h0, .inr (7, [.ref xl, .ref xt, .ref xg, .ref xu, .ref xT, .ref xh, .int made, .long tim])), (xh, .inr (5, [.int num, .int ses, .long rol, .int opn, .int awl, .int aws, .int oct, .int ksf, .int ou, .ref tu, .ref tk]))] (va_A [(h0, .inr (7, [.ref xl, .ref xt, .ref xg, .ref xu, .ref xT, .ref xh, .int made, .long tim])), (xh, .inr (5, [.int num, .int ses, .long rol, .int opn, .int awl, .int aws, .int oct, .int ksf, .int ou, .ref tu, .ref tk]))] sz) t) (va_A [(h0, .inr (7, [.ref xl, .ref xt, .ref xg, .ref xu, .ref xT, .ref xh, .int made, .long tim])), (xh, .inr (5, [.int num, .int ses, .long rol, .int opn, .int awl, .int aws, .int oct, .int ksf, .int ou, .ref tu, .ref tk]))] sz)) 1 6 (va_A [(h0, .inr (7, [.ref xl, .ref xt, .ref xg, .ref xu, .ref xT, .ref xh, .int made, .long tim])), (xh, .inr (5, [.int num, .int ses, .long rol, .int opn, .int awl, .int aws, .int oct, .int ksf, .int ou, .ref tu, .ref tk]))] sz) := by
  refine vx_ofW (cc := cX5_digit) (maxL := 6) (ret := (some .int)) (by decide) rfl ?_
  intro p e s m args below meth c s₁ B hml htb hv
  obtain ⟨rfl, ⟨hsz, hP, hK, hD0⟩, hTW, hTH⟩ := hv
  have hx := B.exec
  have hb := B.bytes
  have hr := B.returns
  have hts := atoms_spec (ws := wsX5_digit) B.pre
  have hown : s.vm.findClass RX5 = some m.cls := findClass_of_methodNamed B.named
  have hlocks := B.notSynchronized
  subst hsz
  have iX3 : ∀ w ∈ wsX30, w ∈ wsX5_digit := by decide +kernel
  have iX5 : ∀ w ∈ wsX50, w ∈ wsX5_digit := by decide +kernel
  have hD := hD0.self (sz := s.heap.size)
  generalize hAe : va_A [(h0, .inr (7, [.ref xl, .ref xt, .ref xg, .ref xu, .ref xT, .ref xh, .int made, .long tim])), (xh, .inr (5, [.int num, .int ses, .long rol, .int opn, .int awl, .int aws, .int oct, .int ksf, .int ou, .ref tu, .ref tk]))] s.heap.size = A at hD hTH ⊢
  have hA : ∀ q : Nat, s.heap.size ≤ q → A q := fun q h => by rw [← hAe]; exact Or.inr h
  have hS : va_S A s.heap s.heap [] := va_S.rf
  have hP : va_P G.1 vwCl [(h0, .inr (7, [.ref xl, .ref xt, .ref xg, .ref xu, .ref xT, .ref xh, .int made, .long tim])), (xh, .inr (5, [.int num, .int ses, .long rol, .int opn, .int awl, .int aws, .int oct, .int ksf, .int ou, .ref tu, .ref tk]))] s.heap := hP
  have hl := lv_entry ([.ref h0, .int p1]) (n := 6) (Nat.le_of_ble_eq_true rfl)
  rw [lg_entry_eq]
  generalize (lg_sl ([.ref h0, .int p1]) ++ List.replicate (6 - (lg_sl ([.ref h0, .int p1])).length) Slot.unset).toArray = ls at hl ⊢
  have hl : lv_has ls 6 [(0, .ref h0), (1, .int p1)] := hl
  have hF : F_X5_digit made tim num ses rol opn awl aws oct ksf ou p1 = F_X5_digit made tim num ses rol opn awl aws oct ksf ou p1 := rfl
  refine lv_aload_n hx hb dX5_digit_0 rfl (lv_at hl 0 rfl) ?_
  refine va_get (D := G.1) (ci := 7) (v := .ref xh) (C := RX5) (T := TX5) (N := 8) hx hb hts iX5 hown hK.1 hP 0 rfl rfl 5 (by decide) (hts (.fieldLink RX5 45 "RightsSteps" "atHand" "LRightsSteps$Tester;") (by decide +kernel)) (fun _ h9 => h9) rfl dX5_digit_1 ?_
  refine va_getN (D := G.1) (ci := 5) (v := .int ou) (C := RX3) (T := TX3) (N := 11) hx hb hts iX3 hown hK.1 hP 1 rfl rfl 8 (by decide) (va_Nw.use rfl hK.2.2.2.2.2.2.2.2.2.2.1) (fun _ h9 => h9) rfl dX5_digit_4 ?_
  refine lv_i2l (v := ((ou : Int32).toInt64)) hx hb dX5_digit_7 rfl ?_
  refine lv_ldc2 (v := 4294967295) hx hb hown (hts (.constantLong RX5 137 (4294967295)) (by decide +kernel)) dX5_digit_8 ?_
  refine lv_land hx hb dX5_digit_11 ?_
  refine lv_lstore_n (lv' := [(2, .long (((ou : Int32).toInt64) &&& 4294967295)), (0, .ref h0), (1, .int p1)]) hx hb dX5_digit_12 rfl hl (by decide) rfl (fun ls hl => ?_)
  refine lv_lload_n hx hb dX5_digit_13 rfl (lv_at hl 0 rfl) ?_
  refine pu_call (va_runS (As := [.long (((ou : Int32).toInt64) &&& 4294967295)]) (rest := []) ⟨hx, hb, hml, hown, hts⟩ (c_X5_countDigits l G _ (((ou : Int32).toInt64) &&& 4294967295)) (va_cwS 1 hts gX5_digit_X5_countDigits rfl rfl rfl (by decide +kernel) ⟨Nat.le_of_ble_eq_true rfl, Nat.le_of_ble_eq_true rfl⟩) (pR_S hK (va_P.nil) (va_D.nil)) rfl rfl hl.1 rfl (lv_room (Nat.le_of_ble_eq_true rfl)) dX5_digit_14 ⟨Nat.le_of_ble_eq_true rfl, Nat.le_of_ble_eq_true rfl⟩) ?_
  refine lv_istore (lv' := [(4, .int (F_X5_countDigits (((ou : Int32).toInt64) &&& 4294967295))), (2, .long (((ou : Int32).toInt64) &&& 4294967295)), (0, .ref h0), (1, .int p1)]) hx hb dX5_digit_17 hl (by decide) rfl (fun ls hl => ?_)
  refine lv_iload_n hx hb dX5_digit_19 rfl (lv_at hl 3 rfl) ?_
  refine lv_if_lt (tgt := 29) hx hb dX5_digit_20 (by decide) (fun c_20 => ?_) (fun c_20 => ?_)
  · have hF := if_t hF c_20
    exact vx_throw0 hx hb hst (names := nmX) (ik := 81) (ic := 83) (own := RX5) (cls := RJx00060) hown (by decide +kernel) (by decide +kernel) (hts (.classLink RX5 81 RJx00060) (by decide +kernel)) (hts (.initialized RJx00060) (by decide +kernel)) (fun w hw => hTW.use (List.mem_cons_of_mem _ (List.mem_cons_of_mem _ hw))) (by decide +kernel) hTH.1 hTH.2 hS (by rw [hml]; exact hl.1) dX5_digit_29 dX5_digit_32 dX5_digit_33 dX5_digit_36 (fun x hx9 => (htb x hx9).elim) (by decide) (by decide) (by decide) (by decide) hlocks (fun t h1 h2 h3 => ⟨(), hF.symm, ⟨rfl, hP.kept (fun k q hk => h3 q.1 ((hP k q hk).lt)), hD⟩, h2, fun q h4 _ => h3 q h4⟩) hS.2.2 (by decide) (by decide)
  · have hF := if_f hF c_20
    refine lv_iload_n hx hb dX5_digit_23 rfl (lv_at hl 3 rfl) ?_
    refine lv_iload hx hb dX5_digit_24 (lv_at hl 0 rfl) ?_
    refine lv_icmp_lt (tgt := 37) hx hb dX5_digit_26 (by decide) (fun c_26 => ?_) (fun c_26 => ?_)
    · have hF := if_t hF c_26
      refine lv_iload hx hb dX5_digit_37 (lv_at hl 0 rfl) ?_
      refine lv_iconst (v := 1) hx hb dX5_digit_39 (by decide) ?_
      refine lv_isub hx hb dX5_digit_40 ?_
      refine lv_istore (lv' := [(5, .int ((F_X5_countDigits (((ou : Int32).toInt64) &&& 4294967295)) - 1)), (4, .int (F_X5_countDigits (((ou : Int32).toInt64) &&& 4294967295))), (2, .long (((ou : Int32).toInt64) &&& 4294967295)), (0, .ref h0), (1, .int p1)]) hx hb dX5_digit_41 hl (by decide) rfl (fun ls hl => ?_)
      refine W.loop (σ := Int64 × Int32) (fun (n : Nat) (v : Int64 × Int32) (H : Heap) (locs : List Loc) (ls : Array Slot) => (vp_in v.2 12) ∧ v.2.toNatClampNeg < n ∧ (F_X5_digit made tim num ses rol opn awl aws oct ksf ou p1 = FL_X5_digit_43 made tim num ses rol opn awl aws oct ksf ou p1 n v.1 v.2) ∧ H = s.heap ∧ locs = [] ∧ va_P G.1 vwCl [(h0, .inr (7, [.ref xl, .ref xt, .ref xg, .ref xu, .ref xT, .ref xh, .int made, .long tim])), (xh, .inr (5, [.int num, .int ses, .long rol, .int opn, .int awl, .int aws, .int oct, .int ksf, .int ou, .ref tu, .ref tk]))] H ∧ lv_has ls 6 [(5, .int v.2), (2, .long v.1), (0, .ref h0), (1, .int p1)]) ?_ ?_ 12 ((((ou : Int32).toInt64) &&& 4294967295), ((F_X5_countDigits (((ou : Int32).toInt64) &&& 4294967295)) - 1)) ⟨(dg1 (cd_in _) c_20 c_26), (hi_lt (dg1 (cd_in _) c_20 c_26)), hF, rfl, rfl, hP, lv_sub hl [0, 2, 3, 4] rfl⟩
      · rintro ⟨vv, k⟩ H locs ls ⟨hi0, hi1, _, _, _, _, _⟩
        have hi0 : (vp_in k 12) := hi0
        have hi1 : k.toNatClampNeg < 0 := hi1
        exact absurd hi1 (Nat.not_lt_zero _)
      · rintro n ih ⟨vv, k⟩ H locs ls ⟨hi0, hi1, hF, rfl, rfl, hP, hl⟩
        have hi0 : (vp_in k 12) := hi0
        have hi1 : k.toNatClampNeg < (n + 1) := hi1
        have hP : va_P G.1 vwCl [(h0, .inr (7, [.ref xl, .ref xt, .ref xg, .ref xu, .ref xT, .ref xh, .int made, .long tim])), (xh, .inr (5, [.int num, .int ses, .long rol, .int opn, .int awl, .int aws, .int oct, .int ksf, .int ou, .ref tu, .ref tk]))] s.heap := hP
        have hl : lv_has ls 6 [(5, .int k), (2, .long vv), (0, .ref h0), (1, .int p1)] := hl
        have hF : F_X5_digit made tim num ses rol opn awl aws oct ksf ou p1 = FL_X5_digit_43 made tim num ses rol opn awl aws oct ksf ou p1 (n + 1) vv k := hF
        refine lv_iload hx hb dX5_digit_43 (lv_at hl 0 rfl) ?_
        refine lv_iload_n hx hb dX5_digit_45 rfl (lv_at hl 3 rfl) ?_
        refine lv_icmp_le (tgt := 61) hx hb dX5_digit_46 (by decide) (fun c_46 => ?_) (fun c_46 => ?_)
        · have hF := if_t hF c_46
          refine lv_lload_n hx hb dX5_digit_61 rfl (lv_at hl 1 rfl) ?_
          refine lv_ldc2 (v := 10) hx hb hown (hts (.constantLong RX5 143 (10)) (by decide +kernel)) dX5_digit_62 ?_
          refine lv_lrem hx hb dX5_digit_65 (by decide) ?_
          refine lv_l2i (v := (((vv - vv / 10 * 10) : Int64).toInt32)) hx hb dX5_digit_66 rfl ?_
          refine W.widen (k := 1) (n := 6) (by decide) (by decide) ?_
          exact vx_ret (W.iret (v := (((vv - vv / 10 * 10) : Int64).toInt32)) hx hb hr (fun t ht hW => ⟨⟨(((vv - vv / 10 * 10) : Int64).toInt32), (), rfl, hF.symm, by rw [ht]; exact hP, hD⟩, hS.F ht⟩) hS.2.2 dX5_digit_67)
        · have hF := if_f hF c_46
          refine lv_lload_n hx hb dX5_digit_49 rfl (lv_at hl 1 rfl) ?_
          refine lv_ldc2 (v := 10) hx hb hown (hts (.constantLong RX5 143 (10)) (by decide +kernel)) dX5_digit_50 ?_
          refine lv_ldiv hx hb dX5_digit_53 (by decide) ?_
          refine lv_lstore_n (lv' := [(2, .long (vv / 10)), (5, .int k), (0, .ref h0), (1, .int p1)]) hx hb dX5_digit_54 rfl hl (by decide) rfl (fun ls hl => ?_)
          refine lv_iinc (v := (k + (-1))) (lv' := [(5, .int (k + (-1))), (2, .long (vv / 10)), (0, .ref h0), (1, .int p1)]) hx hb dX5_digit_55 hl (k := 1) rfl rfl (by decide) rfl (fun ls hl => ?_)
          refine lv_goto (tgt := 43) hx hb dX5_digit_58 (by decide) ?_
          exact ih ((vv / 10), (k + (-1))) _ _ _ ⟨((i_dec hi0 (by decide) (dgk c_20 c_46)).1), (by show (k + (-1)).toNatClampNeg < n; have := (i_dec hi0 (by decide) (dgk c_20 c_46)).2; omega), hF, rfl, rfl, hP, lv_sub hl [0, 1, 2, 3] rfl⟩
    · have hF := if_f hF c_26
      exact vx_throw0 hx hb hst (names := nmX) (ik := 81) (ic := 83) (own := RX5) (cls := RJx00060) hown (by decide +kernel) (by decide +kernel) (hts (.classLink RX5 81 RJx00060) (by decide +kernel)) (hts (.initialized RJx00060) (by decide +kernel)) (fun w hw => hTW.use (List.mem_cons_of_mem _ (List.mem_cons_of_mem _ hw))) (by decide +kernel) hTH.1 hTH.2 hS (by rw [hml]; exact hl.1) dX5_digit_29 dX5_digit_32 dX5_digit_33 dX5_digit_36 (fun x hx9 => (htb x hx9).elim) (by decide) (by decide) (by decide) (by decide) hlocks (fun t h1 h2 h3 => ⟨(), hF.symm, ⟨rfl, hP.kept (fun k q hk => h3 q.1 ((hP k q hk).lt)), hD⟩, h2, fun q h4 _ => h3 q h4⟩) hS.2.2 (by decide) (by decide)

def F_L_out (f : Option Int32) (oa : Nat → Int64) : Int32 × (Nat → Int64) := match f with
  | none => (1, oa)
  | some r => (0, vp_updL oa (0 : Int32).toNatClampNeg r.toInt64)
set_option maxHeartbeats 4000000 in
set_option maxRecDepth 100000 in
theorem c_L_out (l : Launch) (hst : l.stackTraces = false) (G : gG) (h0 xl xt xg xu xT xh tu tk ha : Nat) (sz : Nat) (made : Int32) (tim : Int64) (num ses : Int32) (rol : Int64) (opn awl aws oct ksf ou : Int32) (oa : Nat → Int64) (p1 : Int32) : Met l yL_out wsL_out ({ frames := 8, cells := 1, slots := 6, locals := 115 }) (va_Pc [.ref h0, .int p1, .ref ha] (pX G [(h0, .inr (7, [.ref xl, .ref xt, .ref xg, .ref xu, .ref xT, .ref xh, .int made, .long tim])), (xh, .inr (5, [.int num, .int ses, .long rol, .int opn, .int awl, .int aws, .int oct, .int ksf, .int ou, .ref tu, .ref tk])), (ha, .inl (G.2 1, 1, .inr (.inl oa)))] sz)) (va_Qi (fun (r : Int32) (u : Nat → Int64) => (r, u) = F_L_out (F_X5_out made tim num ses rol opn awl aws oct ksf ou p1) oa) (fun u t => pO G [(h0, .inr (7, [.ref xl, .ref xt, .ref xg, .ref xu, .ref xT, .ref xh, .int made, .long tim])), (xh, .inr (5, [.int num, .int ses, .long rol, .int opn, .int awl, .int aws, .int oct, .int ksf, .int ou, .ref tu, .ref tk])), (ha, .inl (G.2 1, 1, .inr (.inl u)))] (va_A [(h0, .inr (7, [.ref xl, .ref xt, .ref xg, .ref xu, .ref xT, .ref xh, .int made, .long tim])), (xh, .inr (5, [.int num, .int ses, .long rol, .int opn, .int awl, .int aws, .int oct, .int ksf, .int ou, .ref tu, .ref tk])), (ha, .inl (G.2 1, 1, .inr (.inl oa)))] sz) t) (va_A [(h0, .inr (7, [.ref xl, .ref xt, .ref xg, .ref xu, .ref xT, .ref xh, .int made, .long tim])), (xh, .inr (5, [.int num, .int ses, .long rol, .int opn, .int awl, .int aws, .int oct, .int ksf, .int ou, .ref tu, .ref tk])), (ha, .inl (G.2 1, 1, .inr (.inl oa)))] sz)) 1 6 (va_A [(h0, .inr (7, [.ref xl, .ref xt, .ref xg, .ref xu, .ref xT, .ref xh, .int made, .long tim])), (xh, .inr (5, [.int num, .int ses, .long rol, .int opn, .int awl, .int aws, .int oct, .int ksf, .int ou, .ref tu, .ref tk])), (ha, .inl (G.2 1, 1, .inr (.inl oa)))] sz) := by
  refine va_MetW (cc := cL_out) (maxL := 4) (ret := (some .int)) (hh := [(0, 9, 12, 13)]) (by decide) rfl ?_
  intro p e s m args below meth c s₁ B hml hv
  obtain ⟨rfl, ⟨hsz, hP, hK, hD0⟩, hTW, hTH⟩ := hv
  have hx := B.exec
  have hb := B.bytes
  have hr := B.returns
  have hts := atoms_spec (ws := wsL_out) B.pre
  have hown : s.vm.findClass RL = some m.cls := findClass_of_methodNamed B.named
  have hlocks := B.notSynchronized
  have htab : c.exceptionTable.toList = tableOf [(0, 9, 12, 13)] := vx_table (x := yL_out) B (hts _ List.mem_cons_self)
  subst hsz
  have hD := hD0.self (sz := s.heap.size)
  generalize hAe : va_A [(h0, .inr (7, [.ref xl, .ref xt, .ref xg, .ref xu, .ref xT, .ref xh, .int made, .long tim])), (xh, .inr (5, [.int num, .int ses, .long rol, .int opn, .int awl, .int aws, .int oct, .int ksf, .int ou, .ref tu, .ref tk])), (ha, .inl (G.2 1, 1, .inr (.inl oa)))] s.heap.size = A at hD hTH ⊢
  have hA : ∀ q : Nat, s.heap.size ≤ q → A q := fun q h => by rw [← hAe]; exact Or.inr h
  have hS : va_S A s.heap s.heap [] := va_S.rf
  have hP : va_P G.1 vwCl [(h0, .inr (7, [.ref xl, .ref xt, .ref xg, .ref xu, .ref xT, .ref xh, .int made, .long tim])), (xh, .inr (5, [.int num, .int ses, .long rol, .int opn, .int awl, .int aws, .int oct, .int ksf, .int ou, .ref tu, .ref tk])), (ha, .inl (G.2 1, 1, .inr (.inl oa)))] s.heap := hP
  have hl := lv_entry ([.ref h0, .int p1, .ref ha]) (n := 4) (Nat.le_of_ble_eq_true rfl)
  rw [lg_entry_eq]
  generalize (lg_sl ([.ref h0, .int p1, .ref ha]) ++ List.replicate (4 - (lg_sl ([.ref h0, .int p1, .ref ha])).length) Slot.unset).toArray = ls at hl ⊢
  have hl : lv_has ls 4 [(0, .ref h0), (1, .int p1), (2, .ref ha)] := hl
  refine lv_aload_n hx hb dL_out_0 rfl (lv_at hl 2 rfl) ?_
  refine lv_iconst (v := 0) hx hb dL_out_1 (by decide) ?_
  refine lv_aload_n hx hb dL_out_2 rfl (lv_at hl 0 rfl) ?_
  refine lv_iload_n hx hb dL_out_3 rfl (lv_at hl 1 rfl) ?_
  have hPc := hP.sub (ws' := [(h0, .inr (7, [.ref xl, .ref xt, .ref xg, .ref xu, .ref xT, .ref xh, .int made, .long tim])), (xh, .inr (5, [.int num, .int ses, .long rol, .int opn, .int awl, .int aws, .int oct, .int ksf, .int ou, .ref tu, .ref tk]))]) [0, 1] rfl
  have hDc := hD.sub (ws' := [(h0, .inr (7, [.ref xl, .ref xt, .ref xg, .ref xu, .ref xT, .ref xh, .int made, .long tim])), (xh, .inr (5, [.int num, .int ses, .long rol, .int opn, .int awl, .int aws, .int oct, .int ksf, .int ou, .ref tu, .ref tk]))]) [0, 1] (by decide) rfl
  have hFc := va_free (wc := [(h0, .inr (7, [.ref xl, .ref xt, .ref xg, .ref xu, .ref xT, .ref xh, .int made, .long tim])), (xh, .inr (5, [.int num, .int ses, .long rol, .int opn, .int awl, .int aws, .int oct, .int ksf, .int ou, .ref tu, .ref tk]))]) hD hS hA [0, 1] rfl
  refine clx_i (wr := [(ha, .inl (G.2 1, 1, .inr (.inl oa)))]) (vx_runV (As := [.int p1]) (rest := [.int 0, .ref ha]) ⟨hx, hb, hml, hown, hts⟩ (c_X5_out l hst G h0 xh xl xt xg xu xT tu tk _ made tim num ses rol opn awl aws oct ksf ou p1) (cwV 1 hts gL_out_X5_out rfl rfl rfl (by decide +kernel) ⟨Nat.le_of_ble_eq_true rfl, Nat.le_of_ble_eq_true rfl⟩) (pX_V hK hTW (hTH.narrow hFc) hPc hDc (q0 := 0) rfl rfl) rfl rfl hl.1 rfl (lv_room (Nat.le_of_ble_eq_true rfl)) dL_out_4 ⟨Nat.le_of_ble_eq_true rfl, Nat.le_of_ble_eq_true rfl⟩) hP hD hS hA [0, 1] [2] rfl rfl (by decide) (by decide) (fun hf ce q9 H locs hP hD hS hce hcv hcl => ?_) (fun r hf H locs hP hD hS => ?_)
  · refine vx_catch hown [] ⟨0, 9, 12, 13⟩ [] htab (fun z h => by cases h) rfl (by decide) (hTW.use List.mem_cons_self) (hTW.use (List.mem_cons_of_mem _ List.mem_cons_self)) hce hcv hcl ?_
    refine lv_astore_n (lv' := [(3, .ref q9), (0, .ref h0), (1, .int p1), (2, .ref ha)]) hx hb dL_out_12 rfl hl (by decide) rfl (fun ls hl => ?_)
    refine lv_iconst (v := 1) hx hb dL_out_13 (by decide) ?_
    exact W.iret (v := 1) hx hb hr (fun t ht hW => ⟨⟨1, oa, rfl, by rw [← hf]; rfl, by rw [ht]; exact hP.sub [1, 2, 0] rfl, hD.sub [1, 2, 0] (by decide) rfl⟩, hS.F ht⟩) hS.2.2 dL_out_14
  · refine lv_i2l (v := r.toInt64) hx hb dL_out_7 rfl ?_
    refine va_last (f := oa) hx hb hK.1 hP hD hS 0 1 rfl rfl (vp_in_iff.mpr (by decide)) dL_out_8 (fun H locs hP hD hS => ?_)
    refine lv_goto (tgt := 15) hx hb dL_out_9 (by decide) ?_
    refine lv_iconst (v := 0) hx hb dL_out_15 (by decide) ?_
    exact W.iret (v := 0) hx hb hr (fun t ht hW => ⟨⟨0, vp_updL oa (0 : Int32).toNatClampNeg r.toInt64, rfl, by rw [← hf]; rfl, by rw [ht]; exact hP.sub [1, 2, 0] rfl, hD.sub [1, 2, 0] (by decide) rfl⟩, hS.F ht⟩) hS.2.2 dL_out_16

def F_L_digit (f : Option Int32) (oa : Nat → Int64) : Int32 × (Nat → Int64) := match f with
  | none => (1, oa)
  | some r => (0, vp_updL oa (0 : Int32).toNatClampNeg r.toInt64)
set_option maxHeartbeats 4000000 in
set_option maxRecDepth 100000 in
theorem c_L_digit (l : Launch) (hst : l.stackTraces = false) (G : gG) (h0 xl xt xg xu xT xh tu tk ha : Nat) (sz : Nat) (made : Int32) (tim : Int64) (num ses : Int32) (rol : Int64) (opn awl aws oct ksf ou : Int32) (oa : Nat → Int64) (p1 : Int32) : Met l yL_digit wsL_digit ({ frames := 8, cells := 1, slots := 6, locals := 119 }) (va_Pc [.ref h0, .int p1, .ref ha] (pX G [(h0, .inr (7, [.ref xl, .ref xt, .ref xg, .ref xu, .ref xT, .ref xh, .int made, .long tim])), (xh, .inr (5, [.int num, .int ses, .long rol, .int opn, .int awl, .int aws, .int oct, .int ksf, .int ou, .ref tu, .ref tk])), (ha, .inl (G.2 1, 1, .inr (.inl oa)))] sz)) (va_Qi (fun (r : Int32) (u : Nat → Int64) => (r, u) = F_L_digit (F_X5_digit made tim num ses rol opn awl aws oct ksf ou p1) oa) (fun u t => pO G [(h0, .inr (7, [.ref xl, .ref xt, .ref xg, .ref xu, .ref xT, .ref xh, .int made, .long tim])), (xh, .inr (5, [.int num, .int ses, .long rol, .int opn, .int awl, .int aws, .int oct, .int ksf, .int ou, .ref tu, .ref tk])), (ha, .inl (G.2 1, 1, .inr (.inl u)))] (va_A [(h0, .inr (7, [.ref xl, .ref xt, .ref xg, .ref xu, .ref xT, .ref xh, .int made, .long tim])), (xh, .inr (5, [.int num, .int ses, .long rol, .int opn, .int awl, .int aws, .int oct, .int ksf, .int ou, .ref tu, .ref tk])), (ha, .inl (G.2 1, 1, .inr (.inl oa)))] sz) t) (va_A [(h0, .inr (7, [.ref xl, .ref xt, .ref xg, .ref xu, .ref xT, .ref xh, .int made, .long tim])), (xh, .inr (5, [.int num, .int ses, .long rol, .int opn, .int awl, .int aws, .int oct, .int ksf, .int ou, .ref tu, .ref tk])), (ha, .inl (G.2 1, 1, .inr (.inl oa)))] sz)) 1 6 (va_A [(h0, .inr (7, [.ref xl, .ref xt, .ref xg, .ref xu, .ref xT, .ref xh, .int made, .long tim])), (xh, .inr (5, [.int num, .int ses, .long rol, .int opn, .int awl, .int aws, .int oct, .int ksf, .int ou, .ref tu, .ref tk])), (ha, .inl (G.2 1, 1, .inr (.inl oa)))] sz) := by
  refine va_MetW (cc := cL_digit) (maxL := 4) (ret := (some .int)) (hh := [(0, 9, 12, 13)]) (by decide) rfl ?_
  intro p e s m args below meth c s₁ B hml hv
  obtain ⟨rfl, ⟨hsz, hP, hK, hD0⟩, hTW, hTH⟩ := hv
  have hx := B.exec
  have hb := B.bytes
  have hr := B.returns
  have hts := atoms_spec (ws := wsL_digit) B.pre
  have hown : s.vm.findClass RL = some m.cls := findClass_of_methodNamed B.named
  have hlocks := B.notSynchronized
  have htab : c.exceptionTable.toList = tableOf [(0, 9, 12, 13)] := vx_table (x := yL_digit) B (hts _ List.mem_cons_self)
  subst hsz
  have hD := hD0.self (sz := s.heap.size)
  generalize hAe : va_A [(h0, .inr (7, [.ref xl, .ref xt, .ref xg, .ref xu, .ref xT, .ref xh, .int made, .long tim])), (xh, .inr (5, [.int num, .int ses, .long rol, .int opn, .int awl, .int aws, .int oct, .int ksf, .int ou, .ref tu, .ref tk])), (ha, .inl (G.2 1, 1, .inr (.inl oa)))] s.heap.size = A at hD hTH ⊢
  have hA : ∀ q : Nat, s.heap.size ≤ q → A q := fun q h => by rw [← hAe]; exact Or.inr h
  have hS : va_S A s.heap s.heap [] := va_S.rf
  have hP : va_P G.1 vwCl [(h0, .inr (7, [.ref xl, .ref xt, .ref xg, .ref xu, .ref xT, .ref xh, .int made, .long tim])), (xh, .inr (5, [.int num, .int ses, .long rol, .int opn, .int awl, .int aws, .int oct, .int ksf, .int ou, .ref tu, .ref tk])), (ha, .inl (G.2 1, 1, .inr (.inl oa)))] s.heap := hP
  have hl := lv_entry ([.ref h0, .int p1, .ref ha]) (n := 4) (Nat.le_of_ble_eq_true rfl)
  rw [lg_entry_eq]
  generalize (lg_sl ([.ref h0, .int p1, .ref ha]) ++ List.replicate (4 - (lg_sl ([.ref h0, .int p1, .ref ha])).length) Slot.unset).toArray = ls at hl ⊢
  have hl : lv_has ls 4 [(0, .ref h0), (1, .int p1), (2, .ref ha)] := hl
  refine lv_aload_n hx hb dL_digit_0 rfl (lv_at hl 2 rfl) ?_
  refine lv_iconst (v := 0) hx hb dL_digit_1 (by decide) ?_
  refine lv_aload_n hx hb dL_digit_2 rfl (lv_at hl 0 rfl) ?_
  refine lv_iload_n hx hb dL_digit_3 rfl (lv_at hl 1 rfl) ?_
  have hPc := hP.sub (ws' := [(h0, .inr (7, [.ref xl, .ref xt, .ref xg, .ref xu, .ref xT, .ref xh, .int made, .long tim])), (xh, .inr (5, [.int num, .int ses, .long rol, .int opn, .int awl, .int aws, .int oct, .int ksf, .int ou, .ref tu, .ref tk]))]) [0, 1] rfl
  have hDc := hD.sub (ws' := [(h0, .inr (7, [.ref xl, .ref xt, .ref xg, .ref xu, .ref xT, .ref xh, .int made, .long tim])), (xh, .inr (5, [.int num, .int ses, .long rol, .int opn, .int awl, .int aws, .int oct, .int ksf, .int ou, .ref tu, .ref tk]))]) [0, 1] (by decide) rfl
  have hFc := va_free (wc := [(h0, .inr (7, [.ref xl, .ref xt, .ref xg, .ref xu, .ref xT, .ref xh, .int made, .long tim])), (xh, .inr (5, [.int num, .int ses, .long rol, .int opn, .int awl, .int aws, .int oct, .int ksf, .int ou, .ref tu, .ref tk]))]) hD hS hA [0, 1] rfl
  refine clx_i (wr := [(ha, .inl (G.2 1, 1, .inr (.inl oa)))]) (vx_runV (As := [.int p1]) (rest := [.int 0, .ref ha]) ⟨hx, hb, hml, hown, hts⟩ (c_X5_digit l hst G h0 xh xl xt xg xu xT tu tk _ made tim num ses rol opn awl aws oct ksf ou p1) (cwV 1 hts gL_digit_X5_digit rfl rfl rfl (by decide +kernel) ⟨Nat.le_of_ble_eq_true rfl, Nat.le_of_ble_eq_true rfl⟩) (pX_V hK hTW (hTH.narrow hFc) hPc hDc (q0 := 0) rfl rfl) rfl rfl hl.1 rfl (lv_room (Nat.le_of_ble_eq_true rfl)) dL_digit_4 ⟨Nat.le_of_ble_eq_true rfl, Nat.le_of_ble_eq_true rfl⟩) hP hD hS hA [0, 1] [2] rfl rfl (by decide) (by decide) (fun hf ce q9 H locs hP hD hS hce hcv hcl => ?_) (fun r hf H locs hP hD hS => ?_)
  · refine vx_catch hown [] ⟨0, 9, 12, 13⟩ [] htab (fun z h => by cases h) rfl (by decide) (hTW.use List.mem_cons_self) (hTW.use (List.mem_cons_of_mem _ List.mem_cons_self)) hce hcv hcl ?_
    refine lv_astore_n (lv' := [(3, .ref q9), (0, .ref h0), (1, .int p1), (2, .ref ha)]) hx hb dL_digit_12 rfl hl (by decide) rfl (fun ls hl => ?_)
    refine lv_iconst (v := 1) hx hb dL_digit_13 (by decide) ?_
    exact W.iret (v := 1) hx hb hr (fun t ht hW => ⟨⟨1, oa, rfl, by rw [← hf]; rfl, by rw [ht]; exact hP.sub [1, 2, 0] rfl, hD.sub [1, 2, 0] (by decide) rfl⟩, hS.F ht⟩) hS.2.2 dL_digit_14
  · refine lv_i2l (v := r.toInt64) hx hb dL_digit_7 rfl ?_
    refine va_last (f := oa) hx hb hK.1 hP hD hS 0 1 rfl rfl (vp_in_iff.mpr (by decide)) dL_digit_8 (fun H locs hP hD hS => ?_)
    refine lv_goto (tgt := 15) hx hb dL_digit_9 (by decide) ?_
    refine lv_iconst (v := 0) hx hb dL_digit_15 (by decide) ?_
    exact W.iret (v := 0) hx hb hr (fun t ht hW => ⟨⟨0, vp_updL oa (0 : Int32).toNatClampNeg r.toInt64, rfl, by rw [← hf]; rfl, by rw [ht]; exact hP.sub [1, 2, 0] rfl, hD.sub [1, 2, 0] (by decide) rfl⟩, hS.F ht⟩) hS.2.2 dL_digit_16
