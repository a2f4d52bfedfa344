theorem in_84 {h n : Int32} (hh : vp_in h 4) (hn : vp_in n 21) : vp_in (21 * h + n) 84 := by
  obtain ⟨a, ha, rfl⟩ := vp_in_of hh (by decide)
  obtain ⟨b, hb, rfl⟩ := vp_in_of hn (by decide)
  have e : (21 : Int32) * nI a + nI b = nI (21 * a + b) := by
    rw [show (21 : Int32) = nI 21 from rfl, pk_mul, nI_add]
  rw [e]
  exact vp_in_nI (by omega) (by omega)
theorem in_cl {x : Int32} {n : Nat} (h : vp_in x n) (hn : n < 2 ^ 31) : (x.toNatClampNeg : Int) = x.toInt := by
  obtain ⟨a, ha, rfl⟩ := vp_in_of h hn
  rw [nI_clamp (by omega), nI_toInt (by omega)]
theorem in_tr {r t : Int32} {n N : Nat} (hr : vp_in r n) (ht : vp_in t N) (h : ¬ t ≤ r) : vp_in r N := by
  have a := vp_in_iff.mp hr
  have b := vp_in_iff.mp ht
  have c := i_nle h
  exact vp_in_iff.mpr ⟨a.1, by omega⟩
theorem in_up {k : Int32} {n : Nat} (hn : n + 1 < 2 ^ 31) (h : vp_in k n) : vp_in (k + 1) (n + 1) := by
  obtain ⟨j, hj, rfl⟩ := vp_in_of h (by omega)
  rw [nI_1]
  exact vp_in_nI (by omega) (by omega)
theorem rd_abs {r t : Int32} {N : Nat} (hN : N < 2 ^ 31) (ht : vp_in t N) (hr : vp_in r (t.toNatClampNeg + 1)) (h : t ≤ r) (h2 : ¬ r = t) : False := by
  have a := vp_in_iff.mp hr
  have b := i_le h
  have c := in_cl ht hN
  exact h2 (Int32.toInt_inj.1 (by omega))
theorem rd_inc {r t : Int32} {N : Nat} (hN : N < 2 ^ 31) (ht : vp_in t N) (hr : vp_in r (t.toNatClampNeg + 1)) (h : ¬ t ≤ r) : vp_in (r + 1) (t.toNatClampNeg + 1) := by
  have c := in_cl ht hN
  exact i_inc hr (i_not h) (by omega)
theorem in_l3 {i : Int32} (h0 : ¬ i < 0) (h : i ≤ 299) : vp_in i 300 := vp_in_iff.mpr ⟨i_nlt h0, by have a : i.toInt ≤ 299 := i_le h; omega⟩
theorem L_nle {x y : Int64} (h : ¬ x ≤ y) : y.toInt < x.toInt := Int.not_le.mp fun q => h (Int64.le_iff_toInt_le.mpr q)
theorem L_le {x y : Int64} (h : x ≤ y) : x.toInt ≤ y.toInt := Int64.le_iff_toInt_le.mp h
theorem L_lt {x y : Int64} (h : x < y) : x.toInt < y.toInt := Int64.lt_iff_toInt_lt.mp h
theorem L_nlt {x y : Int64} (h : ¬ x < y) : y.toInt ≤ x.toInt := Int.not_lt.mp fun q => h (Int64.lt_iff_toInt_lt.mpr q)
theorem L_eq {x y : Int64} (h : x.toInt = y.toInt) : x = y := Int64.toInt_inj.1 h
theorem lg_lt {x y : Int64} : lg_cmp x y < 0 ↔ x < y := by
  unfold lg_cmp
  by_cases h1 : y < x
  · have h2 : ¬ x < y := fun q => by have := L_lt q; have := L_lt h1; omega
    rw [if_pos h1]
    exact ⟨fun q => absurd q (by decide), fun q => absurd q h2⟩
  · by_cases h3 : x = y
    · rw [if_neg h1, if_pos h3]
      exact ⟨fun q => absurd q (by decide), fun q => by rw [h3] at q; have := L_lt q; omega⟩
    · rw [if_neg h1, if_neg h3]
      refine ⟨fun _ => Int64.lt_iff_toInt_lt.mpr ?_, fun _ => by decide⟩
      have a := L_nlt h1
      have b : x.toInt ≠ y.toInt := fun q => h3 (L_eq q)
      omega
theorem lg_gt {x y : Int64} : 0 < lg_cmp x y ↔ y < x := by
  unfold lg_cmp
  by_cases h1 : y < x
  · rw [if_pos h1]
    exact ⟨fun _ => h1, fun _ => by decide⟩
  · by_cases h3 : x = y
    · rw [if_neg h1, if_pos h3]
      exact ⟨fun q => absurd q (by decide), fun q => absurd q h1⟩
    · rw [if_neg h1, if_neg h3]
      exact ⟨fun q => absurd q (by decide), fun q => absurd q h1⟩
theorem lg_le {x y : Int64} : lg_cmp x y ≤ 0 ↔ x ≤ y := by
  constructor
  · intro h
    exact Int64.le_iff_toInt_le.mpr (Int.not_lt.mp fun q => absurd (lg_gt.mpr (Int64.lt_iff_toInt_lt.mpr q)) (fun z => by have := i_lt z; have := i_le h; omega))
  · intro h
    exact Int32.le_iff_toInt_le.mpr (Int.not_lt.mp fun q => by have := L_lt (lg_gt.mp (Int32.lt_iff_toInt_lt.mpr q)); have := L_le h; omega)
theorem lg_ge {x y : Int64} : 0 ≤ lg_cmp x y ↔ y ≤ x := by
  constructor
  · intro h
    exact Int64.le_iff_toInt_le.mpr (Int.not_lt.mp fun q => absurd (lg_lt.mpr (Int64.lt_iff_toInt_lt.mpr q)) (fun z => by have := i_lt z; have := i_le h; omega))
  · intro h
    exact Int32.le_iff_toInt_le.mpr (Int.not_lt.mp fun q => by have := L_lt (lg_lt.mp (Int32.lt_iff_toInt_lt.mpr q)); have := L_le h; omega)
theorem dv10 (v : Int64) (k : Nat) (h : ¬ lg_cmp v 0 ≤ 0) (hk : v.toInt < 10 ^ (k + 1)) : (v / 10).toInt < 10 ^ k := by
  have h1 : (0 : Int) < v.toInt := by have := L_nle (fun q => h (lg_le.mpr q)); exact this
  have e : (v / 10).toInt = v.toInt / 10 := by
    have h2 : v.toInt = ((v.toInt.toNat : Nat) : Int) := by omega
    rw [Int64.toInt_div_of_ne_right v 10 (by decide)]
    rw [show (10 : Int64).toInt = 10 from rfl]
    exact Int.tdiv_eq_ediv_of_nonneg (by omega)
  rw [e]
  have : (10 : Int) ^ (k + 1) = 10 ^ k * 10 := Int.pow_succ 10 k
  omega
theorem lo32 (x : Int32) : 0 ≤ (x.toInt64 &&& 4294967295).toInt ∧ (x.toInt64 &&& 4294967295).toInt < 4294967296 := by
  have h : (x.toInt64 &&& 4294967295).toBitVec.toNat < 4294967296 := by
    rw [Int64.toBitVec_and, BitVec.toNat_and]
    exact Nat.lt_of_le_of_lt Nat.and_le_right (by decide)
  have e : (x.toInt64 &&& 4294967295).toInt = ((x.toInt64 &&& 4294967295).toBitVec.toNat : Int) := by
    show (x.toInt64 &&& 4294967295).toBitVec.toInt = _
    rw [BitVec.toInt_eq_toNat_of_lt (by omega)]
  omega

def F_X5_tester (xh : Nat) (made : Int32) (tim : Int64) (fT : Nat → Option Nat) (num : Int32) (ses : Int32) (rol : Int64) (opn : Int32) (awl : Int32) (aws : Int32) (oct : Int32) (ksf : Int32) (ou : Int32) (ta : Nat → Nat) (p1 : Int32) : Int32 × Nat :=
  (if p1 < 1 then ((-2), xh) else (if p1 ≤ 4 then (num, (ta (p1 - 1).toNatClampNeg)) else ((-2), xh)))
set_option maxHeartbeats 4000000 in
set_option maxRecDepth 100000 in
theorem c_X5_tester (l : Launch) (G : gG) (h0 xT xh xl xt xg xu tu tk : Nat) (sz : Nat) (made : Int32) (tim : Int64) (fT : Nat → Option Nat) (num : Int32) (ses : Int32) (rol : Int64) (opn : Int32) (awl : Int32) (aws : Int32) (oct : Int32) (ksf : Int32) (ou : Int32) (ta : Nat → Nat) (p1 : Int32) (hT : ∀ j : Nat, j < 4 → fT j = some (ta j)) : Met l yX5_tester wsX5_tester ({ frames := 0, cells := 0, slots := 0, locals := 0 }) (va_Pc [.ref h0, .int p1] (pR G [(h0, .inr (7, [.ref xl, .ref xt, .ref xg, .ref xu, .ref xT, .ref xh, .int made, .long tim])), (xT, .inl (G.2 4, 4, .inr (.inr (.inr (.inr fT))))), (xh, .inr (5, [.int num, .int ses, .long rol, .int opn, .int awl, .int aws, .int oct, .int ksf, .int ou, .ref tu, .ref tk]))] sz)) (va_Qi (fun (r : Int32) (u : Nat) => (r, u) = F_X5_tester xh made tim fT num ses rol opn awl aws oct ksf ou ta p1) (fun u t => pO G [(h0, .inr (7, [.ref xl, .ref xt, .ref xg, .ref xu, .ref xT, .ref u, .int made, .long tim])), (xT, .inl (G.2 4, 4, .inr (.inr (.inr (.inr fT))))), (xh, .inr (5, [.int num, .int ses, .long rol, .int opn, .int awl, .int aws, .int oct, .int ksf, .int ou, .ref tu, .ref tk]))] (va_A [(h0, .inr (7, [.ref xl, .ref xt, .ref xg, .ref xu, .ref xT, .ref xh, .int made, .long tim])), (xT, .inl (G.2 4, 4, .inr (.inr (.inr (.inr fT))))), (xh, .inr (5, [.int num, .int ses, .long rol, .int opn, .int awl, .int aws, .int oct, .int ksf, .int ou, .ref tu, .ref tk]))] sz) t) (va_A [(h0, .inr (7, [.ref xl, .ref xt, .ref xg, .ref xu, .ref xT, .ref xh, .int made, .long tim])), (xT, .inl (G.2 4, 4, .inr (.inr (.inr (.inr fT))))), (xh, .inr (5, [.int num, .int ses, .long rol, .int opn, .int awl, .int aws, .int oct, .int ksf, .int ou, .ref tu, .ref tk]))] sz)) 0 0 (va_A [(h0, .inr (7, [.ref xl, .ref xt, .ref xg, .ref xu, .ref xT, .ref xh, .int made, .long tim])), (xT, .inl (G.2 4, 4, .inr (.inr (.inr (.inr fT))))), (xh, .inr (5, [.int num, .int ses, .long rol, .int opn, .int awl, .int aws, .int oct, .int ksf, .int ou, .ref tu, .ref tk]))] sz) := by
  refine Met.ofW (cc := cX5_tester) (maxL := 3) (ret := (some .int)) (by decide) rfl ?_
  intro p e s m args below meth c s₁ B hml hv
  obtain ⟨rfl, hsz, hP, hK, hD0⟩ := hv
  have hx := B.exec
  have hb := B.bytes
  have hr := B.returns
  have hts := atoms_spec (ws := wsX5_tester) B.pre
  have hown : s.vm.findClass RX5 = some m.cls := findClass_of_methodNamed B.named
  have hlocks := B.notSynchronized
  subst hsz
  have iX3 : ∀ w ∈ wsX30, w ∈ wsX5_tester := by decide +kernel
  have iX5 : ∀ w ∈ wsX50, w ∈ wsX5_tester := by decide +kernel
  have hD := hD0.self (sz := s.heap.size)
  generalize hAe : va_A [(h0, .inr (7, [.ref xl, .ref xt, .ref xg, .ref xu, .ref xT, .ref xh, .int made, .long tim])), (xT, .inl (G.2 4, 4, .inr (.inr (.inr (.inr fT))))), (xh, .inr (5, [.int num, .int ses, .long rol, .int opn, .int awl, .int aws, .int oct, .int ksf, .int ou, .ref tu, .ref tk]))] s.heap.size = A at hD ⊢
  have hA : ∀ q : Nat, s.heap.size ≤ q → A q := fun q h => by rw [← hAe]; exact Or.inr h
  have hS : va_S A s.heap s.heap [] := va_S.rf
  have hP : va_P G.1 vwCl [(h0, .inr (7, [.ref xl, .ref xt, .ref xg, .ref xu, .ref xT, .ref xh, .int made, .long tim])), (xT, .inl (G.2 4, 4, .inr (.inr (.inr (.inr fT))))), (xh, .inr (5, [.int num, .int ses, .long rol, .int opn, .int awl, .int aws, .int oct, .int ksf, .int ou, .ref tu, .ref tk]))] s.heap := hP
  have hl := lv_entry ([.ref h0, .int p1]) (n := 3) (Nat.le_of_ble_eq_true rfl)
  rw [lg_entry_eq]
  generalize (lg_sl ([.ref h0, .int p1]) ++ List.replicate (3 - (lg_sl ([.ref h0, .int p1])).length) Slot.unset).toArray = ls at hl ⊢
  have hl : lv_has ls 3 [(0, .ref h0), (1, .int p1)] := hl
  have hF : F_X5_tester xh made tim fT num ses rol opn awl aws oct ksf ou ta p1 = F_X5_tester xh made tim fT num ses rol opn awl aws oct ksf ou ta p1 := rfl
  refine lv_iload_n hx hb dX5_tester_0 rfl (lv_at hl 1 rfl) ?_
  refine lv_iconst (v := 1) hx hb dX5_tester_1 (by decide) ?_
  refine lv_icmp_lt (tgt := 10) hx hb dX5_tester_2 (by decide) (fun c_2 => ?_) (fun c_2 => ?_)
  · have hF := if_t hF c_2
    refine lv_bipush (v := (-2)) hx hb dX5_tester_10 (by decide) ?_
    exact W.iret (v := (-2)) hx hb hr (fun t ht hW => ⟨⟨(-2), xh, rfl, hF.symm, by rw [ht]; exact hP.sub [0, 1, 2] rfl, hD.sub [0, 1, 2] (by decide) rfl⟩, hS.F ht⟩) hS.2.2 dX5_tester_12
  · have hF := if_f hF c_2
    refine lv_iload_n hx hb dX5_tester_5 rfl (lv_at hl 1 rfl) ?_
    refine lv_iconst (v := 4) hx hb dX5_tester_6 (by decide) ?_
    refine lv_icmp_le (tgt := 13) hx hb dX5_tester_7 (by decide) (fun c_7 => ?_) (fun c_7 => ?_)
    · have hF := if_t hF c_7
      refine lv_aload_n hx hb dX5_tester_13 rfl (lv_at hl 0 rfl) ?_
      refine va_get (D := G.1) (ci := 7) (v := .ref xh) (C := RX5) (T := TX5) (N := 8) hx hb hts iX5 hown hK.1 hP 0 rfl rfl 5 (by decide) (hts (.fieldLink RX5 45 "RightsSteps" "atHand" "LRightsSteps$Tester;") (by decide +kernel)) (fun _ h9 => h9) rfl dX5_tester_14 ?_
      refine va_getN (D := G.1) (ci := 5) (v := .int num) (C := RX3) (T := TX3) (N := 11) hx hb hts iX3 hown hK.1 hP 2 rfl rfl 0 (by decide) (va_Nw.use rfl hK.2.2.1) (fun _ h9 => h9) rfl dX5_tester_17 ?_
      refine lv_istore_n (lv' := [(2, .int num), (0, .ref h0), (1, .int p1)]) hx hb dX5_tester_20 rfl hl (by decide) rfl (fun ls hl => ?_)
      refine lv_aload_n hx hb dX5_tester_21 rfl (lv_at hl 1 rfl) ?_
      refine lv_aload_n hx hb dX5_tester_22 rfl (lv_at hl 1 rfl) ?_
      refine va_get (D := G.1) (ci := 7) (v := .ref xT) (C := RX5) (T := TX5) (N := 8) hx hb hts iX5 hown hK.1 hP 0 rfl rfl 4 (by decide) (hts (.fieldLink RX5 38 "RightsSteps" "testers" "[LRightsSteps$Tester;") (by decide +kernel)) (fun _ h9 => h9) rfl dX5_tester_23 ?_
      refine lv_iload_n hx hb dX5_tester_26 rfl (lv_at hl 2 rfl) ?_
      refine lv_iconst (v := 1) hx hb dX5_tester_27 (by decide) ?_
      refine lv_isub hx hb dX5_tester_28 ?_
      refine va_aldq (f := fT) hx hb hK.1 hP 1 4 rfl rfl (in_t4 c_2 c_7) dX5_tester_29 ?_
      refine W.eq (g2 := F0 m 30 ls (.ref (ta (p1 - 1).toNatClampNeg) :: .ref h0 :: [])) (by rw [hT _ (hi_lt (in_t4 c_2 c_7))]; rfl) ?_
      refine va_put (D := G.1) (ci := 7) (v := .ref (ta (p1 - 1).toNatClampNeg)) (ty := .object "RightsSteps$Tester") (C := RX5) (T := TX5) (N := 8) hx hb hts iX5 tyX5 tyX5_ok nmX5 hown hK.1 hP hD hS 0 rfl rfl 5 (by decide) (hts (.fieldLink RX5 45 "RightsSteps" "atHand" "LRightsSteps$Tester;") (by decide +kernel)) (fun _ h9 => h9) rfl (by decide +kernel) rfl rfl (Nat.le_of_ble_eq_true rfl) dX5_tester_30 (fun H locs hP hD hS => ?_)
      have hP : va_P G.1 vwCl [(h0, .inr (7, [.ref xl, .ref xt, .ref xg, .ref xu, .ref xT, .ref (ta (p1 - 1).toNatClampNeg), .int made, .long tim])), (xT, .inl (G.2 4, 4, .inr (.inr (.inr (.inr fT))))), (xh, .inr (5, [.int num, .int ses, .long rol, .int opn, .int awl, .int aws, .int oct, .int ksf, .int ou, .ref tu, .ref tk]))] H := hP
      have hD : va_D A [(h0, .inr (7, [.ref xl, .ref xt, .ref xg, .ref xu, .ref xT, .ref (ta (p1 - 1).toNatClampNeg), .int made, .long tim])), (xT, .inl (G.2 4, 4, .inr (.inr (.inr (.inr fT))))), (xh, .inr (5, [.int num, .int ses, .long rol, .int opn, .int awl, .int aws, .int oct, .int ksf, .int ou, .ref tu, .ref tk]))] := hD
      refine lv_iload_n hx hb dX5_tester_33 rfl (lv_at hl 0 rfl) ?_
      exact W.iret (v := num) hx hb hr (fun t ht hW => ⟨⟨num, (ta (p1 - 1).toNatClampNeg), rfl, hF.symm, by rw [ht]; exact hP.sub [0, 1, 2] rfl, hD.sub [0, 1, 2] (by decide) rfl⟩, hS.F ht⟩) hS.2.2 dX5_tester_34
    · have hF := if_f hF c_7
      refine lv_bipush (v := (-2)) hx hb dX5_tester_10 (by decide) ?_
      exact W.iret (v := (-2)) hx hb hr (fun t ht hW => ⟨⟨(-2), xh, rfl, hF.symm, by rw [ht]; exact hP.sub [0, 1, 2] rfl, hD.sub [0, 1, 2] (by decide) rfl⟩, hS.F ht⟩) hS.2.2 dX5_tester_12

def F_X6_thrown (cod : Int32) (mt : Int64) (hd : Int32) (mmd : Int32) (typ : Int32) (rd : Int32) (giv : Int32) (us : Int32) : Int32 :=
  cod
set_option maxHeartbeats 4000000 in
set_option maxRecDepth 100000 in
theorem c_X6_thrown (l : Launch) (G : gG) (m0 bkd btr bdl btp bgv bse bro bop baw bsd bot bct bcr bud blo bwl bub bul bua : Nat) (sz : Nat) (cod : Int32) (mt : Int64) (hd : Int32) (mmd : Int32) (typ : Int32) (rd : Int32) (giv : Int32) (us : Int32) : Met l yX6_thrown wsX6_thrown ({ frames := 0, cells := 0, slots := 0, locals := 0 }) (va_Pc [.ref m0] (pR G [(m0, .inr (8, [.int cod, .long mt, .int hd, .int mmd, .ref bkd, .ref btr, .ref bdl, .int typ, .int rd, .ref btp, .int giv, .ref bgv, .ref bse, .ref bro, .ref bop, .ref baw, .ref bsd, .ref bot, .ref bct, .ref bcr, .ref bud, .ref blo, .ref bwl, .int us, .ref bub, .ref bul, .ref bua]))] sz)) (pQ (.int (F_X6_thrown cod mt hd mmd typ rd giv us))) 0 0 (fun _ => False) := by
  refine Met.ofW (cc := cX6_thrown) (maxL := 1) (ret := (some .int)) (by decide) rfl ?_
  intro p e s m args below meth c s₁ B hml hv
  obtain ⟨rfl, hsz, hP, hK, hD0⟩ := hv
  have hx := B.exec
  have hb := B.bytes
  have hr := B.returns
  have hts := atoms_spec (ws := wsX6_thrown) B.pre
  have hown : s.vm.findClass RX6 = some m.cls := findClass_of_methodNamed B.named
  have hlocks := B.notSynchronized
  subst hsz
  have iX6 : ∀ w ∈ wsX60, w ∈ wsX6_thrown := by decide +kernel
  have hD := hD0
  have hP : va_P G.1 vwCl [(m0, .inr (8, [.int cod, .long mt, .int hd, .int mmd, .ref bkd, .ref btr, .ref bdl, .int typ, .int rd, .ref btp, .int giv, .ref bgv, .ref bse, .ref bro, .ref bop, .ref baw, .ref bsd, .ref bot, .ref bct, .ref bcr, .ref bud, .ref blo, .ref bwl, .int us, .ref bub, .ref bul, .ref bua]))] s.heap := hP
  have hl := lv_entry ([.ref m0]) (n := 1) (Nat.le_of_ble_eq_true rfl)
  rw [lg_entry_eq]
  generalize (lg_sl ([.ref m0]) ++ List.replicate (1 - (lg_sl ([.ref m0])).length) Slot.unset).toArray = ls at hl ⊢
  have hl : lv_has ls 1 [(0, .ref m0)] := hl
  have hF : F_X6_thrown cod mt hd mmd typ rd giv us = F_X6_thrown cod mt hd mmd typ rd giv us := rfl
  refine lv_aload_n hx hb dX6_thrown_0 rfl (lv_at hl 0 rfl) ?_
  refine va_get (D := G.1) (ci := 8) (v := .int cod) (C := RX6) (T := TX6) (N := 27) hx hb hts iX6 hown hK.1 hP 0 rfl rfl 0 (by decide) (hts (.fieldLink RX6 71 "RightsStepsModel" "code" "I") (by decide +kernel)) (fun _ h9 => h9) rfl dX6_thrown_1 ?_
  exact W.iret (v := cod) hx hb hr (fun t ht hW => ⟨congrArg (fun z : Int32 => Outcome.returned (some (.int z))) hF.symm, ht⟩) (fun _ h => by cases h) dX6_thrown_4

def F_X6_isMade (cod : Int32) (mt : Int64) (hd : Int32) (mmd : Int32) (typ : Int32) (rd : Int32) (giv : Int32) (us : Int32) (mtr : Nat → Int32) (p1 : Int32) : Int32 :=
  (if p1 < 1 then 0 else (if 20 < p1 then 0 else (if (mtr (p1 : Int32).toNatClampNeg) ≤ 0 then 0 else 1)))
set_option maxHeartbeats 4000000 in
set_option maxRecDepth 100000 in
theorem c_X6_isMade (l : Launch) (G : gG) (m0 btr bkd bdl btp bgv bse bro bop baw bsd bot bct bcr bud blo bwl bub bul bua : Nat) (sz : Nat) (cod : Int32) (mt : Int64) (hd : Int32) (mmd : Int32) (typ : Int32) (rd : Int32) (giv : Int32) (us : Int32) (mtr : Nat → Int32) (p1 : Int32) : Met l yX6_isMade wsX6_isMade ({ frames := 0, cells := 0, slots := 0, locals := 0 }) (va_Pc [.ref m0, .int p1] (pR G [(m0, .inr (8, [.int cod, .long mt, .int hd, .int mmd, .ref bkd, .ref btr, .ref bdl, .int typ, .int rd, .ref btp, .int giv, .ref bgv, .ref bse, .ref bro, .ref bop, .ref baw, .ref bsd, .ref bot, .ref bct, .ref bcr, .ref bud, .ref blo, .ref bwl, .int us, .ref bub, .ref bul, .ref bua])), (btr, .inl (G.2 0, 21, .inl mtr))] sz)) (pQ (.int (F_X6_isMade cod mt hd mmd typ rd giv us mtr p1))) 0 0 (fun _ => False) := by
  refine Met.ofW (cc := cX6_isMade) (maxL := 2) (ret := (some .boolean)) (by decide) rfl ?_
  intro p e s m args below meth c s₁ B hml hv
  obtain ⟨rfl, hsz, hP, hK, hD0⟩ := hv
  have hx := B.exec
  have hb := B.bytes
  have hr := B.returns
  have hts := atoms_spec (ws := wsX6_isMade) B.pre
  have hown : s.vm.findClass RX6 = some m.cls := findClass_of_methodNamed B.named
  have hlocks := B.notSynchronized
  subst hsz
  have iX6 : ∀ w ∈ wsX60, w ∈ wsX6_isMade := by decide +kernel
  have hD := hD0
  have hP : va_P G.1 vwCl [(m0, .inr (8, [.int cod, .long mt, .int hd, .int mmd, .ref bkd, .ref btr, .ref bdl, .int typ, .int rd, .ref btp, .int giv, .ref bgv, .ref bse, .ref bro, .ref bop, .ref baw, .ref bsd, .ref bot, .ref bct, .ref bcr, .ref bud, .ref blo, .ref bwl, .int us, .ref bub, .ref bul, .ref bua])), (btr, .inl (G.2 0, 21, .inl mtr))] s.heap := hP
  have hl := lv_entry ([.ref m0, .int p1]) (n := 2) (Nat.le_of_ble_eq_true rfl)
  rw [lg_entry_eq]
  generalize (lg_sl ([.ref m0, .int p1]) ++ List.replicate (2 - (lg_sl ([.ref m0, .int p1])).length) Slot.unset).toArray = ls at hl ⊢
  have hl : lv_has ls 2 [(0, .ref m0), (1, .int p1)] := hl
  have hF : F_X6_isMade cod mt hd mmd typ rd giv us mtr p1 = F_X6_isMade cod mt hd mmd typ rd giv us mtr p1 := rfl
  refine lv_iload_n hx hb dX6_isMade_0 rfl (lv_at hl 1 rfl) ?_
  refine lv_iconst (v := 1) hx hb dX6_isMade_1 (by decide) ?_
  refine lv_icmp_lt (tgt := 24) hx hb dX6_isMade_2 (by decide) (fun c_2 => ?_) (fun c_2 => ?_)
  · have hF := if_t hF c_2
    refine lv_iconst (v := 0) hx hb dX6_isMade_24 (by decide) ?_
    exact W.zret (v := 0) (ty := .boolean) hx hb hr rfl (fun t ht hW => ⟨congrArg (fun z : Int32 => Outcome.returned (some (.int z))) hF.symm, ht⟩) (fun _ h => by cases h) dX6_isMade_25
  · have hF := if_f hF c_2
    refine lv_iload_n hx hb dX6_isMade_5 rfl (lv_at hl 1 rfl) ?_
    refine lv_bipush (v := 20) hx hb dX6_isMade_6 (by decide) ?_
    refine lv_icmp_gt (tgt := 24) hx hb dX6_isMade_8 (by decide) (fun c_8 => ?_) (fun c_8 => ?_)
    · have hF := if_t hF c_8
      refine lv_iconst (v := 0) hx hb dX6_isMade_24 (by decide) ?_
      exact W.zret (v := 0) (ty := .boolean) hx hb hr rfl (fun t ht hW => ⟨congrArg (fun z : Int32 => Outcome.returned (some (.int z))) hF.symm, ht⟩) (fun _ h => by cases h) dX6_isMade_25
    · have hF := if_f hF c_8
      refine lv_aload_n hx hb dX6_isMade_11 rfl (lv_at hl 0 rfl) ?_
      refine va_get (D := G.1) (ci := 8) (v := .ref btr) (C := RX6) (T := TX6) (N := 27) hx hb hts iX6 hown hK.1 hP 0 rfl rfl 5 (by decide) (hts (.fieldLink RX6 13 "RightsStepsModel" "tries" "[I") (by decide +kernel)) (fun _ h9 => h9) rfl dX6_isMade_12 ?_
      refine lv_iload_n hx hb dX6_isMade_15 rfl (lv_at hl 1 rfl) ?_
      refine va_iald (f := mtr) hx hb hK.1 hP 1 0 rfl rfl (in_lv c_2 c_8) dX6_isMade_16 ?_
      refine lv_if_le (tgt := 24) hx hb dX6_isMade_17 (by decide) (fun c_17 => ?_) (fun c_17 => ?_)
      · have hF := if_t hF c_17
        refine lv_iconst (v := 0) hx hb dX6_isMade_24 (by decide) ?_
        exact W.zret (v := 0) (ty := .boolean) hx hb hr rfl (fun t ht hW => ⟨congrArg (fun z : Int32 => Outcome.returned (some (.int z))) hF.symm, ht⟩) (fun _ h => by cases h) dX6_isMade_25
      · have hF := if_f hF c_17
        refine lv_iconst (v := 1) hx hb dX6_isMade_20 (by decide) ?_
        refine lv_goto (tgt := 25) hx hb dX6_isMade_21 (by decide) ?_
        exact W.zret (v := 1) (ty := .boolean) hx hb hr rfl (fun t ht hW => ⟨congrArg (fun z : Int32 => Outcome.returned (some (.int z))) hF.symm, ht⟩) (fun _ h => by cases h) dX6_isMade_25

theorem made_in {cod hd mmd typ rd giv us : Int32} {mt : Int64} {mtr : Nat → Int32} {p1 : Int32} (h : ¬ F_X6_isMade cod mt hd mmd typ rd giv us mtr p1 = 0) : vp_in p1 21 := by
  unfold F_X6_isMade at h
  by_cases h1 : p1 < 1
  · rw [if_pos h1] at h; exact absurd rfl h
  · rw [if_neg h1] at h
    by_cases h2 : 20 < p1
    · rw [if_pos h2] at h; exact absurd rfl h
    · exact in_lv h1 h2

def F_X6_level (cod : Int32) (mt : Int64) (hd : Int32) (mmd : Int32) (typ : Int32) (rd : Int32) (giv : Int32) (us : Int32) (mkd : Nat → Int32) (mtr : Nat → Int32) (mdl : Nat → Int64) (p1 : Int32) (p2 : Int32) (p3 : Int32) (p4 : Int64) : Int32 × Int32 × Int32 × (Nat → Int32) × (Nat → Int32) × (Nat → Int64) :=
  (if p1 < 1 then ((-1), (0, mmd, mkd, mtr, mdl)) else (if p1 ≤ 20 then (if p2 < 0 then ((-2), (0, mmd, mkd, mtr, mdl)) else (if 2 < p2 then ((-2), (0, mmd, mkd, mtr, mdl)) else (if p3 < 1 then ((-2), (0, mmd, mkd, mtr, mdl)) else (if 10 < p3 then ((-2), (0, mmd, mkd, mtr, mdl)) else (if (lg_cmp p4 0) < 0 then ((-2), (0, mmd, mkd, mtr, mdl)) else (if (lg_cmp p4 100000) ≤ 0 then (if (F_X6_isMade 0 mt hd mmd typ rd giv us mtr p1) = 0 then ((mmd + 1), (0, (mmd + 1), (upd mkd (p1 : Int32).toNatClampNeg p2), (upd mtr (p1 : Int32).toNatClampNeg p3), (vp_updL mdl (p1 : Int32).toNatClampNeg p4))) else ((-3), (0, mmd, mkd, mtr, mdl))) else ((-2), (0, mmd, mkd, mtr, mdl)))))))) else ((-1), (0, mmd, mkd, mtr, mdl))))
set_option maxHeartbeats 4000000 in
set_option maxRecDepth 100000 in
theorem c_X6_level (l : Launch) (G : gG) (m0 bkd btr bdl btp bgv bse bro bop baw bsd bot bct bcr bud blo bwl bub bul bua : Nat) (sz : Nat) (cod : Int32) (mt : Int64) (hd : Int32) (mmd : Int32) (typ : Int32) (rd : Int32) (giv : Int32) (us : Int32) (mkd : Nat → Int32) (mtr : Nat → Int32) (mdl : Nat → Int64) (p1 : Int32) (p2 : Int32) (p3 : Int32) (p4 : Int64) : Met l yX6_level wsX6_level ({ frames := 1, cells := 0, slots := 0, locals := 21 }) (va_Pc [.ref m0, .int p1, .int p2, .int p3, .long p4] (pR G [(m0, .inr (8, [.int cod, .long mt, .int hd, .int mmd, .ref bkd, .ref btr, .ref bdl, .int typ, .int rd, .ref btp, .int giv, .ref bgv, .ref bse, .ref bro, .ref bop, .ref baw, .ref bsd, .ref bot, .ref bct, .ref bcr, .ref bud, .ref blo, .ref bwl, .int us, .ref bub, .ref bul, .ref bua])), (bkd, .inl (G.2 0, 21, .inl mkd)), (btr, .inl (G.2 0, 21, .inl mtr)), (bdl, .inl (G.2 1, 21, .inr (.inl mdl)))] sz)) (va_Qi (fun (r : Int32) (u : Int32 × Int32 × (Nat → Int32) × (Nat → Int32) × (Nat → Int64)) => (r, u) = F_X6_level cod mt hd mmd typ rd giv us mkd mtr mdl p1 p2 p3 p4) (fun u t => pO G [(m0, .inr (8, [.int u.1, .long mt, .int hd, .int u.2.1, .ref bkd, .ref btr, .ref bdl, .int typ, .int rd, .ref btp, .int giv, .ref bgv, .ref bse, .ref bro, .ref bop, .ref baw, .ref bsd, .ref bot, .ref bct, .ref bcr, .ref bud, .ref blo, .ref bwl, .int us, .ref bub, .ref bul, .ref bua])), (bkd, .inl (G.2 0, 21, .inl u.2.2.1)), (btr, .inl (G.2 0, 21, .inl u.2.2.2.1)), (bdl, .inl (G.2 1, 21, .inr (.inl u.2.2.2.2)))] (va_A [(m0, .inr (8, [.int cod, .long mt, .int hd, .int mmd, .ref bkd, .ref btr, .ref bdl, .int typ, .int rd, .ref btp, .int giv, .ref bgv, .ref bse, .ref bro, .ref bop, .ref baw, .ref bsd, .ref bot, .ref bct, .ref bcr, .ref bud, .ref blo, .ref bwl, .int us, .ref bub, .ref bul, .ref bua])), (bkd, .inl (G.2 0, 21, .inl mkd)), (btr, .inl (G.2 0, 21, .inl mtr)), (bdl, .inl (G.2 1, 21, .inr (.inl mdl)))] sz) t) (va_A [(m0, .inr (8, [.int cod, .long mt, .int hd, .int mmd, .ref bkd, .ref btr, .ref bdl, .int typ, .int rd, .ref btp, .int giv, .ref bgv, .ref bse, .ref bro, .ref bop, .ref baw, .ref bsd, .ref bot, .ref bct, .ref bcr, .ref bud, .ref blo, .ref bwl, .int us, .ref bub, .ref bul, .ref bua])), (bkd, .inl (G.2 0, 21, .inl mkd)), (btr, .inl (G.2 0, 21, .inl mtr)), (bdl, .inl (G.2 1, 21, .inr (.inl mdl)))] sz)) 0 0 (va_A [(m0, .inr (8, [.int cod, .long mt, .int hd, .int mmd, .ref bkd, .ref btr, .ref bdl, .int typ, .int rd, .ref btp, .int giv, .ref bgv, .ref bse, .ref bro, .ref bop, .ref baw, .ref bsd, .ref bot, .ref bct, .ref bcr, .ref bud, .ref blo, .ref bwl, .int us, .ref bub, .ref bul, .ref bua])), (bkd, .inl (G.2 0, 21, .inl mkd)), (btr, .inl (G.2 0, 21, .inl mtr)), (bdl, .inl (G.2 1, 21, .inr (.inl mdl)))] sz) := by
  refine Met.ofW (cc := cX6_level) (maxL := 6) (ret := (some .int)) (by decide) rfl ?_
  intro p e s m args below meth c s₁ B hml hv
  obtain ⟨rfl, hsz, hP, hK, hD0⟩ := hv
  have hx := B.exec
  have hb := B.bytes
  have hr := B.returns
  have hts := atoms_spec (ws := wsX6_level) B.pre
  have hown : s.vm.findClass RX6 = some m.cls := findClass_of_methodNamed B.named
  have hlocks := B.notSynchronized
  subst hsz
  have iX6 : ∀ w ∈ wsX60, w ∈ wsX6_level := by decide +kernel
  have hD := hD0.self (sz := s.heap.size)
  generalize hAe : va_A [(m0, .inr (8, [.int cod, .long mt, .int hd, .int mmd, .ref bkd, .ref btr, .ref bdl, .int typ, .int rd, .ref btp, .int giv, .ref bgv, .ref bse, .ref bro, .ref bop, .ref baw, .ref bsd, .ref bot, .ref bct, .ref bcr, .ref bud, .ref blo, .ref bwl, .int us, .ref bub, .ref bul, .ref bua])), (bkd, .inl (G.2 0, 21, .inl mkd)), (btr, .inl (G.2 0, 21, .inl mtr)), (bdl, .inl (G.2 1, 21, .inr (.inl mdl)))] s.heap.size = A at hD ⊢
  have hA : ∀ q : Nat, s.heap.size ≤ q → A q := fun q h => by rw [← hAe]; exact Or.inr h
  have hS : va_S A s.heap s.heap [] := va_S.rf
  have hP : va_P G.1 vwCl [(m0, .inr (8, [.int cod, .long mt, .int hd, .int mmd, .ref bkd, .ref btr, .ref bdl, .int typ, .int rd, .ref btp, .int giv, .ref bgv, .ref bse, .ref bro, .ref bop, .ref baw, .ref bsd, .ref bot, .ref bct, .ref bcr, .ref bud, .ref blo, .ref bwl, .int us, .ref bub, .ref bul, .ref bua])), (bkd, .inl (G.2 0, 21, .inl mkd)), (btr, .inl (G.2 0, 21, .inl mtr)), (bdl, .inl (G.2 1, 21, .inr (.inl mdl)))] s.heap := hP
  have hl := lv_entry ([.ref m0, .int p1, .int p2, .int p3, .long p4]) (n := 6) (Nat.le_of_ble_eq_true rfl)
  rw [lg_entry_eq]
  generalize (lg_sl ([.ref m0, .int p1, .int p2, .int p3, .long p4]) ++ List.replicate (6 - (lg_sl ([.ref m0, .int p1, .int p2, .int p3, .long p4])).length) Slot.unset).toArray = ls at hl ⊢
  have hl : lv_has ls 6 [(0, .ref m0), (1, .int p1), (2, .int p2), (3, .int p3), (4, .long p4)] := hl
  have hF : F_X6_level cod mt hd mmd typ rd giv us mkd mtr mdl p1 p2 p3 p4 = F_X6_level cod mt hd mmd typ rd giv us mkd mtr mdl p1 p2 p3 p4 := rfl
  refine lv_aload_n hx hb dX6_level_0 rfl (lv_at hl 0 rfl) ?_
  refine lv_iconst (v := 0) hx hb dX6_level_1 (by decide) ?_
  refine va_put (D := G.1) (ci := 8) (v := .int 0) (ty := .int) (C := RX6) (T := TX6) (N := 27) hx hb hts iX6 tyX6 tyX6_ok nmX6 hown hK.1 hP hD hS 0 rfl rfl 0 (by decide) (hts (.fieldLink RX6 71 "RightsStepsModel" "code" "I") (by decide +kernel)) (fun _ h9 => h9) rfl (by decide +kernel) rfl rfl (Nat.le_of_ble_eq_true rfl) dX6_level_2 (fun H locs hP hD hS => ?_)
  have hP : va_P G.1 vwCl [(m0, .inr (8, [.int 0, .long mt, .int hd, .int mmd, .ref bkd, .ref btr, .ref bdl, .int typ, .int rd, .ref btp, .int giv, .ref bgv, .ref bse, .ref bro, .ref bop, .ref baw, .ref bsd, .ref bot, .ref bct, .ref bcr, .ref bud, .ref blo, .ref bwl, .int us, .ref bub, .ref bul, .ref bua])), (bkd, .inl (G.2 0, 21, .inl mkd)), (btr, .inl (G.2 0, 21, .inl mtr)), (bdl, .inl (G.2 1, 21, .inr (.inl mdl)))] H := hP
  have hD : va_D A [(m0, .inr (8, [.int 0, .long mt, .int hd, .int mmd, .ref bkd, .ref btr, .ref bdl, .int typ, .int rd, .ref btp, .int giv, .ref bgv, .ref bse, .ref bro, .ref bop, .ref baw, .ref bsd, .ref bot, .ref bct, .ref bcr, .ref bud, .ref blo, .ref bwl, .int us, .ref bub, .ref bul, .ref bua])), (bkd, .inl (G.2 0, 21, .inl mkd)), (btr, .inl (G.2 0, 21, .inl mtr)), (bdl, .inl (G.2 1, 21, .inr (.inl mdl)))] := hD
  refine lv_iload_n hx hb dX6_level_5 rfl (lv_at hl 1 rfl) ?_
  refine lv_iconst (v := 1) hx hb dX6_level_6 (by decide) ?_
  refine lv_icmp_lt (tgt := 16) hx hb dX6_level_7 (by decide) (fun c_7 => ?_) (fun c_7 => ?_)
  · have hF := if_t hF c_7
    refine lv_iconst (v := (-1)) hx hb dX6_level_16 (by decide) ?_
    exact W.iret (v := (-1)) hx hb hr (fun t ht hW => ⟨⟨(-1), (0, mmd, mkd, mtr, mdl), rfl, hF.symm, by rw [ht]; exact hP.sub [0, 1, 2, 3] rfl, hD.sub [0, 1, 2, 3] (by decide) rfl⟩, hS.F ht⟩) hS.2.2 dX6_level_17
  · have hF := if_f hF c_7
    refine lv_iload_n hx hb dX6_level_10 rfl (lv_at hl 1 rfl) ?_
    refine lv_bipush (v := 20) hx hb dX6_level_11 (by decide) ?_
    refine lv_icmp_le (tgt := 18) hx hb dX6_level_13 (by decide) (fun c_13 => ?_) (fun c_13 => ?_)
    · have hF := if_t hF c_13
      refine lv_iload_n hx hb dX6_level_18 rfl (lv_at hl 2 rfl) ?_
      refine lv_if_lt (tgt := 54) hx hb dX6_level_19 (by decide) (fun c_19 => ?_) (fun c_19 => ?_)
      · have hF := if_t hF c_19
        refine lv_bipush (v := (-2)) hx hb dX6_level_54 (by decide) ?_
        exact W.iret (v := (-2)) hx hb hr (fun t ht hW => ⟨⟨(-2), (0, mmd, mkd, mtr, mdl), rfl, hF.symm, by rw [ht]; exact hP.sub [0, 1, 2, 3] rfl, hD.sub [0, 1, 2, 3] (by decide) rfl⟩, hS.F ht⟩) hS.2.2 dX6_level_56
      · have hF := if_f hF c_19
        refine lv_iload_n hx hb dX6_level_22 rfl (lv_at hl 2 rfl) ?_
        refine lv_iconst (v := 2) hx hb dX6_level_23 (by decide) ?_
        refine lv_icmp_gt (tgt := 54) hx hb dX6_level_24 (by decide) (fun c_24 => ?_) (fun c_24 => ?_)
        · have hF := if_t hF c_24
          refine lv_bipush (v := (-2)) hx hb dX6_level_54 (by decide) ?_
          exact W.iret (v := (-2)) hx hb hr (fun t ht hW => ⟨⟨(-2), (0, mmd, mkd, mtr, mdl), rfl, hF.symm, by rw [ht]; exact hP.sub [0, 1, 2, 3] rfl, hD.sub [0, 1, 2, 3] (by decide) rfl⟩, hS.F ht⟩) hS.2.2 dX6_level_56
        · have hF := if_f hF c_24
          refine lv_iload_n hx hb dX6_level_27 rfl (lv_at hl 3 rfl) ?_
          refine lv_iconst (v := 1) hx hb dX6_level_28 (by decide) ?_
          refine lv_icmp_lt (tgt := 54) hx hb dX6_level_29 (by decide) (fun c_29 => ?_) (fun c_29 => ?_)
          · have hF := if_t hF c_29
            refine lv_bipush (v := (-2)) hx hb dX6_level_54 (by decide) ?_
            exact W.iret (v := (-2)) hx hb hr (fun t ht hW => ⟨⟨(-2), (0, mmd, mkd, mtr, mdl), rfl, hF.symm, by rw [ht]; exact hP.sub [0, 1, 2, 3] rfl, hD.sub [0, 1, 2, 3] (by decide) rfl⟩, hS.F ht⟩) hS.2.2 dX6_level_56
          · have hF := if_f hF c_29
            refine lv_iload_n hx hb dX6_level_32 rfl (lv_at hl 3 rfl) ?_
            refine lv_bipush (v := 10) hx hb dX6_level_33 (by decide) ?_
            refine lv_icmp_gt (tgt := 54) hx hb dX6_level_35 (by decide) (fun c_35 => ?_) (fun c_35 => ?_)
            · have hF := if_t hF c_35
              refine lv_bipush (v := (-2)) hx hb dX6_level_54 (by decide) ?_
              exact W.iret (v := (-2)) hx hb hr (fun t ht hW => ⟨⟨(-2), (0, mmd, mkd, mtr, mdl), rfl, hF.symm, by rw [ht]; exact hP.sub [0, 1, 2, 3] rfl, hD.sub [0, 1, 2, 3] (by decide) rfl⟩, hS.F ht⟩) hS.2.2 dX6_level_56
            · have hF := if_f hF c_35
              refine lv_lload hx hb dX6_level_38 (lv_at hl 4 rfl) ?_
              refine lv_lconst (v := 0) hx hb dX6_level_40 (by decide) ?_
              refine W.lcmp hx hb dX6_level_41 ?_
              refine lv_if_lt (tgt := 54) hx hb dX6_level_42 (by decide) (fun c_42 => ?_) (fun c_42 => ?_)
              · have hF := if_t hF c_42
                refine lv_bipush (v := (-2)) hx hb dX6_level_54 (by decide) ?_
                exact W.iret (v := (-2)) hx hb hr (fun t ht hW => ⟨⟨(-2), (0, mmd, mkd, mtr, mdl), rfl, hF.symm, by rw [ht]; exact hP.sub [0, 1, 2, 3] rfl, hD.sub [0, 1, 2, 3] (by decide) rfl⟩, hS.F ht⟩) hS.2.2 dX6_level_56
              · have hF := if_f hF c_42
                refine lv_lload hx hb dX6_level_45 (lv_at hl 4 rfl) ?_
                refine lv_ldc2 (v := 100000) hx hb hown (hts (.constantLong RX6 75 (100000)) (by decide +kernel)) dX6_level_47 ?_
                refine W.lcmp hx hb dX6_level_50 ?_
                refine lv_if_le (tgt := 57) hx hb dX6_level_51 (by decide) (fun c_51 => ?_) (fun c_51 => ?_)
                · have hF := if_t hF c_51
                  refine lv_aload_n hx hb dX6_level_57 rfl (lv_at hl 0 rfl) ?_
                  refine lv_iload_n hx hb dX6_level_58 rfl (lv_at hl 1 rfl) ?_
                  have hPc := hP.sub (ws' := [(m0, .inr (8, [.int 0, .long mt, .int hd, .int mmd, .ref bkd, .ref btr, .ref bdl, .int typ, .int rd, .ref btp, .int giv, .ref bgv, .ref bse, .ref bro, .ref bop, .ref baw, .ref bsd, .ref bot, .ref bct, .ref bcr, .ref bud, .ref blo, .ref bwl, .int us, .ref bub, .ref bul, .ref bua])), (btr, .inl (G.2 0, 21, .inl mtr))]) [0, 2] rfl
                  have hDc := hD.sub (ws' := [(m0, .inr (8, [.int 0, .long mt, .int hd, .int mmd, .ref bkd, .ref btr, .ref bdl, .int typ, .int rd, .ref btp, .int giv, .ref bgv, .ref bse, .ref bro, .ref bop, .ref baw, .ref bsd, .ref bot, .ref bct, .ref bcr, .ref bud, .ref blo, .ref bwl, .int us, .ref bub, .ref bul, .ref bua])), (btr, .inl (G.2 0, 21, .inl mtr))]) [0, 2] (by decide) rfl
                  refine pu_call (va_runV (As := [.int p1]) (rest := []) ⟨hx, hb, hml, hown, hts⟩ (c_X6_isMade l G m0 btr bkd bdl btp bgv bse bro bop baw bsd bot bct bcr bud blo bwl bub bul bua _ 0 mt hd mmd typ rd giv us mtr p1) (cwV 1 hts gX6_level_X6_isMade rfl rfl rfl (by decide +kernel) ⟨Nat.le_of_ble_eq_true rfl, Nat.le_of_ble_eq_true rfl⟩) (pR_V hK hPc hDc (q0 := 0) rfl rfl) rfl rfl hl.1 rfl (lv_room (Nat.le_of_ble_eq_true rfl)) dX6_level_59 ⟨Nat.le_of_ble_eq_true rfl, Nat.le_of_ble_eq_true rfl⟩) ?_
                  refine lv_if_eq (tgt := 68) hx hb dX6_level_62 (by decide) (fun c_62 => ?_) (fun c_62 => ?_)
                  · have hF := if_t hF c_62
                    refine lv_aload_n hx hb dX6_level_68 rfl (lv_at hl 0 rfl) ?_
                    refine va_get (D := G.1) (ci := 8) (v := .ref bkd) (C := RX6) (T := TX6) (N := 27) hx hb hts iX6 hown hK.1 hP 0 rfl rfl 4 (by decide) (hts (.fieldLink RX6 7 "RightsStepsModel" "kind" "[I") (by decide +kernel)) (fun _ h9 => h9) rfl dX6_level_69 ?_
                    refine lv_iload_n hx hb dX6_level_72 rfl (lv_at hl 1 rfl) ?_
                    refine lv_iload_n hx hb dX6_level_73 rfl (lv_at hl 2 rfl) ?_
                    refine va_iast (f := mkd) hx hb hK.1 hP hD hS 1 0 rfl rfl (in_lw c_7 c_13) dX6_level_74 (fun H locs hP hD hS => ?_)
                    have hP : va_P G.1 vwCl [(m0, .inr (8, [.int 0, .long mt, .int hd, .int mmd, .ref bkd, .ref btr, .ref bdl, .int typ, .int rd, .ref btp, .int giv, .ref bgv, .ref bse, .ref bro, .ref bop, .ref baw, .ref bsd, .ref bot, .ref bct, .ref bcr, .ref bud, .ref blo, .ref bwl, .int us, .ref bub, .ref bul, .ref bua])), (bkd, .inl (G.2 0, 21, .inl (upd mkd (p1 : Int32).toNatClampNeg p2))), (btr, .inl (G.2 0, 21, .inl mtr)), (bdl, .inl (G.2 1, 21, .inr (.inl mdl)))] H := hP
                    have hD : va_D A [(m0, .inr (8, [.int 0, .long mt, .int hd, .int mmd, .ref bkd, .ref btr, .ref bdl, .int typ, .int rd, .ref btp, .int giv, .ref bgv, .ref bse, .ref bro, .ref bop, .ref baw, .ref bsd, .ref bot, .ref bct, .ref bcr, .ref bud, .ref blo, .ref bwl, .int us, .ref bub, .ref bul, .ref bua])), (bkd, .inl (G.2 0, 21, .inl (upd mkd (p1 : Int32).toNatClampNeg p2))), (btr, .inl (G.2 0, 21, .inl mtr)), (bdl, .inl (G.2 1, 21, .inr (.inl mdl)))] := hD
                    refine lv_aload_n hx hb dX6_level_75 rfl (lv_at hl 0 rfl) ?_
                    refine va_get (D := G.1) (ci := 8) (v := .ref btr) (C := RX6) (T := TX6) (N := 27) hx hb hts iX6 hown hK.1 hP 0 rfl rfl 5 (by decide) (hts (.fieldLink RX6 13 "RightsStepsModel" "tries" "[I") (by decide +kernel)) (fun _ h9 => h9) rfl dX6_level_76 ?_
                    refine lv_iload_n hx hb dX6_level_79 rfl (lv_at hl 1 rfl) ?_
                    refine lv_iload_n hx hb dX6_level_80 rfl (lv_at hl 3 rfl) ?_
                    refine va_iast (f := mtr) hx hb hK.1 hP hD hS 2 0 rfl rfl (in_lw c_7 c_13) dX6_level_81 (fun H locs hP hD hS => ?_)
                    have hP : va_P G.1 vwCl [(m0, .inr (8, [.int 0, .long mt, .int hd, .int mmd, .ref bkd, .ref btr, .ref bdl, .int typ, .int rd, .ref btp, .int giv, .ref bgv, .ref bse, .ref bro, .ref bop, .ref baw, .ref bsd, .ref bot, .ref bct, .ref bcr, .ref bud, .ref blo, .ref bwl, .int us, .ref bub, .ref bul, .ref bua])), (bkd, .inl (G.2 0, 21, .inl (upd mkd (p1 : Int32).toNatClampNeg p2))), (btr, .inl (G.2 0, 21, .inl (upd mtr (p1 : Int32).toNatClampNeg p3))), (bdl, .inl (G.2 1, 21, .inr (.inl mdl)))] H := hP
                    have hD : va_D A [(m0, .inr (8, [.int 0, .long mt, .int hd, .int mmd, .ref bkd, .ref btr, .ref bdl, .int typ, .int rd, .ref btp, .int giv, .ref bgv, .ref bse, .ref bro, .ref bop, .ref baw, .ref bsd, .ref bot, .ref bct, .ref bcr, .ref bud, .ref blo, .ref bwl, .int us, .ref bub, .ref bul, .ref bua])), (bkd, .inl (G.2 0, 21, .inl (upd mkd (p1 : Int32).toNatClampNeg p2))), (btr, .inl (G.2 0, 21, .inl (upd mtr (p1 : Int32).toNatClampNeg p3))), (bdl, .inl (G.2 1, 21, .inr (.inl mdl)))] := hD
                    refine lv_aload_n hx hb dX6_level_82 rfl (lv_at hl 0 rfl) ?_
                    refine va_get (D := G.1) (ci := 8) (v := .ref bdl) (C := RX6) (T := TX6) (N := 27) hx hb hts iX6 hown hK.1 hP 0 rfl rfl 6 (by decide) (hts (.fieldLink RX6 16 "RightsStepsModel" "delay" "[J") (by decide +kernel)) (fun _ h9 => h9) rfl dX6_level_83 ?_
                    refine lv_iload_n hx hb dX6_level_86 rfl (lv_at hl 1 rfl) ?_
                    refine lv_lload hx hb dX6_level_87 (lv_at hl 4 rfl) ?_
                    refine va_last (f := mdl) hx hb hK.1 hP hD hS 3 1 rfl rfl (in_lw c_7 c_13) dX6_level_89 (fun H locs hP hD hS => ?_)
                    have hP : va_P G.1 vwCl [(m0, .inr (8, [.int 0, .long mt, .int hd, .int mmd, .ref bkd, .ref btr, .ref bdl, .int typ, .int rd, .ref btp, .int giv, .ref bgv, .ref bse, .ref bro, .ref bop, .ref baw, .ref bsd, .ref bot, .ref bct, .ref bcr, .ref bud, .ref blo, .ref bwl, .int us, .ref bub, .ref bul, .ref bua])), (bkd, .inl (G.2 0, 21, .inl (upd mkd (p1 : Int32).toNatClampNeg p2))), (btr, .inl (G.2 0, 21, .inl (upd mtr (p1 : Int32).toNatClampNeg p3))), (bdl, .inl (G.2 1, 21, .inr (.inl (vp_updL mdl (p1 : Int32).toNatClampNeg p4))))] H := hP
                    have hD : va_D A [(m0, .inr (8, [.int 0, .long mt, .int hd, .int mmd, .ref bkd, .ref btr, .ref bdl, .int typ, .int rd, .ref btp, .int giv, .ref bgv, .ref bse, .ref bro, .ref bop, .ref baw, .ref bsd, .ref bot, .ref bct, .ref bcr, .ref bud, .ref blo, .ref bwl, .int us, .ref bub, .ref bul, .ref bua])), (bkd, .inl (G.2 0, 21, .inl (upd mkd (p1 : Int32).toNatClampNeg p2))), (btr, .inl (G.2 0, 21, .inl (upd mtr (p1 : Int32).toNatClampNeg p3))), (bdl, .inl (G.2 1, 21, .inr (.inl (vp_updL mdl (p1 : Int32).toNatClampNeg p4))))] := hD
                    refine lv_aload_n hx hb dX6_level_90 rfl (lv_at hl 0 rfl) ?_
                    refine lv_dup hx hb dX6_level_91 rfl ?_
                    refine va_get (D := G.1) (ci := 8) (v := .int mmd) (C := RX6) (T := TX6) (N := 27) hx hb hts iX6 hown hK.1 hP 0 rfl rfl 3 (by decide) (hts (.fieldLink RX6 81 "RightsStepsModel" "made" "I") (by decide +kernel)) (fun _ h9 => h9) rfl dX6_level_92 ?_
                    refine lv_iconst (v := 1) hx hb dX6_level_95 (by decide) ?_
                    refine lv_iadd hx hb dX6_level_96 ?_
                    refine va_put (D := G.1) (ci := 8) (v := .int (mmd + 1)) (ty := .int) (C := RX6) (T := TX6) (N := 27) hx hb hts iX6 tyX6 tyX6_ok nmX6 hown hK.1 hP hD hS 0 rfl rfl 3 (by decide) (hts (.fieldLink RX6 81 "RightsStepsModel" "made" "I") (by decide +kernel)) (fun _ h9 => h9) rfl (by decide +kernel) rfl rfl (Nat.le_of_ble_eq_true rfl) dX6_level_97 (fun H locs hP hD hS => ?_)
                    have hP : va_P G.1 vwCl [(m0, .inr (8, [.int 0, .long mt, .int hd, .int (mmd + 1), .ref bkd, .ref btr, .ref bdl, .int typ, .int rd, .ref btp, .int giv, .ref bgv, .ref bse, .ref bro, .ref bop, .ref baw, .ref bsd, .ref bot, .ref bct, .ref bcr, .ref bud, .ref blo, .ref bwl, .int us, .ref bub, .ref bul, .ref bua])), (bkd, .inl (G.2 0, 21, .inl (upd mkd (p1 : Int32).toNatClampNeg p2))), (btr, .inl (G.2 0, 21, .inl (upd mtr (p1 : Int32).toNatClampNeg p3))), (bdl, .inl (G.2 1, 21, .inr (.inl (vp_updL mdl (p1 : Int32).toNatClampNeg p4))))] H := hP
                    have hD : va_D A [(m0, .inr (8, [.int 0, .long mt, .int hd, .int (mmd + 1), .ref bkd, .ref btr, .ref bdl, .int typ, .int rd, .ref btp, .int giv, .ref bgv, .ref bse, .ref bro, .ref bop, .ref baw, .ref bsd, .ref bot, .ref bct, .ref bcr, .ref bud, .ref blo, .ref bwl, .int us, .ref bub, .ref bul, .ref bua])), (bkd, .inl (G.2 0, 21, .inl (upd mkd (p1 : Int32).toNatClampNeg p2))), (btr, .inl (G.2 0, 21, .inl (upd mtr (p1 : Int32).toNatClampNeg p3))), (bdl, .inl (G.2 1, 21, .inr (.inl (vp_updL mdl (p1 : Int32).toNatClampNeg p4))))] := hD
                    refine lv_aload_n hx hb dX6_level_100 rfl (lv_at hl 0 rfl) ?_
                    refine va_get (D := G.1) (ci := 8) (v := .int (mmd + 1)) (C := RX6) (T := TX6) (N := 27) hx hb hts iX6 hown hK.1 hP 0 rfl rfl 3 (by decide) (hts (.fieldLink RX6 81 "RightsStepsModel" "made" "I") (by decide +kernel)) (fun _ h9 => h9) rfl dX6_level_101 ?_
                    exact W.iret (v := (mmd + 1)) hx hb hr (fun t ht hW => ⟨⟨(mmd + 1), (0, (mmd + 1), (upd mkd (p1 : Int32).toNatClampNeg p2), (upd mtr (p1 : Int32).toNatClampNeg p3), (vp_updL mdl (p1 : Int32).toNatClampNeg p4)), rfl, hF.symm, by rw [ht]; exact hP.sub [0, 1, 2, 3] rfl, hD.sub [0, 1, 2, 3] (by decide) rfl⟩, hS.F ht⟩) hS.2.2 dX6_level_104
                  · have hF := if_f hF c_62
                    refine lv_bipush (v := (-3)) hx hb dX6_level_65 (by decide) ?_
                    exact W.iret (v := (-3)) hx hb hr (fun t ht hW => ⟨⟨(-3), (0, mmd, mkd, mtr, mdl), rfl, hF.symm, by rw [ht]; exact hP.sub [0, 1, 2, 3] rfl, hD.sub [0, 1, 2, 3] (by decide) rfl⟩, hS.F ht⟩) hS.2.2 dX6_level_67
                · have hF := if_f hF c_51
                  refine lv_bipush (v := (-2)) hx hb dX6_level_54 (by decide) ?_
                  exact W.iret (v := (-2)) hx hb hr (fun t ht hW => ⟨⟨(-2), (0, mmd, mkd, mtr, mdl), rfl, hF.symm, by rw [ht]; exact hP.sub [0, 1, 2, 3] rfl, hD.sub [0, 1, 2, 3] (by decide) rfl⟩, hS.F ht⟩) hS.2.2 dX6_level_56
    · have hF := if_f hF c_13
      refine lv_iconst (v := (-1)) hx hb dX6_level_16 (by decide) ?_
      exact W.iret (v := (-1)) hx hb hr (fun t ht hW => ⟨⟨(-1), (0, mmd, mkd, mtr, mdl), rfl, hF.symm, by rw [ht]; exact hP.sub [0, 1, 2, 3] rfl, hD.sub [0, 1, 2, 3] (by decide) rfl⟩, hS.F ht⟩) hS.2.2 dX6_level_17

def F_X6_tape (cod : Int32) (mt : Int64) (hd : Int32) (mmd : Int32) (typ : Int32) (rd : Int32) (giv : Int32) (us : Int32) (tp : Nat → Int32) (p1 : Int32) : Int32 × Int32 × (Nat → Int32) :=
  (if (typ - rd) = 200 then (0, typ, tp) else (0, (typ + 1), (upd tp (typ : Int32).toNatClampNeg p1)))
set_option maxHeartbeats 4000000 in
set_option maxRecDepth 100000 in
theorem c_X6_tape (l : Launch) (G : gG) (m0 btp bkd btr bdl bgv bse bro bop baw bsd bot bct bcr bud blo bwl bub bul bua : Nat) (sz : Nat) (cod : Int32) (mt : Int64) (hd : Int32) (mmd : Int32) (typ : Int32) (rd : Int32) (giv : Int32) (us : Int32) (tp : Nat → Int32) (p1 : Int32) (ht : vp_in typ 2000) : Met l yX6_tape wsX6_tape ({ frames := 0, cells := 0, slots := 0, locals := 0 }) (va_Pc [.ref m0, .int p1] (pR G [(m0, .inr (8, [.int cod, .long mt, .int hd, .int mmd, .ref bkd, .ref btr, .ref bdl, .int typ, .int rd, .ref btp, .int giv, .ref bgv, .ref bse, .ref bro, .ref bop, .ref baw, .ref bsd, .ref bot, .ref bct, .ref bcr, .ref bud, .ref blo, .ref bwl, .int us, .ref bub, .ref bul, .ref bua])), (btp, .inl (G.2 0, 2000, .inl tp))] sz)) (va_Qv (fun (u : Int32 × Int32 × (Nat → Int32)) => u = F_X6_tape cod mt hd mmd typ rd giv us tp p1) (fun u t => pO G [(m0, .inr (8, [.int u.1, .long mt, .int hd, .int mmd, .ref bkd, .ref btr, .ref bdl, .int u.2.1, .int rd, .ref btp, .int giv, .ref bgv, .ref bse, .ref bro, .ref bop, .ref baw, .ref bsd, .ref bot, .ref bct, .ref bcr, .ref bud, .ref blo, .ref bwl, .int us, .ref bub, .ref bul, .ref bua])), (btp, .inl (G.2 0, 2000, .inl u.2.2))] (va_A [(m0, .inr (8, [.int cod, .long mt, .int hd, .int mmd, .ref bkd, .ref btr, .ref bdl, .int typ, .int rd, .ref btp, .int giv, .ref bgv, .ref bse, .ref bro, .ref bop, .ref baw, .ref bsd, .ref bot, .ref bct, .ref bcr, .ref bud, .ref blo, .ref bwl, .int us, .ref bub, .ref bul, .ref bua])), (btp, .inl (G.2 0, 2000, .inl tp))] sz) t) (va_A [(m0, .inr (8, [.int cod, .long mt, .int hd, .int mmd, .ref bkd, .ref btr, .ref bdl, .int typ, .int rd, .ref btp, .int giv, .ref bgv, .ref bse, .ref bro, .ref bop, .ref baw, .ref bsd, .ref bot, .ref bct, .ref bcr, .ref bud, .ref blo, .ref bwl, .int us, .ref bub, .ref bul, .ref bua])), (btp, .inl (G.2 0, 2000, .inl tp))] sz)) 0 0 (va_A [(m0, .inr (8, [.int cod, .long mt, .int hd, .int mmd, .ref bkd, .ref btr, .ref bdl, .int typ, .int rd, .ref btp, .int giv, .ref bgv, .ref bse, .ref bro, .ref bop, .ref baw, .ref bsd, .ref bot, .ref bct, .ref bcr, .ref bud, .ref blo, .ref bwl, .int us, .ref bub, .ref bul, .ref bua])), (btp, .inl (G.2 0, 2000, .inl tp))] sz) := by
  refine Met.ofW (cc := cX6_tape) (maxL := 2) (ret := none) (by decide) rfl ?_
  intro p e s m args below meth c s₁ B hml hv
  obtain ⟨rfl, hsz, hP, hK, hD0⟩ := hv
  have hx := B.exec
  have hb := B.bytes
  have hr := B.returns
  have hts := atoms_spec (ws := wsX6_tape) B.pre
  have hown : s.vm.findClass RX6 = some m.cls := findClass_of_methodNamed B.named
  have hlocks := B.notSynchronized
  subst hsz
  have iX6 : ∀ w ∈ wsX60, w ∈ wsX6_tape := by decide +kernel
  have hD := hD0.self (sz := s.heap.size)
  generalize hAe : va_A [(m0, .inr (8, [.int cod, .long mt, .int hd, .int mmd, .ref bkd, .ref btr, .ref bdl, .int typ, .int rd, .ref btp, .int giv, .ref bgv, .ref bse, .ref bro, .ref bop, .ref baw, .ref bsd, .ref bot, .ref bct, .ref bcr, .ref bud, .ref blo, .ref bwl, .int us, .ref bub, .ref bul, .ref bua])), (btp, .inl (G.2 0, 2000, .inl tp))] s.heap.size = A at hD ⊢
  have hA : ∀ q : Nat, s.heap.size ≤ q → A q := fun q h => by rw [← hAe]; exact Or.inr h
  have hS : va_S A s.heap s.heap [] := va_S.rf
  have hP : va_P G.1 vwCl [(m0, .inr (8, [.int cod, .long mt, .int hd, .int mmd, .ref bkd, .ref btr, .ref bdl, .int typ, .int rd, .ref btp, .int giv, .ref bgv, .ref bse, .ref bro, .ref bop, .ref baw, .ref bsd, .ref bot, .ref bct, .ref bcr, .ref bud, .ref blo, .ref bwl, .int us, .ref bub, .ref bul, .ref bua])), (btp, .inl (G.2 0, 2000, .inl tp))] s.heap := hP
  have hl := lv_entry ([.ref m0, .int p1]) (n := 2) (Nat.le_of_ble_eq_true rfl)
  rw [lg_entry_eq]
  generalize (lg_sl ([.ref m0, .int p1]) ++ List.replicate (2 - (lg_sl ([.ref m0, .int p1])).length) Slot.unset).toArray = ls at hl ⊢
  have hl : lv_has ls 2 [(0, .ref m0), (1, .int p1)] := hl
  have hF : F_X6_tape cod mt hd mmd typ rd giv us tp p1 = F_X6_tape cod mt hd mmd typ rd giv us tp p1 := rfl
  refine lv_aload_n hx hb dX6_tape_0 rfl (lv_at hl 0 rfl) ?_
  refine lv_iconst (v := 0) hx hb dX6_tape_1 (by decide) ?_
  refine va_put (D := G.1) (ci := 8) (v := .int 0) (ty := .int) (C := RX6) (T := TX6) (N := 27) hx hb hts iX6 tyX6 tyX6_ok nmX6 hown hK.1 hP hD hS 0 rfl rfl 0 (by decide) (hts (.fieldLink RX6 71 "RightsStepsModel" "code" "I") (by decide +kernel)) (fun _ h9 => h9) rfl (by decide +kernel) rfl rfl (Nat.le_of_ble_eq_true rfl) dX6_tape_2 (fun H locs hP hD hS => ?_)
  have hP : va_P G.1 vwCl [(m0, .inr (8, [.int 0, .long mt, .int hd, .int mmd, .ref bkd, .ref btr, .ref bdl, .int typ, .int rd, .ref btp, .int giv, .ref bgv, .ref bse, .ref bro, .ref bop, .ref baw, .ref bsd, .ref bot, .ref bct, .ref bcr, .ref bud, .ref blo, .ref bwl, .int us, .ref bub, .ref bul, .ref bua])), (btp, .inl (G.2 0, 2000, .inl tp))] H := hP
  have hD : va_D A [(m0, .inr (8, [.int 0, .long mt, .int hd, .int mmd, .ref bkd, .ref btr, .ref bdl, .int typ, .int rd, .ref btp, .int giv, .ref bgv, .ref bse, .ref bro, .ref bop, .ref baw, .ref bsd, .ref bot, .ref bct, .ref bcr, .ref bud, .ref blo, .ref bwl, .int us, .ref bub, .ref bul, .ref bua])), (btp, .inl (G.2 0, 2000, .inl tp))] := hD
  refine lv_aload_n hx hb dX6_tape_5 rfl (lv_at hl 0 rfl) ?_
  refine va_get (D := G.1) (ci := 8) (v := .int typ) (C := RX6) (T := TX6) (N := 27) hx hb hts iX6 hown hK.1 hP 0 rfl rfl 7 (by decide) (hts (.fieldLink RX6 84 "RightsStepsModel" "typed" "I") (by decide +kernel)) (fun _ h9 => h9) rfl dX6_tape_6 ?_
  refine lv_aload_n hx hb dX6_tape_9 rfl (lv_at hl 0 rfl) ?_
  refine va_get (D := G.1) (ci := 8) (v := .int rd) (C := RX6) (T := TX6) (N := 27) hx hb hts iX6 hown hK.1 hP 0 rfl rfl 8 (by decide) (hts (.fieldLink RX6 87 "RightsStepsModel" "read" "I") (by decide +kernel)) (fun _ h9 => h9) rfl dX6_tape_10 ?_
  refine lv_isub hx hb dX6_tape_13 ?_
  refine lv_sipush (v := 200) hx hb dX6_tape_14 (by decide) ?_
  refine lv_icmp_ne (tgt := 21) hx hb dX6_tape_17 (by decide) (fun c_17 => ?_) (fun c_17 => ?_)
  · have hF := if_f hF c_17
    refine lv_aload_n hx hb dX6_tape_21 rfl (lv_at hl 0 rfl) ?_
    refine va_get (D := G.1) (ci := 8) (v := .ref btp) (C := RX6) (T := TX6) (N := 27) hx hb hts iX6 hown hK.1 hP 0 rfl rfl 9 (by decide) (hts (.fieldLink RX6 20 "RightsStepsModel" "tape" "[I") (by decide +kernel)) (fun _ h9 => h9) rfl dX6_tape_22 ?_
    refine lv_aload_n hx hb dX6_tape_25 rfl (lv_at hl 0 rfl) ?_
    refine va_get (D := G.1) (ci := 8) (v := .int typ) (C := RX6) (T := TX6) (N := 27) hx hb hts iX6 hown hK.1 hP 0 rfl rfl 7 (by decide) (hts (.fieldLink RX6 84 "RightsStepsModel" "typed" "I") (by decide +kernel)) (fun _ h9 => h9) rfl dX6_tape_26 ?_
    refine lv_iload_n hx hb dX6_tape_29 rfl (lv_at hl 1 rfl) ?_
    refine va_iast (f := tp) hx hb hK.1 hP hD hS 1 0 rfl rfl ht dX6_tape_30 (fun H locs hP hD hS => ?_)
    have hP : va_P G.1 vwCl [(m0, .inr (8, [.int 0, .long mt, .int hd, .int mmd, .ref bkd, .ref btr, .ref bdl, .int typ, .int rd, .ref btp, .int giv, .ref bgv, .ref bse, .ref bro, .ref bop, .ref baw, .ref bsd, .ref bot, .ref bct, .ref bcr, .ref bud, .ref blo, .ref bwl, .int us, .ref bub, .ref bul, .ref bua])), (btp, .inl (G.2 0, 2000, .inl (upd tp (typ : Int32).toNatClampNeg p1)))] H := hP
    have hD : va_D A [(m0, .inr (8, [.int 0, .long mt, .int hd, .int mmd, .ref bkd, .ref btr, .ref bdl, .int typ, .int rd, .ref btp, .int giv, .ref bgv, .ref bse, .ref bro, .ref bop, .ref baw, .ref bsd, .ref bot, .ref bct, .ref bcr, .ref bud, .ref blo, .ref bwl, .int us, .ref bub, .ref bul, .ref bua])), (btp, .inl (G.2 0, 2000, .inl (upd tp (typ : Int32).toNatClampNeg p1)))] := hD
    refine lv_aload_n hx hb dX6_tape_31 rfl (lv_at hl 0 rfl) ?_
    refine lv_dup hx hb dX6_tape_32 rfl ?_
    refine va_get (D := G.1) (ci := 8) (v := .int typ) (C := RX6) (T := TX6) (N := 27) hx hb hts iX6 hown hK.1 hP 0 rfl rfl 7 (by decide) (hts (.fieldLink RX6 84 "RightsStepsModel" "typed" "I") (by decide +kernel)) (fun _ h9 => h9) rfl dX6_tape_33 ?_
    refine lv_iconst (v := 1) hx hb dX6_tape_36 (by decide) ?_
    refine lv_iadd hx hb dX6_tape_37 ?_
    refine va_put (D := G.1) (ci := 8) (v := .int (typ + 1)) (ty := .int) (C := RX6) (T := TX6) (N := 27) hx hb hts iX6 tyX6 tyX6_ok nmX6 hown hK.1 hP hD hS 0 rfl rfl 7 (by decide) (hts (.fieldLink RX6 84 "RightsStepsModel" "typed" "I") (by decide +kernel)) (fun _ h9 => h9) rfl (by decide +kernel) rfl rfl (Nat.le_of_ble_eq_true rfl) dX6_tape_38 (fun H locs hP hD hS => ?_)
    have hP : va_P G.1 vwCl [(m0, .inr (8, [.int 0, .long mt, .int hd, .int mmd, .ref bkd, .ref btr, .ref bdl, .int (typ + 1), .int rd, .ref btp, .int giv, .ref bgv, .ref bse, .ref bro, .ref bop, .ref baw, .ref bsd, .ref bot, .ref bct, .ref bcr, .ref bud, .ref blo, .ref bwl, .int us, .ref bub, .ref bul, .ref bua])), (btp, .inl (G.2 0, 2000, .inl (upd tp (typ : Int32).toNatClampNeg p1)))] H := hP
    have hD : va_D A [(m0, .inr (8, [.int 0, .long mt, .int hd, .int mmd, .ref bkd, .ref btr, .ref bdl, .int (typ + 1), .int rd, .ref btp, .int giv, .ref bgv, .ref bse, .ref bro, .ref bop, .ref baw, .ref bsd, .ref bot, .ref bct, .ref bcr, .ref bud, .ref blo, .ref bwl, .int us, .ref bub, .ref bul, .ref bua])), (btp, .inl (G.2 0, 2000, .inl (upd tp (typ : Int32).toNatClampNeg p1)))] := hD
    exact W.vret hx hb hr (fun t ht hW => ⟨⟨(0, (typ + 1), (upd tp (typ : Int32).toNatClampNeg p1)), rfl, hF.symm, by rw [ht]; exact hP.sub [0, 1] rfl, hD.sub [0, 1] (by decide) rfl⟩, hS.F ht⟩) hS.2.2 dX6_tape_41
  · have hF := if_t hF c_17
    exact W.vret hx hb hr (fun t ht hW => ⟨⟨(0, typ, tp), rfl, hF.symm, by rw [ht]; exact hP.sub [0, 1] rfl, hD.sub [0, 1] (by decide) rfl⟩, hS.F ht⟩) hS.2.2 dX6_tape_20

def F_X6_isPlain (p1 : Int32) : Int32 :=
  (if (p1 &&& 255) = ((p1 >>> ((8 : Int32) &&& 31)) &&& 255) then (if (p1 &&& 255) = ((p1 >>> ((16 : Int32) &&& 31)) &&& 255) then (if (p1 &&& 255) = ((p1 >>> ((24 : Int32) &&& 31)) &&& 255) then 1 else 0) else 0) else 0)
set_option maxHeartbeats 4000000 in
set_option maxRecDepth 100000 in
theorem c_X6_isPlain (l : Launch) (G : gG) (sz : Nat) (p1 : Int32) : Met l yX6_isPlain wsX6_isPlain ({ frames := 0, cells := 0, slots := 0, locals := 0 }) (va_Pc [.int p1] (pR G [] sz)) (pQ (.int (F_X6_isPlain p1))) 0 0 (fun _ => False) := by
  refine Met.ofW (cc := cX6_isPlain) (maxL := 2) (ret := (some .boolean)) (by decide) rfl ?_
  intro p e s m args below meth c s₁ B hml hv
  obtain ⟨rfl, hsz, hP, hK, hD0⟩ := hv
  have hx := B.exec
  have hb := B.bytes
  have hr := B.returns
  have hts := atoms_spec (ws := wsX6_isPlain) B.pre
  have hown : s.vm.findClass RX6 = some m.cls := findClass_of_methodNamed B.named
  have hlocks := B.notSynchronized
  subst hsz
  have hD := hD0
  have hP : va_P G.1 vwCl [] s.heap := hP
  have hl := lv_entry ([.int p1]) (n := 2) (Nat.le_of_ble_eq_true rfl)
  rw [lg_entry_eq]
  generalize (lg_sl ([.int p1]) ++ List.replicate (2 - (lg_sl ([.int p1])).length) Slot.unset).toArray = ls at hl ⊢
  have hl : lv_has ls 2 [(0, .int p1)] := hl
  have hF : F_X6_isPlain p1 = F_X6_isPlain p1 := rfl
  refine lv_iload_n hx hb dX6_isPlain_0 rfl (lv_at hl 0 rfl) ?_
  refine lv_sipush (v := 255) hx hb dX6_isPlain_1 (by decide) ?_
  refine lv_iand hx hb dX6_isPlain_4 ?_
  refine lv_istore_n (lv' := [(1, .int (p1 &&& 255)), (0, .int p1)]) hx hb dX6_isPlain_5 rfl hl (by decide) rfl (fun ls hl => ?_)
  refine lv_iload_n hx hb dX6_isPlain_6 rfl (lv_at hl 0 rfl) ?_
  refine lv_iload_n hx hb dX6_isPlain_7 rfl (lv_at hl 1 rfl) ?_
  refine lv_bipush (v := 8) hx hb dX6_isPlain_8 (by decide) ?_
  refine lv_ishr hx hb dX6_isPlain_10 ?_
  refine lv_sipush (v := 255) hx hb dX6_isPlain_11 (by decide) ?_
  refine lv_iand hx hb dX6_isPlain_14 ?_
  refine lv_icmp_ne (tgt := 46) hx hb dX6_isPlain_15 (by decide) (fun c_15 => ?_) (fun c_15 => ?_)
  · have hF := if_f hF c_15
    refine lv_iconst (v := 0) hx hb dX6_isPlain_46 (by decide) ?_
    exact W.zret (v := 0) (ty := .boolean) hx hb hr rfl (fun t ht hW => ⟨congrArg (fun z : Int32 => Outcome.returned (some (.int z))) hF.symm, ht⟩) (fun _ h => by cases h) dX6_isPlain_47
  · have hF := if_t hF c_15
    refine lv_iload_n hx hb dX6_isPlain_18 rfl (lv_at hl 0 rfl) ?_
    refine lv_iload_n hx hb dX6_isPlain_19 rfl (lv_at hl 1 rfl) ?_
    refine lv_bipush (v := 16) hx hb dX6_isPlain_20 (by decide) ?_
    refine lv_ishr hx hb dX6_isPlain_22 ?_
    refine lv_sipush (v := 255) hx hb dX6_isPlain_23 (by decide) ?_
    refine lv_iand hx hb dX6_isPlain_26 ?_
    refine lv_icmp_ne (tgt := 46) hx hb dX6_isPlain_27 (by decide) (fun c_27 => ?_) (fun c_27 => ?_)
    · have hF := if_f hF c_27
      refine lv_iconst (v := 0) hx hb dX6_isPlain_46 (by decide) ?_
      exact W.zret (v := 0) (ty := .boolean) hx hb hr rfl (fun t ht hW => ⟨congrArg (fun z : Int32 => Outcome.returned (some (.int z))) hF.symm, ht⟩) (fun _ h => by cases h) dX6_isPlain_47
    · have hF := if_t hF c_27
      refine lv_iload_n hx hb dX6_isPlain_30 rfl (lv_at hl 0 rfl) ?_
      refine lv_iload_n hx hb dX6_isPlain_31 rfl (lv_at hl 1 rfl) ?_
      refine lv_bipush (v := 24) hx hb dX6_isPlain_32 (by decide) ?_
      refine lv_ishr hx hb dX6_isPlain_34 ?_
      refine lv_sipush (v := 255) hx hb dX6_isPlain_35 (by decide) ?_
      refine lv_iand hx hb dX6_isPlain_38 ?_
      refine lv_icmp_ne (tgt := 46) hx hb dX6_isPlain_39 (by decide) (fun c_39 => ?_) (fun c_39 => ?_)
      · have hF := if_f hF c_39
        refine lv_iconst (v := 0) hx hb dX6_isPlain_46 (by decide) ?_
        exact W.zret (v := 0) (ty := .boolean) hx hb hr rfl (fun t ht hW => ⟨congrArg (fun z : Int32 => Outcome.returned (some (.int z))) hF.symm, ht⟩) (fun _ h => by cases h) dX6_isPlain_47
      · have hF := if_t hF c_39
        refine lv_iconst (v := 1) hx hb dX6_isPlain_42 (by decide) ?_
        refine lv_goto (tgt := 47) hx hb dX6_isPlain_43 (by decide) ?_
        exact W.zret (v := 1) (ty := .boolean) hx hb hr rfl (fun t ht hW => ⟨congrArg (fun z : Int32 => Outcome.returned (some (.int z))) hF.symm, ht⟩) (fun _ h => by cases h) dX6_isPlain_47

def FL_X6_wasGiven_2 (cod : Int32) (mt : Int64) (hd : Int32) (mmd : Int32) (typ : Int32) (rd : Int32) (giv : Int32) (us : Int32) (gv : Nat → Int32) (p1 : Int32) : Nat → Int32 → Int32
  | 0, _ => 0
  | n + 1, k => (if giv ≤ k then 0 else (if (gv (k : Int32).toNatClampNeg) = p1 then 1 else (FL_X6_wasGiven_2 cod mt hd mmd typ rd giv us gv p1 n (k + 1))))
def F_X6_wasGiven (cod : Int32) (mt : Int64) (hd : Int32) (mmd : Int32) (typ : Int32) (rd : Int32) (giv : Int32) (us : Int32) (gv : Nat → Int32) (p1 : Int32) : Int32 :=
  (FL_X6_wasGiven_2 cod mt hd mmd typ rd giv us gv p1 2002 0)
set_option maxHeartbeats 4000000 in
set_option maxRecDepth 100000 in
theorem c_X6_wasGiven (l : Launch) (G : gG) (m0 bgv bkd btr bdl btp bse bro bop baw bsd bot bct bcr bud blo bwl bub bul bua : Nat) (sz : Nat) (cod : Int32) (mt : Int64) (hd : Int32) (mmd : Int32) (typ : Int32) (rd : Int32) (giv : Int32) (us : Int32) (gv : Nat → Int32) (p1 : Int32) (hg : vp_in giv 2000) : Met l yX6_wasGiven wsX6_wasGiven ({ frames := 0, cells := 0, slots := 0, locals := 0 }) (va_Pc [.ref m0, .int p1] (pR G [(m0, .inr (8, [.int cod, .long mt, .int hd, .int mmd, .ref bkd, .ref btr, .ref bdl, .int typ, .int rd, .ref btp, .int giv, .ref bgv, .ref bse, .ref bro, .ref bop, .ref baw, .ref bsd, .ref bot, .ref bct, .ref bcr, .ref bud, .ref blo, .ref bwl, .int us, .ref bub, .ref bul, .ref bua])), (bgv, .inl (G.2 0, 2000, .inl gv))] sz)) (pQ (.int (F_X6_wasGiven cod mt hd mmd typ rd giv us gv p1))) 0 0 (fun _ => False) := by
  refine Met.ofW (cc := cX6_wasGiven) (maxL := 3) (ret := (some .boolean)) (by decide) rfl ?_
  intro p e s m args below meth c s₁ B hml hv
  obtain ⟨rfl, hsz, hP, hK, hD0⟩ := hv
  have hx := B.exec
  have hb := B.bytes
  have hr := B.returns
  have hts := atoms_spec (ws := wsX6_wasGiven) B.pre
  have hown : s.vm.findClass RX6 = some m.cls := findClass_of_methodNamed B.named
  have hlocks := B.notSynchronized
  subst hsz
  have iX6 : ∀ w ∈ wsX60, w ∈ wsX6_wasGiven := by decide +kernel
  have hD := hD0
  have hP : va_P G.1 vwCl [(m0, .inr (8, [.int cod, .long mt, .int hd, .int mmd, .ref bkd, .ref btr, .ref bdl, .int typ, .int rd, .ref btp, .int giv, .ref bgv, .ref bse, .ref bro, .ref bop, .ref baw, .ref bsd, .ref bot, .ref bct, .ref bcr, .ref bud, .ref blo, .ref bwl, .int us, .ref bub, .ref bul, .ref bua])), (bgv, .inl (G.2 0, 2000, .inl gv))] s.heap := hP
  have hl := lv_entry ([.ref m0, .int p1]) (n := 3) (Nat.le_of_ble_eq_true rfl)
  rw [lg_entry_eq]
  generalize (lg_sl ([.ref m0, .int p1]) ++ List.replicate (3 - (lg_sl ([.ref m0, .int p1])).length) Slot.unset).toArray = ls at hl ⊢
  have hl : lv_has ls 3 [(0, .ref m0), (1, .int p1)] := hl
  have hF : F_X6_wasGiven cod mt hd mmd typ rd giv us gv p1 = F_X6_wasGiven cod mt hd mmd typ rd giv us gv p1 := rfl
  refine lv_iconst (v := 0) hx hb dX6_wasGiven_0 (by decide) ?_
  refine lv_istore_n (lv' := [(2, .int 0), (0, .ref m0), (1, .int p1)]) hx hb dX6_wasGiven_1 rfl hl (by decide) rfl (fun ls hl => ?_)
  refine W.loop (σ := Int32) (fun (n : Nat) (v : Int32) (H : Heap) (locs : List Loc) (ls : Array Slot) => (vp_in v 2001) ∧ 2001 < v.toNatClampNeg + n ∧ (F_X6_wasGiven cod mt hd mmd typ rd giv us gv p1 = FL_X6_wasGiven_2 cod mt hd mmd typ rd giv us gv p1 n v) ∧ H = s.heap ∧ locs = [] ∧ va_P G.1 vwCl [(m0, .inr (8, [.int cod, .long mt, .int hd, .int mmd, .ref bkd, .ref btr, .ref bdl, .int typ, .int rd, .ref btp, .int giv, .ref bgv, .ref bse, .ref bro, .ref bop, .ref baw, .ref bsd, .ref bot, .ref bct, .ref bcr, .ref bud, .ref blo, .ref bwl, .int us, .ref bub, .ref bul, .ref bua])), (bgv, .inl (G.2 0, 2000, .inl gv))] H ∧ lv_has ls 3 [(2, .int v), (0, .ref m0), (1, .int p1)]) ?_ ?_ 2002 0 ⟨(vp_in_iff.mpr (by decide)), (Nat.le_of_ble_eq_true rfl), hF, rfl, rfl, hP, lv_sub hl [0, 1, 2] rfl⟩
  · rintro k H locs ls ⟨hi0, hi1, _, _, _, _, _⟩
    have hi0 : (vp_in k 2001) := hi0
    have hi1 : 2001 < k.toNatClampNeg + 0 := hi1
    exact absurd (hi_lt hi0) (by omega)
  · rintro n ih k H locs ls ⟨hi0, hi1, hF, rfl, rfl, hP, hl⟩
    have hi0 : (vp_in k 2001) := hi0
    have hi1 : 2001 < k.toNatClampNeg + (n + 1) := hi1
    have hP : va_P G.1 vwCl [(m0, .inr (8, [.int cod, .long mt, .int hd, .int mmd, .ref bkd, .ref btr, .ref bdl, .int typ, .int rd, .ref btp, .int giv, .ref bgv, .ref bse, .ref bro, .ref bop, .ref baw, .ref bsd, .ref bot, .ref bct, .ref bcr, .ref bud, .ref blo, .ref bwl, .int us, .ref bub, .ref bul, .ref bua])), (bgv, .inl (G.2 0, 2000, .inl gv))] s.heap := hP
    have hl : lv_has ls 3 [(2, .int k), (0, .ref m0), (1, .int p1)] := hl
    have hF : F_X6_wasGiven cod mt hd mmd typ rd giv us gv p1 = FL_X6_wasGiven_2 cod mt hd mmd typ rd giv us gv p1 (n + 1) k := hF
    refine lv_iload_n hx hb dX6_wasGiven_2 rfl (lv_at hl 0 rfl) ?_
    refine lv_aload_n hx hb dX6_wasGiven_3 rfl (lv_at hl 1 rfl) ?_
    refine va_get (D := G.1) (ci := 8) (v := .int giv) (C := RX6) (T := TX6) (N := 27) hx hb hts iX6 hown hK.1 hP 0 rfl rfl 10 (by decide) (hts (.fieldLink RX6 90 "RightsStepsModel" "givens" "I") (by decide +kernel)) (fun _ h9 => h9) rfl dX6_wasGiven_4 ?_
    refine lv_icmp_ge (tgt := 28) hx hb dX6_wasGiven_7 (by decide) (fun c_7 => ?_) (fun c_7 => ?_)
    · have hF := if_t hF c_7
      refine lv_iconst (v := 0) hx hb dX6_wasGiven_28 (by decide) ?_
      exact W.zret (v := 0) (ty := .boolean) hx hb hr rfl (fun t ht hW => ⟨congrArg (fun z : Int32 => Outcome.returned (some (.int z))) hF.symm, ht⟩) (fun _ h => by cases h) dX6_wasGiven_29
    · have hF := if_f hF c_7
      refine lv_aload_n hx hb dX6_wasGiven_10 rfl (lv_at hl 1 rfl) ?_
      refine va_get (D := G.1) (ci := 8) (v := .ref bgv) (C := RX6) (T := TX6) (N := 27) hx hb hts iX6 hown hK.1 hP 0 rfl rfl 11 (by decide) (hts (.fieldLink RX6 23 "RightsStepsModel" "given" "[I") (by decide +kernel)) (fun _ h9 => h9) rfl dX6_wasGiven_11 ?_
      refine lv_iload_n hx hb dX6_wasGiven_14 rfl (lv_at hl 0 rfl) ?_
      refine va_iald (f := gv) hx hb hK.1 hP 1 0 rfl rfl (in_tr hi0 hg c_7) dX6_wasGiven_15 ?_
      refine lv_iload_n hx hb dX6_wasGiven_16 rfl (lv_at hl 2 rfl) ?_
      refine lv_icmp_ne (tgt := 22) hx hb dX6_wasGiven_17 (by decide) (fun c_17 => ?_) (fun c_17 => ?_)
      · have hF := if_f hF c_17
        refine lv_iinc (v := (k + 1)) (lv' := [(2, .int (k + 1)), (0, .ref m0), (1, .int p1)]) hx hb dX6_wasGiven_22 hl (k := 0) rfl rfl (by decide) rfl (fun ls hl => ?_)
        refine lv_goto (tgt := 2) hx hb dX6_wasGiven_25 (by decide) ?_
        exact ih (k + 1) _ _ _ ⟨(in_up (by decide) (in_tr hi0 hg c_7)), (by rw [i_incN hi0 (by decide)]; omega), hF, rfl, rfl, hP, lv_sub hl [0, 1, 2] rfl⟩
      · have hF := if_t hF c_17
        refine lv_iconst (v := 1) hx hb dX6_wasGiven_20 (by decide) ?_
        exact W.zret (v := 1) (ty := .boolean) hx hb hr rfl (fun t ht hW => ⟨congrArg (fun z : Int32 => Outcome.returned (some (.int z))) hF.symm, ht⟩) (fun _ h => by cases h) dX6_wasGiven_21

def F_X6_note (cod : Int32) (mt : Int64) (hd : Int32) (mmd : Int32) (typ : Int32) (rd : Int32) (giv : Int32) (us : Int32) (ub : Nat → Int32) (ul : Nat → Int32) (ua : Nat → Int32) (p1 : Int32) (p2 : Int32) : Int32 × Int32 × (Nat → Int32) × (Nat → Int32) × (Nat → Int32) :=
  (if 300 ≤ us then (p2, ((us + 1), ub, ul, ua)) else (p2, ((us + 1), (upd ub (us : Int32).toNatClampNeg (hd + 1)), (upd ul (us : Int32).toNatClampNeg p1), (upd ua (us : Int32).toNatClampNeg p2))))
set_option maxHeartbeats 4000000 in
set_option maxRecDepth 100000 in
theorem c_X6_note (l : Launch) (G : gG) (m0 bub bul bua bkd btr bdl btp bgv bse bro bop baw bsd bot bct bcr bud blo bwl : Nat) (sz : Nat) (cod : Int32) (mt : Int64) (hd : Int32) (mmd : Int32) (typ : Int32) (rd : Int32) (giv : Int32) (us : Int32) (ub : Nat → Int32) (ul : Nat → Int32) (ua : Nat → Int32) (p1 : Int32) (p2 : Int32) (hu : ¬ us < 0) : Met l yX6_note wsX6_note ({ frames := 0, cells := 0, slots := 0, locals := 0 }) (va_Pc [.ref m0, .int p1, .int p2] (pR G [(m0, .inr (8, [.int cod, .long mt, .int hd, .int mmd, .ref bkd, .ref btr, .ref bdl, .int typ, .int rd, .ref btp, .int giv, .ref bgv, .ref bse, .ref bro, .ref bop, .ref baw, .ref bsd, .ref bot, .ref bct, .ref bcr, .ref bud, .ref blo, .ref bwl, .int us, .ref bub, .ref bul, .ref bua])), (bub, .inl (G.2 0, 300, .inl ub)), (bul, .inl (G.2 0, 300, .inl ul)), (bua, .inl (G.2 0, 300, .inl ua))] sz)) (va_Qi (fun (r : Int32) (u : Int32 × (Nat → Int32) × (Nat → Int32) × (Nat → Int32)) => (r, u) = F_X6_note cod mt hd mmd typ rd giv us ub ul ua p1 p2) (fun u t => pO G [(m0, .inr (8, [.int cod, .long mt, .int hd, .int mmd, .ref bkd, .ref btr, .ref bdl, .int typ, .int rd, .ref btp, .int giv, .ref bgv, .ref bse, .ref bro, .ref bop, .ref baw, .ref bsd, .ref bot, .ref bct, .ref bcr, .ref bud, .ref blo, .ref bwl, .int u.1, .ref bub, .ref bul, .ref bua])), (bub, .inl (G.2 0, 300, .inl u.2.1)), (bul, .inl (G.2 0, 300, .inl u.2.2.1)), (bua, .inl (G.2 0, 300, .inl u.2.2.2))] (va_A [(m0, .inr (8, [.int cod, .long mt, .int hd, .int mmd, .ref bkd, .ref btr, .ref bdl, .int typ, .int rd, .ref btp, .int giv, .ref bgv, .ref bse, .ref bro, .ref bop, .ref baw, .ref bsd, .ref bot, .ref bct, .ref bcr, .ref bud, .ref blo, .ref bwl, .int us, .ref bub, .ref bul, .ref bua])), (bub, .inl (G.2 0, 300, .inl ub)), (bul, .inl (G.2 0, 300, .inl ul)), (bua, .inl (G.2 0, 300, .inl ua))] sz) t) (va_A [(m0, .inr (8, [.int cod, .long mt, .int hd, .int mmd, .ref bkd, .ref btr, .ref bdl, .int typ, .int rd, .ref btp, .int giv, .ref bgv, .ref bse, .ref bro, .ref bop, .ref baw, .ref bsd, .ref bot, .ref bct, .ref bcr, .ref bud, .ref blo, .ref bwl, .int us, .ref bub, .ref bul, .ref bua])), (bub, .inl (G.2 0, 300, .inl ub)), (bul, .inl (G.2 0, 300, .inl ul)), (bua, .inl (G.2 0, 300, .inl ua))] sz)) 0 0 (va_A [(m0, .inr (8, [.int cod, .long mt, .int hd, .int mmd, .ref bkd, .ref btr, .ref bdl, .int typ, .int rd, .ref btp, .int giv, .ref bgv, .ref bse, .ref bro, .ref bop, .ref baw, .ref bsd, .ref bot, .ref bct, .ref bcr, .ref bud, .ref blo, .ref bwl, .int us, .ref bub, .ref bul, .ref bua])), (bub, .inl (G.2 0, 300, .inl ub)), (bul, .inl (G.2 0, 300, .inl ul)), (bua, .inl (G.2 0, 300, .inl ua))] sz) := by
  refine Met.ofW (cc := cX6_note) (maxL := 3) (ret := (some .int)) (by decide) rfl ?_
  intro p e s m args below meth c s₁ B hml hv
  obtain ⟨rfl, hsz, hP, hK, hD0⟩ := hv
  have hx := B.exec
  have hb := B.bytes
  have hr := B.returns
  have hts := atoms_spec (ws := wsX6_note) B.pre
  have hown : s.vm.findClass RX6 = some m.cls := findClass_of_methodNamed B.named
  have hlocks := B.notSynchronized
  subst hsz
  have iX6 : ∀ w ∈ wsX60, w ∈ wsX6_note := by decide +kernel
  have hD := hD0.self (sz := s.heap.size)
  generalize hAe : va_A [(m0, .inr (8, [.int cod, .long mt, .int hd, .int mmd, .ref bkd, .ref btr, .ref bdl, .int typ, .int rd, .ref btp, .int giv, .ref bgv, .ref bse, .ref bro, .ref bop, .ref baw, .ref bsd, .ref bot, .ref bct, .ref bcr, .ref bud, .ref blo, .ref bwl, .int us, .ref bub, .ref bul, .ref bua])), (bub, .inl (G.2 0, 300, .inl ub)), (bul, .inl (G.2 0, 300, .inl ul)), (bua, .inl (G.2 0, 300, .inl ua))] s.heap.size = A at hD ⊢
  have hA : ∀ q : Nat, s.heap.size ≤ q → A q := fun q h => by rw [← hAe]; exact Or.inr h
  have hS : va_S A s.heap s.heap [] := va_S.rf
  have hP : va_P G.1 vwCl [(m0, .inr (8, [.int cod, .long mt, .int hd, .int mmd, .ref bkd, .ref btr, .ref bdl, .int typ, .int rd, .ref btp, .int giv, .ref bgv, .ref bse, .ref bro, .ref bop, .ref baw, .ref bsd, .ref bot, .ref bct, .ref bcr, .ref bud, .ref blo, .ref bwl, .int us, .ref bub, .ref bul, .ref bua])), (bub, .inl (G.2 0, 300, .inl ub)), (bul, .inl (G.2 0, 300, .inl ul)), (bua, .inl (G.2 0, 300, .inl ua))] s.heap := hP
  have hl := lv_entry ([.ref m0, .int p1, .int p2]) (n := 3) (Nat.le_of_ble_eq_true rfl)
  rw [lg_entry_eq]
  generalize (lg_sl ([.ref m0, .int p1, .int p2]) ++ List.replicate (3 - (lg_sl ([.ref m0, .int p1, .int p2])).length) Slot.unset).toArray = ls at hl ⊢
  have hl : lv_has ls 3 [(0, .ref m0), (1, .int p1), (2, .int p2)] := hl
  have hF : F_X6_note cod mt hd mmd typ rd giv us ub ul ua p1 p2 = F_X6_note cod mt hd mmd typ rd giv us ub ul ua p1 p2 := rfl
  refine lv_aload_n hx hb dX6_note_0 rfl (lv_at hl 0 rfl) ?_
  refine va_get (D := G.1) (ci := 8) (v := .int us) (C := RX6) (T := TX6) (N := 27) hx hb hts iX6 hown hK.1 hP 0 rfl rfl 23 (by decide) (hts (.fieldLink RX6 93 "RightsStepsModel" "uses" "I") (by decide +kernel)) (fun _ h9 => h9) rfl dX6_note_1 ?_
  refine lv_sipush (v := 300) hx hb dX6_note_4 (by decide) ?_
  refine lv_icmp_ge (tgt := 45) hx hb dX6_note_7 (by decide) (fun c_7 => ?_) (fun c_7 => ?_)
  · have hF := if_t hF c_7
    refine lv_aload_n hx hb dX6_note_45 rfl (lv_at hl 0 rfl) ?_
    refine lv_dup hx hb dX6_note_46 rfl ?_
    refine va_get (D := G.1) (ci := 8) (v := .int us) (C := RX6) (T := TX6) (N := 27) hx hb hts iX6 hown hK.1 hP 0 rfl rfl 23 (by decide) (hts (.fieldLink RX6 93 "RightsStepsModel" "uses" "I") (by decide +kernel)) (fun _ h9 => h9) rfl dX6_note_47 ?_
    refine lv_iconst (v := 1) hx hb dX6_note_50 (by decide) ?_
    refine lv_iadd hx hb dX6_note_51 ?_
    refine va_put (D := G.1) (ci := 8) (v := .int (us + 1)) (ty := .int) (C := RX6) (T := TX6) (N := 27) hx hb hts iX6 tyX6 tyX6_ok nmX6 hown hK.1 hP hD hS 0 rfl rfl 23 (by decide) (hts (.fieldLink RX6 93 "RightsStepsModel" "uses" "I") (by decide +kernel)) (fun _ h9 => h9) rfl (by decide +kernel) rfl rfl (Nat.le_of_ble_eq_true rfl) dX6_note_52 (fun H locs hP hD hS => ?_)
    have hP : va_P G.1 vwCl [(m0, .inr (8, [.int cod, .long mt, .int hd, .int mmd, .ref bkd, .ref btr, .ref bdl, .int typ, .int rd, .ref btp, .int giv, .ref bgv, .ref bse, .ref bro, .ref bop, .ref baw, .ref bsd, .ref bot, .ref bct, .ref bcr, .ref bud, .ref blo, .ref bwl, .int (us + 1), .ref bub, .ref bul, .ref bua])), (bub, .inl (G.2 0, 300, .inl ub)), (bul, .inl (G.2 0, 300, .inl ul)), (bua, .inl (G.2 0, 300, .inl ua))] H := hP
    have hD : va_D A [(m0, .inr (8, [.int cod, .long mt, .int hd, .int mmd, .ref bkd, .ref btr, .ref bdl, .int typ, .int rd, .ref btp, .int giv, .ref bgv, .ref bse, .ref bro, .ref bop, .ref baw, .ref bsd, .ref bot, .ref bct, .ref bcr, .ref bud, .ref blo, .ref bwl, .int (us + 1), .ref bub, .ref bul, .ref bua])), (bub, .inl (G.2 0, 300, .inl ub)), (bul, .inl (G.2 0, 300, .inl ul)), (bua, .inl (G.2 0, 300, .inl ua))] := hD
    refine lv_iload_n hx hb dX6_note_55 rfl (lv_at hl 2 rfl) ?_
    exact W.iret (v := p2) hx hb hr (fun t ht hW => ⟨⟨p2, ((us + 1), ub, ul, ua), rfl, hF.symm, by rw [ht]; exact hP.sub [0, 1, 2, 3] rfl, hD.sub [0, 1, 2, 3] (by decide) rfl⟩, hS.F ht⟩) hS.2.2 dX6_note_56
  · have hF := if_f hF c_7
    refine lv_aload_n hx hb dX6_note_10 rfl (lv_at hl 0 rfl) ?_
    refine va_get (D := G.1) (ci := 8) (v := .ref bub) (C := RX6) (T := TX6) (N := 27) hx hb hts iX6 hown hK.1 hP 0 rfl rfl 24 (by decide) (hts (.fieldLink RX6 62 "RightsStepsModel" "useBy" "[I") (by decide +kernel)) (fun _ h9 => h9) rfl dX6_note_11 ?_
    refine lv_aload_n hx hb dX6_note_14 rfl (lv_at hl 0 rfl) ?_
    refine va_get (D := G.1) (ci := 8) (v := .int us) (C := RX6) (T := TX6) (N := 27) hx hb hts iX6 hown hK.1 hP 0 rfl rfl 23 (by decide) (hts (.fieldLink RX6 93 "RightsStepsModel" "uses" "I") (by decide +kernel)) (fun _ h9 => h9) rfl dX6_note_15 ?_
    refine lv_aload_n hx hb dX6_note_18 rfl (lv_at hl 0 rfl) ?_
    refine va_get (D := G.1) (ci := 8) (v := .int hd) (C := RX6) (T := TX6) (N := 27) hx hb hts iX6 hown hK.1 hP 0 rfl rfl 2 (by decide) (hts (.fieldLink RX6 96 "RightsStepsModel" "hand" "I") (by decide +kernel)) (fun _ h9 => h9) rfl dX6_note_19 ?_
    refine lv_iconst (v := 1) hx hb dX6_note_22 (by decide) ?_
    refine lv_iadd hx hb dX6_note_23 ?_
    refine va_iast (f := ub) hx hb hK.1 hP hD hS 1 0 rfl rfl (in_le hu c_7 rfl) dX6_note_24 (fun H locs hP hD hS => ?_)
    have hP : va_P G.1 vwCl [(m0, .inr (8, [.int cod, .long mt, .int hd, .int mmd, .ref bkd, .ref btr, .ref bdl, .int typ, .int rd, .ref btp, .int giv, .ref bgv, .ref bse, .ref bro, .ref bop, .ref baw, .ref bsd, .ref bot, .ref bct, .ref bcr, .ref bud, .ref blo, .ref bwl, .int us, .ref bub, .ref bul, .ref bua])), (bub, .inl (G.2 0, 300, .inl (upd ub (us : Int32).toNatClampNeg (hd + 1)))), (bul, .inl (G.2 0, 300, .inl ul)), (bua, .inl (G.2 0, 300, .inl ua))] H := hP
    have hD : va_D A [(m0, .inr (8, [.int cod, .long mt, .int hd, .int mmd, .ref bkd, .ref btr, .ref bdl, .int typ, .int rd, .ref btp, .int giv, .ref bgv, .ref bse, .ref bro, .ref bop, .ref baw, .ref bsd, .ref bot, .ref bct, .ref bcr, .ref bud, .ref blo, .ref bwl, .int us, .ref bub, .ref bul, .ref bua])), (bub, .inl (G.2 0, 300, .inl (upd ub (us : Int32).toNatClampNeg (hd + 1)))), (bul, .inl (G.2 0, 300, .inl ul)), (bua, .inl (G.2 0, 300, .inl ua))] := hD
    refine lv_aload_n hx hb dX6_note_25 rfl (lv_at hl 0 rfl) ?_
    refine va_get (D := G.1) (ci := 8) (v := .ref bul) (C := RX6) (T := TX6) (N := 27) hx hb hts iX6 hown hK.1 hP 0 rfl rfl 25 (by decide) (hts (.fieldLink RX6 65 "RightsStepsModel" "useLevel" "[I") (by decide +kernel)) (fun _ h9 => h9) rfl dX6_note_26 ?_
    refine lv_aload_n hx hb dX6_note_29 rfl (lv_at hl 0 rfl) ?_
    refine va_get (D := G.1) (ci := 8) (v := .int us) (C := RX6) (T := TX6) (N := 27) hx hb hts iX6 hown hK.1 hP 0 rfl rfl 23 (by decide) (hts (.fieldLink RX6 93 "RightsStepsModel" "uses" "I") (by decide +kernel)) (fun _ h9 => h9) rfl dX6_note_30 ?_
    refine lv_iload_n hx hb dX6_note_33 rfl (lv_at hl 1 rfl) ?_
    refine va_iast (f := ul) hx hb hK.1 hP hD hS 2 0 rfl rfl (in_le hu c_7 rfl) dX6_note_34 (fun H locs hP hD hS => ?_)
    have hP : va_P G.1 vwCl [(m0, .inr (8, [.int cod, .long mt, .int hd, .int mmd, .ref bkd, .ref btr, .ref bdl, .int typ, .int rd, .ref btp, .int giv, .ref bgv, .ref bse, .ref bro, .ref bop, .ref baw, .ref bsd, .ref bot, .ref bct, .ref bcr, .ref bud, .ref blo, .ref bwl, .int us, .ref bub, .ref bul, .ref bua])), (bub, .inl (G.2 0, 300, .inl (upd ub (us : Int32).toNatClampNeg (hd + 1)))), (bul, .inl (G.2 0, 300, .inl (upd ul (us : Int32).toNatClampNeg p1))), (bua, .inl (G.2 0, 300, .inl ua))] H := hP
    have hD : va_D A [(m0, .inr (8, [.int cod, .long mt, .int hd, .int mmd, .ref bkd, .ref btr, .ref bdl, .int typ, .int rd, .ref btp, .int giv, .ref bgv, .ref bse, .ref bro, .ref bop, .ref baw, .ref bsd, .ref bot, .ref bct, .ref bcr, .ref bud, .ref blo, .ref bwl, .int us, .ref bub, .ref bul, .ref bua])), (bub, .inl (G.2 0, 300, .inl (upd ub (us : Int32).toNatClampNeg (hd + 1)))), (bul, .inl (G.2 0, 300, .inl (upd ul (us : Int32).toNatClampNeg p1))), (bua, .inl (G.2 0, 300, .inl ua))] := hD
    refine lv_aload_n hx hb dX6_note_35 rfl (lv_at hl 0 rfl) ?_
    refine va_get (D := G.1) (ci := 8) (v := .ref bua) (C := RX6) (T := TX6) (N := 27) hx hb hts iX6 hown hK.1 hP 0 rfl rfl 26 (by decide) (hts (.fieldLink RX6 68 "RightsStepsModel" "useAnswer" "[I") (by decide +kernel)) (fun _ h9 => h9) rfl dX6_note_36 ?_
    refine lv_aload_n hx hb dX6_note_39 rfl (lv_at hl 0 rfl) ?_
    refine va_get (D := G.1) (ci := 8) (v := .int us) (C := RX6) (T := TX6) (N := 27) hx hb hts iX6 hown hK.1 hP 0 rfl rfl 23 (by decide) (hts (.fieldLink RX6 93 "RightsStepsModel" "uses" "I") (by decide +kernel)) (fun _ h9 => h9) rfl dX6_note_40 ?_
    refine lv_iload_n hx hb dX6_note_43 rfl (lv_at hl 2 rfl) ?_
    refine va_iast (f := ua) hx hb hK.1 hP hD hS 3 0 rfl rfl (in_le hu c_7 rfl) dX6_note_44 (fun H locs hP hD hS => ?_)
    have hP : va_P G.1 vwCl [(m0, .inr (8, [.int cod, .long mt, .int hd, .int mmd, .ref bkd, .ref btr, .ref bdl, .int typ, .int rd, .ref btp, .int giv, .ref bgv, .ref bse, .ref bro, .ref bop, .ref baw, .ref bsd, .ref bot, .ref bct, .ref bcr, .ref bud, .ref blo, .ref bwl, .int us, .ref bub, .ref bul, .ref bua])), (bub, .inl (G.2 0, 300, .inl (upd ub (us : Int32).toNatClampNeg (hd + 1)))), (bul, .inl (G.2 0, 300, .inl (upd ul (us : Int32).toNatClampNeg p1))), (bua, .inl (G.2 0, 300, .inl (upd ua (us : Int32).toNatClampNeg p2)))] H := hP
    have hD : va_D A [(m0, .inr (8, [.int cod, .long mt, .int hd, .int mmd, .ref bkd, .ref btr, .ref bdl, .int typ, .int rd, .ref btp, .int giv, .ref bgv, .ref bse, .ref bro, .ref bop, .ref baw, .ref bsd, .ref bot, .ref bct, .ref bcr, .ref bud, .ref blo, .ref bwl, .int us, .ref bub, .ref bul, .ref bua])), (bub, .inl (G.2 0, 300, .inl (upd ub (us : Int32).toNatClampNeg (hd + 1)))), (bul, .inl (G.2 0, 300, .inl (upd ul (us : Int32).toNatClampNeg p1))), (bua, .inl (G.2 0, 300, .inl (upd ua (us : Int32).toNatClampNeg p2)))] := hD
    refine lv_aload_n hx hb dX6_note_45 rfl (lv_at hl 0 rfl) ?_
    refine lv_dup hx hb dX6_note_46 rfl ?_
    refine va_get (D := G.1) (ci := 8) (v := .int us) (C := RX6) (T := TX6) (N := 27) hx hb hts iX6 hown hK.1 hP 0 rfl rfl 23 (by decide) (hts (.fieldLink RX6 93 "RightsStepsModel" "uses" "I") (by decide +kernel)) (fun _ h9 => h9) rfl dX6_note_47 ?_
    refine lv_iconst (v := 1) hx hb dX6_note_50 (by decide) ?_
    refine lv_iadd hx hb dX6_note_51 ?_
    refine va_put (D := G.1) (ci := 8) (v := .int (us + 1)) (ty := .int) (C := RX6) (T := TX6) (N := 27) hx hb hts iX6 tyX6 tyX6_ok nmX6 hown hK.1 hP hD hS 0 rfl rfl 23 (by decide) (hts (.fieldLink RX6 93 "RightsStepsModel" "uses" "I") (by decide +kernel)) (fun _ h9 => h9) rfl (by decide +kernel) rfl rfl (Nat.le_of_ble_eq_true rfl) dX6_note_52 (fun H locs hP hD hS => ?_)
    have hP : va_P G.1 vwCl [(m0, .inr (8, [.int cod, .long mt, .int hd, .int mmd, .ref bkd, .ref btr, .ref bdl, .int typ, .int rd, .ref btp, .int giv, .ref bgv, .ref bse, .ref bro, .ref bop, .ref baw, .ref bsd, .ref bot, .ref bct, .ref bcr, .ref bud, .ref blo, .ref bwl, .int (us + 1), .ref bub, .ref bul, .ref bua])), (bub, .inl (G.2 0, 300, .inl (upd ub (us : Int32).toNatClampNeg (hd + 1)))), (bul, .inl (G.2 0, 300, .inl (upd ul (us : Int32).toNatClampNeg p1))), (bua, .inl (G.2 0, 300, .inl (upd ua (us : Int32).toNatClampNeg p2)))] H := hP
    have hD : va_D A [(m0, .inr (8, [.int cod, .long mt, .int hd, .int mmd, .ref bkd, .ref btr, .ref bdl, .int typ, .int rd, .ref btp, .int giv, .ref bgv, .ref bse, .ref bro, .ref bop, .ref baw, .ref bsd, .ref bot, .ref bct, .ref bcr, .ref bud, .ref blo, .ref bwl, .int (us + 1), .ref bub, .ref bul, .ref bua])), (bub, .inl (G.2 0, 300, .inl (upd ub (us : Int32).toNatClampNeg (hd + 1)))), (bul, .inl (G.2 0, 300, .inl (upd ul (us : Int32).toNatClampNeg p1))), (bua, .inl (G.2 0, 300, .inl (upd ua (us : Int32).toNatClampNeg p2)))] := hD
    refine lv_iload_n hx hb dX6_note_55 rfl (lv_at hl 2 rfl) ?_
    exact W.iret (v := p2) hx hb hr (fun t ht hW => ⟨⟨p2, ((us + 1), (upd ub (us : Int32).toNatClampNeg (hd + 1)), (upd ul (us : Int32).toNatClampNeg p1), (upd ua (us : Int32).toNatClampNeg p2)), rfl, hF.symm, by rw [ht]; exact hP.sub [0, 1, 2, 3] rfl, hD.sub [0, 1, 2, 3] (by decide) rfl⟩, hS.F ht⟩) hS.2.2 dX6_note_56

def FL_X6_asked_104 (cod : Int32) (mt : Int64) (hd : Int32) (mmd : Int32) (typ : Int32) (rd : Int32) (giv : Int32) (us : Int32) (tp : Nat → Int32) (gv : Nat → Int32) (se : Nat → Int32) (ro : Nat → Int64) (opv : Nat → Int32) (aw : Nat → Int32) (sd : Nat → Int32) (ot : Nat → Int32) (lo : Nat → Int64) (p1 : Int32) : Nat → Int32 → Int32 × Int32 × Int32 × (Nat → Int32) × (Nat → Int32) × (Nat → Int32) × (Nat → Int32)
  | 0, _ => (0, (rd, giv, gv, aw, sd, ot))
  | n + 1, rdx => (if typ ≤ rdx then (if rdx = typ then ((-34), (rdx, giv, gv, aw, sd, ot)) else (4, ((rdx + 1), (giv + 1), (upd gv (giv : Int32).toNatClampNeg (tp (rdx : Int32).toNatClampNeg)), (upd aw (hd : Int32).toNatClampNeg p1), (upd sd (hd : Int32).toNatClampNeg (tp (rdx : Int32).toNatClampNeg)), (upd ot (hd : Int32).toNatClampNeg (tp (rdx : Int32).toNatClampNeg))))) else (if (F_X6_isPlain (tp (rdx : Int32).toNatClampNeg)) = 0 then (if (F_X6_wasGiven cod mt hd mmd typ rdx giv us gv (tp (rdx : Int32).toNatClampNeg)) = 0 then (if rdx = typ then ((-34), (rdx, giv, gv, aw, sd, ot)) else (4, ((rdx + 1), (giv + 1), (upd gv (giv : Int32).toNatClampNeg (tp (rdx : Int32).toNatClampNeg)), (upd aw (hd : Int32).toNatClampNeg p1), (upd sd (hd : Int32).toNatClampNeg (tp (rdx : Int32).toNatClampNeg)), (upd ot (hd : Int32).toNatClampNeg (tp (rdx : Int32).toNatClampNeg))))) else (FL_X6_asked_104 cod mt hd mmd typ rd giv us tp gv se ro opv aw sd ot lo p1 n (rdx + 1))) else (FL_X6_asked_104 cod mt hd mmd typ rd giv us tp gv se ro opv aw sd ot lo p1 n (rdx + 1))))
def F_X6_asked (cod : Int32) (mt : Int64) (hd : Int32) (mmd : Int32) (typ : Int32) (rd : Int32) (giv : Int32) (us : Int32) (tp : Nat → Int32) (gv : Nat → Int32) (se : Nat → Int32) (ro : Nat → Int64) (opv : Nat → Int32) (aw : Nat → Int32) (sd : Nat → Int32) (ot : Nat → Int32) (lo : Nat → Int64) (p1 : Int32) : Int32 × Int32 × Int32 × (Nat → Int32) × (Nat → Int32) × (Nat → Int32) × (Nat → Int32) :=
  (if (if 11 ≤ p1 then 3 else 2) ≤ (se (hd : Int32).toNatClampNeg) then (if p1 ≤ 10 then (if (opv (hd : Int32).toNatClampNeg) = p1 then (4, (rd, giv, gv, aw, sd, (upd ot (hd : Int32).toNatClampNeg 0))) else (if 0 ≤ (lg_cmp mt (lo (((21 * hd) + p1) : Int32).toNatClampNeg)) then (FL_X6_asked_104 cod mt hd mmd typ rd giv us tp gv se ro opv aw sd ot lo p1 2001 rd) else ((-55), (rd, giv, gv, aw, sd, ot)))) else (if (lg_cmp mt (ro (hd : Int32).toNatClampNeg)) < 0 then (if (opv (hd : Int32).toNatClampNeg) = p1 then (4, (rd, giv, gv, aw, sd, (upd ot (hd : Int32).toNatClampNeg 0))) else (if 0 ≤ (lg_cmp mt (lo (((21 * hd) + p1) : Int32).toNatClampNeg)) then (FL_X6_asked_104 cod mt hd mmd typ rd giv us tp gv se ro opv aw sd ot lo p1 2001 rd) else ((-55), (rd, giv, gv, aw, sd, ot)))) else ((-51), (rd, giv, gv, aw, sd, ot)))) else ((-18), (rd, giv, gv, aw, sd, ot)))
set_option maxHeartbeats 4000000 in
set_option maxRecDepth 100000 in
theorem c_X6_asked (l : Launch) (G : gG) (m0 btp bgv bse bro bop baw bsd bot blo bkd btr bdl bct bcr bud bwl bub bul bua : Nat) (sz : Nat) (cod : Int32) (mt : Int64) (hd : Int32) (mmd : Int32) (typ : Int32) (rd : Int32) (giv : Int32) (us : Int32) (tp : Nat → Int32) (gv : Nat → Int32) (se : Nat → Int32) (ro : Nat → Int64) (opv : Nat → Int32) (aw : Nat → Int32) (sd : Nat → Int32) (ot : Nat → Int32) (lo : Nat → Int64) (p1 : Int32) (hh : vp_in hd 4) (hn : vp_in p1 21) (ht : vp_in typ 2000) (hrd : vp_in rd (typ.toNatClampNeg + 1)) (hg : vp_in giv 2000) : Met l yX6_asked wsX6_asked ({ frames := 1, cells := 0, slots := 0, locals := 22 }) (va_Pc [.ref m0, .int p1] (pR G [(m0, .inr (8, [.int cod, .long mt, .int hd, .int mmd, .ref bkd, .ref btr, .ref bdl, .int typ, .int rd, .ref btp, .int giv, .ref bgv, .ref bse, .ref bro, .ref bop, .ref baw, .ref bsd, .ref bot, .ref bct, .ref bcr, .ref bud, .ref blo, .ref bwl, .int us, .ref bub, .ref bul, .ref bua])), (btp, .inl (G.2 0, 2000, .inl tp)), (bgv, .inl (G.2 0, 2000, .inl gv)), (bse, .inl (G.2 0, 4, .inl se)), (bro, .inl (G.2 1, 4, .inr (.inl ro))), (bop, .inl (G.2 0, 4, .inl opv)), (baw, .inl (G.2 0, 4, .inl aw)), (bsd, .inl (G.2 0, 4, .inl sd)), (bot, .inl (G.2 0, 4, .inl ot)), (blo, .inl (G.2 1, 84, .inr (.inl lo)))] sz)) (va_Qi (fun (r : Int32) (u : Int32 × Int32 × (Nat → Int32) × (Nat → Int32) × (Nat → Int32) × (Nat → Int32)) => (r, u) = F_X6_asked cod mt hd mmd typ rd giv us tp gv se ro opv aw sd ot lo p1) (fun u t => pO G [(m0, .inr (8, [.int cod, .long mt, .int hd, .int mmd, .ref bkd, .ref btr, .ref bdl, .int typ, .int u.1, .ref btp, .int u.2.1, .ref bgv, .ref bse, .ref bro, .ref bop, .ref baw, .ref bsd, .ref bot, .ref bct, .ref bcr, .ref bud, .ref blo, .ref bwl, .int us, .ref bub, .ref bul, .ref bua])), (btp, .inl (G.2 0, 2000, .inl tp)), (bgv, .inl (G.2 0, 2000, .inl u.2.2.1)), (bse, .inl (G.2 0, 4, .inl se)), (bro, .inl (G.2 1, 4, .inr (.inl ro))), (bop, .inl (G.2 0, 4, .inl opv)), (baw, .inl (G.2 0, 4, .inl u.2.2.2.1)), (bsd, .inl (G.2 0, 4, .inl u.2.2.2.2.1)), (bot, .inl (G.2 0, 4, .inl u.2.2.2.2.2)), (blo, .inl (G.2 1, 84, .inr (.inl lo)))] (va_A [(m0, .inr (8, [.int cod, .long mt, .int hd, .int mmd, .ref bkd, .ref btr, .ref bdl, .int typ, .int rd, .ref btp, .int giv, .ref bgv, .ref bse, .ref bro, .ref bop, .ref baw, .ref bsd, .ref bot, .ref bct, .ref bcr, .ref bud, .ref blo, .ref bwl, .int us, .ref bub, .ref bul, .ref bua])), (btp, .inl (G.2 0, 2000, .inl tp)), (bgv, .inl (G.2 0, 2000, .inl gv)), (bse, .inl (G.2 0, 4, .inl se)), (bro, .inl (G.2 1, 4, .inr (.inl ro))), (bop, .inl (G.2 0, 4, .inl opv)), (baw, .inl (G.2 0, 4, .inl aw)), (bsd, .inl (G.2 0, 4, .inl sd)), (bot, .inl (G.2 0, 4, .inl ot)), (blo, .inl (G.2 1, 84, .inr (.inl lo)))] sz) t) (va_A [(m0, .inr (8, [.int cod, .long mt, .int hd, .int mmd, .ref bkd, .ref btr, .ref bdl, .int typ, .int rd, .ref btp, .int giv, .ref bgv, .ref bse, .ref bro, .ref bop, .ref baw, .ref bsd, .ref bot, .ref bct, .ref bcr, .ref bud, .ref blo, .ref bwl, .int us, .ref bub, .ref bul, .ref bua])), (btp, .inl (G.2 0, 2000, .inl tp)), (bgv, .inl (G.2 0, 2000, .inl gv)), (bse, .inl (G.2 0, 4, .inl se)), (bro, .inl (G.2 1, 4, .inr (.inl ro))), (bop, .inl (G.2 0, 4, .inl opv)), (baw, .inl (G.2 0, 4, .inl aw)), (bsd, .inl (G.2 0, 4, .inl sd)), (bot, .inl (G.2 0, 4, .inl ot)), (blo, .inl (G.2 1, 84, .inr (.inl lo)))] sz)) 0 0 (va_A [(m0, .inr (8, [.int cod, .long mt, .int hd, .int mmd, .ref bkd, .ref btr, .ref bdl, .int typ, .int rd, .ref btp, .int giv, .ref bgv, .ref bse, .ref bro, .ref bop, .ref baw, .ref bsd, .ref bot, .ref bct, .ref bcr, .ref bud, .ref blo, .ref bwl, .int us, .ref bub, .ref bul, .ref bua])), (btp, .inl (G.2 0, 2000, .inl tp)), (bgv, .inl (G.2 0, 2000, .inl gv)), (bse, .inl (G.2 0, 4, .inl se)), (bro, .inl (G.2 1, 4, .inr (.inl ro))), (bop, .inl (G.2 0, 4, .inl opv)), (baw, .inl (G.2 0, 4, .inl aw)), (bsd, .inl (G.2 0, 4, .inl sd)), (bot, .inl (G.2 0, 4, .inl ot)), (blo, .inl (G.2 1, 84, .inr (.inl lo)))] sz) := by
  refine Met.ofW (cc := cX6_asked) (maxL := 4) (ret := (some .int)) (by decide) rfl ?_
  intro p e s m args below meth c s₁ B hml hv
  obtain ⟨rfl, hsz, hP, hK, hD0⟩ := hv
  have hx := B.exec
  have hb := B.bytes
  have hr := B.returns
  have hts := atoms_spec (ws := wsX6_asked) B.pre
  have hown : s.vm.findClass RX6 = some m.cls := findClass_of_methodNamed B.named
  have hlocks := B.notSynchronized
  subst hsz
  have iX6 : ∀ w ∈ wsX60, w ∈ wsX6_asked := by decide +kernel
  have hD := hD0.self (sz := s.heap.size)
  generalize hAe : va_A [(m0, .inr (8, [.int cod, .long mt, .int hd, .int mmd, .ref bkd, .ref btr, .ref bdl, .int typ, .int rd, .ref btp, .int giv, .ref bgv, .ref bse, .ref bro, .ref bop, .ref baw, .ref bsd, .ref bot, .ref bct, .ref bcr, .ref bud, .ref blo, .ref bwl, .int us, .ref bub, .ref bul, .ref bua])), (btp, .inl (G.2 0, 2000, .inl tp)), (bgv, .inl (G.2 0, 2000, .inl gv)), (bse, .inl (G.2 0, 4, .inl se)), (bro, .inl (G.2 1, 4, .inr (.inl ro))), (bop, .inl (G.2 0, 4, .inl opv)), (baw, .inl (G.2 0, 4, .inl aw)), (bsd, .inl (G.2 0, 4, .inl sd)), (bot, .inl (G.2 0, 4, .inl ot)), (blo, .inl (G.2 1, 84, .inr (.inl lo)))] s.heap.size = A at hD ⊢
  have hA : ∀ q : Nat, s.heap.size ≤ q → A q := fun q h => by rw [← hAe]; exact Or.inr h
  have hS : va_S A s.heap s.heap [] := va_S.rf
  have hP : va_P G.1 vwCl [(m0, .inr (8, [.int cod, .long mt, .int hd, .int mmd, .ref bkd, .ref btr, .ref bdl, .int typ, .int rd, .ref btp, .int giv, .ref bgv, .ref bse, .ref bro, .ref bop, .ref baw, .ref bsd, .ref bot, .ref bct, .ref bcr, .ref bud, .ref blo, .ref bwl, .int us, .ref bub, .ref bul, .ref bua])), (btp, .inl (G.2 0, 2000, .inl tp)), (bgv, .inl (G.2 0, 2000, .inl gv)), (bse, .inl (G.2 0, 4, .inl se)), (bro, .inl (G.2 1, 4, .inr (.inl ro))), (bop, .inl (G.2 0, 4, .inl opv)), (baw, .inl (G.2 0, 4, .inl aw)), (bsd, .inl (G.2 0, 4, .inl sd)), (bot, .inl (G.2 0, 4, .inl ot)), (blo, .inl (G.2 1, 84, .inr (.inl lo)))] s.heap := hP
  have hl := lv_entry ([.ref m0, .int p1]) (n := 4) (Nat.le_of_ble_eq_true rfl)
  rw [lg_entry_eq]
  generalize (lg_sl ([.ref m0, .int p1]) ++ List.replicate (4 - (lg_sl ([.ref m0, .int p1])).length) Slot.unset).toArray = ls at hl ⊢
  have hl : lv_has ls 4 [(0, .ref m0), (1, .int p1)] := hl
  have hF : F_X6_asked cod mt hd mmd typ rd giv us tp gv se ro opv aw sd ot lo p1 = F_X6_asked cod mt hd mmd typ rd giv us tp gv se ro opv aw sd ot lo p1 := rfl
  refine lv_aload_n hx hb dX6_asked_0 rfl (lv_at hl 0 rfl) ?_
  refine va_get (D := G.1) (ci := 8) (v := .ref bse) (C := RX6) (T := TX6) (N := 27) hx hb hts iX6 hown hK.1 hP 0 rfl rfl 12 (by decide) (hts (.fieldLink RX6 26 "RightsStepsModel" "session" "[I") (by decide +kernel)) (fun _ h9 => h9) rfl dX6_asked_1 ?_
  refine lv_aload_n hx hb dX6_asked_4 rfl (lv_at hl 0 rfl) ?_
  refine va_get (D := G.1) (ci := 8) (v := .int hd) (C := RX6) (T := TX6) (N := 27) hx hb hts iX6 hown hK.1 hP 0 rfl rfl 2 (by decide) (hts (.fieldLink RX6 96 "RightsStepsModel" "hand" "I") (by decide +kernel)) (fun _ h9 => h9) rfl dX6_asked_5 ?_
  refine va_iald (f := se) hx hb hK.1 hP 3 0 rfl rfl hh dX6_asked_8 ?_
  refine lv_istore_n (lv' := [(2, .int (se (hd : Int32).toNatClampNeg)), (0, .ref m0), (1, .int p1)]) hx hb dX6_asked_9 rfl hl (by decide) rfl (fun ls hl => ?_)
  refine lv_iload_n hx hb dX6_asked_10 rfl (lv_at hl 0 rfl) ?_
  refine lv_iload_n hx hb dX6_asked_11 rfl (lv_at hl 2 rfl) ?_
  refine lv_bipush (v := 11) hx hb dX6_asked_12 (by decide) ?_
  refine W.join (J := 22) (nL := 4) (lvm := [(2, .int (se (hd : Int32).toNatClampNeg)), (0, .ref m0), (1, .int p1)]) (st := .int (if 11 ≤ p1 then 3 else 2) :: .int (se (hd : Int32).toNatClampNeg) :: []) (fun hJ => ?_) (fun ls hl => ?_)
  · refine lv_icmp_ge (tgt := 21) hx hb dX6_asked_14 (by decide) (fun c_14 => ?_) (fun c_14 => ?_)
    · refine lv_iconst (v := 3) hx hb dX6_asked_21 (by decide) ?_
      refine W.eq (g2 := F0 m 22 ls (.int (if 11 ≤ p1 then 3 else 2) :: .int (se (hd : Int32).toNatClampNeg) :: [])) (by rw [if_pos c_14]) ?_
      exact hJ ls (lv_sub hl [0, 1, 2] rfl)
    · refine lv_iconst (v := 2) hx hb dX6_asked_17 (by decide) ?_
      refine lv_goto (tgt := 22) hx hb dX6_asked_18 (by decide) ?_
      refine W.eq (g2 := F0 m 22 ls (.int (if 11 ≤ p1 then 3 else 2) :: .int (se (hd : Int32).toNatClampNeg) :: [])) (by rw [if_neg c_14]) ?_
      exact hJ ls (lv_sub hl [0, 1, 2] rfl)
  · refine lv_icmp_ge (tgt := 28) hx hb dX6_asked_22 (by decide) (fun c_22 => ?_) (fun c_22 => ?_)
    · have hF := if_t hF c_22
      refine lv_iload_n hx hb dX6_asked_28 rfl (lv_at hl 2 rfl) ?_
      refine lv_bipush (v := 10) hx hb dX6_asked_29 (by decide) ?_
      refine lv_icmp_le (tgt := 54) hx hb dX6_asked_31 (by decide) (fun c_31 => ?_) (fun c_31 => ?_)
      · have hF := if_t hF c_31
        refine lv_aload_n hx hb dX6_asked_54 rfl (lv_at hl 1 rfl) ?_
        refine va_get (D := G.1) (ci := 8) (v := .ref bop) (C := RX6) (T := TX6) (N := 27) hx hb hts iX6 hown hK.1 hP 0 rfl rfl 14 (by decide) (hts (.fieldLink RX6 34 "RightsStepsModel" "open" "[I") (by decide +kernel)) (fun _ h9 => h9) rfl dX6_asked_55 ?_
        refine lv_aload_n hx hb dX6_asked_58 rfl (lv_at hl 1 rfl) ?_
        refine va_get (D := G.1) (ci := 8) (v := .int hd) (C := RX6) (T := TX6) (N := 27) hx hb hts iX6 hown hK.1 hP 0 rfl rfl 2 (by decide) (hts (.fieldLink RX6 96 "RightsStepsModel" "hand" "I") (by decide +kernel)) (fun _ h9 => h9) rfl dX6_asked_59 ?_
        refine va_iald (f := opv) hx hb hK.1 hP 5 0 rfl rfl hh dX6_asked_62 ?_
        refine lv_iload_n hx hb dX6_asked_63 rfl (lv_at hl 2 rfl) ?_
        refine lv_icmp_ne (tgt := 79) hx hb dX6_asked_64 (by decide) (fun c_64 => ?_) (fun c_64 => ?_)
        · have hF := if_f hF c_64
          refine lv_aload_n hx hb dX6_asked_79 rfl (lv_at hl 1 rfl) ?_
          refine va_get (D := G.1) (ci := 8) (v := .long mt) (C := RX6) (T := TX6) (N := 27) hx hb hts iX6 hown hK.1 hP 0 rfl rfl 1 (by decide) (hts (.fieldLink RX6 99 "RightsStepsModel" "time" "J") (by decide +kernel)) (fun _ h9 => h9) rfl dX6_asked_80 ?_
          refine lv_aload_n hx hb dX6_asked_83 rfl (lv_at hl 1 rfl) ?_
          refine va_get (D := G.1) (ci := 8) (v := .ref blo) (C := RX6) (T := TX6) (N := 27) hx hb hts iX6 hown hK.1 hP 0 rfl rfl 21 (by decide) (hts (.fieldLink RX6 55 "RightsStepsModel" "locked" "[J") (by decide +kernel)) (fun _ h9 => h9) rfl dX6_asked_84 ?_
          refine lv_bipush (v := 21) hx hb dX6_asked_87 (by decide) ?_
          refine lv_aload_n hx hb dX6_asked_89 rfl (lv_at hl 1 rfl) ?_
          refine va_get (D := G.1) (ci := 8) (v := .int hd) (C := RX6) (T := TX6) (N := 27) hx hb hts iX6 hown hK.1 hP 0 rfl rfl 2 (by decide) (hts (.fieldLink RX6 96 "RightsStepsModel" "hand" "I") (by decide +kernel)) (fun _ h9 => h9) rfl dX6_asked_90 ?_
          refine lv_imul hx hb dX6_asked_93 ?_
          refine lv_iload_n hx hb dX6_asked_94 rfl (lv_at hl 2 rfl) ?_
          refine lv_iadd hx hb dX6_asked_95 ?_
          refine va_lald (f := lo) hx hb hK.1 hP 9 1 rfl rfl (in_84 hh hn) dX6_asked_96 ?_
          refine W.lcmp hx hb dX6_asked_97 ?_
          refine lv_if_ge (tgt := 104) hx hb dX6_asked_98 (by decide) (fun c_98 => ?_) (fun c_98 => ?_)
          · have hF := if_t hF c_98
            refine W.loop (σ := Int32) (fun (n : Nat) (v : Int32) (H : Heap) (locs : List Loc) (ls : Array Slot) => (vp_in v (typ.toNatClampNeg + 1)) ∧ typ.toNatClampNeg < v.toNatClampNeg + n ∧ (F_X6_asked cod mt hd mmd typ rd giv us tp gv se ro opv aw sd ot lo p1 = FL_X6_asked_104 cod mt hd mmd typ rd giv us tp gv se ro opv aw sd ot lo p1 n v) ∧ va_P G.1 vwCl [(m0, .inr (8, [.int cod, .long mt, .int hd, .int mmd, .ref bkd, .ref btr, .ref bdl, .int typ, .int v, .ref btp, .int giv, .ref bgv, .ref bse, .ref bro, .ref bop, .ref baw, .ref bsd, .ref bot, .ref bct, .ref bcr, .ref bud, .ref blo, .ref bwl, .int us, .ref bub, .ref bul, .ref bua])), (btp, .inl (G.2 0, 2000, .inl tp)), (bgv, .inl (G.2 0, 2000, .inl gv)), (bse, .inl (G.2 0, 4, .inl se)), (bro, .inl (G.2 1, 4, .inr (.inl ro))), (bop, .inl (G.2 0, 4, .inl opv)), (baw, .inl (G.2 0, 4, .inl aw)), (bsd, .inl (G.2 0, 4, .inl sd)), (bot, .inl (G.2 0, 4, .inl ot)), (blo, .inl (G.2 1, 84, .inr (.inl lo)))] H ∧ va_D A [(m0, .inr (8, [.int cod, .long mt, .int hd, .int mmd, .ref bkd, .ref btr, .ref bdl, .int typ, .int v, .ref btp, .int giv, .ref bgv, .ref bse, .ref bro, .ref bop, .ref baw, .ref bsd, .ref bot, .ref bct, .ref bcr, .ref bud, .ref blo, .ref bwl, .int us, .ref bub, .ref bul, .ref bua])), (btp, .inl (G.2 0, 2000, .inl tp)), (bgv, .inl (G.2 0, 2000, .inl gv)), (bse, .inl (G.2 0, 4, .inl se)), (bro, .inl (G.2 1, 4, .inr (.inl ro))), (bop, .inl (G.2 0, 4, .inl opv)), (baw, .inl (G.2 0, 4, .inl aw)), (bsd, .inl (G.2 0, 4, .inl sd)), (bot, .inl (G.2 0, 4, .inl ot)), (blo, .inl (G.2 1, 84, .inr (.inl lo)))] ∧ va_S A s.heap H locs ∧ lv_has ls 4 [(0, .ref m0), (1, .int p1)]) ?_ ?_ 2001 rd ⟨(hrd), (by have := hi_lt ht; show typ.toNatClampNeg < rd.toNatClampNeg + 2001; omega), hF, hP, hD, hS, lv_sub hl [1, 2] rfl⟩
            · rintro rdx H locs ls ⟨hi0, hi1, _, _, _, _, _⟩
              have hi0 : (vp_in rdx (typ.toNatClampNeg + 1)) := hi0
              have hi1 : typ.toNatClampNeg < rdx.toNatClampNeg + 0 := hi1
              exact absurd (hi_lt hi0) (by omega)
            · rintro n ih rdx H locs ls ⟨hi0, hi1, hF, hP, hD, hS, hl⟩
              have hi0 : (vp_in rdx (typ.toNatClampNeg + 1)) := hi0
              have hi1 : typ.toNatClampNeg < rdx.toNatClampNeg + (n + 1) := hi1
              have hP : va_P G.1 vwCl [(m0, .inr (8, [.int cod, .long mt, .int hd, .int mmd, .ref bkd, .ref btr, .ref bdl, .int typ, .int rdx, .ref btp, .int giv, .ref bgv, .ref bse, .ref bro, .ref bop, .ref baw, .ref bsd, .ref bot, .ref bct, .ref bcr, .ref bud, .ref blo, .ref bwl, .int us, .ref bub, .ref bul, .ref bua])), (btp, .inl (G.2 0, 2000, .inl tp)), (bgv, .inl (G.2 0, 2000, .inl gv)), (bse, .inl (G.2 0, 4, .inl se)), (bro, .inl (G.2 1, 4, .inr (.inl ro))), (bop, .inl (G.2 0, 4, .inl opv)), (baw, .inl (G.2 0, 4, .inl aw)), (bsd, .inl (G.2 0, 4, .inl sd)), (bot, .inl (G.2 0, 4, .inl ot)), (blo, .inl (G.2 1, 84, .inr (.inl lo)))] H := hP
              have hD : va_D A [(m0, .inr (8, [.int cod, .long mt, .int hd, .int mmd, .ref bkd, .ref btr, .ref bdl, .int typ, .int rdx, .ref btp, .int giv, .ref bgv, .ref bse, .ref bro, .ref bop, .ref baw, .ref bsd, .ref bot, .ref bct, .ref bcr, .ref bud, .ref blo, .ref bwl, .int us, .ref bub, .ref bul, .ref bua])), (btp, .inl (G.2 0, 2000, .inl tp)), (bgv, .inl (G.2 0, 2000, .inl gv)), (bse, .inl (G.2 0, 4, .inl se)), (bro, .inl (G.2 1, 4, .inr (.inl ro))), (bop, .inl (G.2 0, 4, .inl opv)), (baw, .inl (G.2 0, 4, .inl aw)), (bsd, .inl (G.2 0, 4, .inl sd)), (bot, .inl (G.2 0, 4, .inl ot)), (blo, .inl (G.2 1, 84, .inr (.inl lo)))] := hD
              have hl : lv_has ls 4 [(0, .ref m0), (1, .int p1)] := hl
              have hF : F_X6_asked cod mt hd mmd typ rd giv us tp gv se ro opv aw sd ot lo p1 = FL_X6_asked_104 cod mt hd mmd typ rd giv us tp gv se ro opv aw sd ot lo p1 (n + 1) rdx := hF
              refine lv_aload_n hx hb dX6_asked_104 rfl (lv_at hl 0 rfl) ?_
              refine va_get (D := G.1) (ci := 8) (v := .int rdx) (C := RX6) (T := TX6) (N := 27) hx hb hts iX6 hown hK.1 hP 0 rfl rfl 8 (by decide) (hts (.fieldLink RX6 87 "RightsStepsModel" "read" "I") (by decide +kernel)) (fun _ h9 => h9) rfl dX6_asked_105 ?_
              refine lv_aload_n hx hb dX6_asked_108 rfl (lv_at hl 0 rfl) ?_
              refine va_get (D := G.1) (ci := 8) (v := .int typ) (C := RX6) (T := TX6) (N := 27) hx hb hts iX6 hown hK.1 hP 0 rfl rfl 7 (by decide) (hts (.fieldLink RX6 84 "RightsStepsModel" "typed" "I") (by decide +kernel)) (fun _ h9 => h9) rfl dX6_asked_109 ?_
              refine lv_icmp_ge (tgt := 159) hx hb dX6_asked_112 (by decide) (fun c_112 => ?_) (fun c_112 => ?_)
              · have hF := if_t hF c_112
                refine lv_aload_n hx hb dX6_asked_159 rfl (lv_at hl 0 rfl) ?_
                refine va_get (D := G.1) (ci := 8) (v := .int rdx) (C := RX6) (T := TX6) (N := 27) hx hb hts iX6 hown hK.1 hP 0 rfl rfl 8 (by decide) (hts (.fieldLink RX6 87 "RightsStepsModel" "read" "I") (by decide +kernel)) (fun _ h9 => h9) rfl dX6_asked_160 ?_
                refine lv_aload_n hx hb dX6_asked_163 rfl (lv_at hl 0 rfl) ?_
                refine va_get (D := G.1) (ci := 8) (v := .int typ) (C := RX6) (T := TX6) (N := 27) hx hb hts iX6 hown hK.1 hP 0 rfl rfl 7 (by decide) (hts (.fieldLink RX6 84 "RightsStepsModel" "typed" "I") (by decide +kernel)) (fun _ h9 => h9) rfl dX6_asked_164 ?_
                refine lv_icmp_ne (tgt := 173) hx hb dX6_asked_167 (by decide) (fun c_167 => ?_) (fun c_167 => ?_)
                · have hF := if_f hF c_167
                  refine lv_aload_n hx hb dX6_asked_173 rfl (lv_at hl 0 rfl) ?_
                  refine va_get (D := G.1) (ci := 8) (v := .ref btp) (C := RX6) (T := TX6) (N := 27) hx hb hts iX6 hown hK.1 hP 0 rfl rfl 9 (by decide) (hts (.fieldLink RX6 20 "RightsStepsModel" "tape" "[I") (by decide +kernel)) (fun _ h9 => h9) rfl dX6_asked_174 ?_
                  refine lv_aload_n hx hb dX6_asked_177 rfl (lv_at hl 0 rfl) ?_
                  refine va_get (D := G.1) (ci := 8) (v := .int rdx) (C := RX6) (T := TX6) (N := 27) hx hb hts iX6 hown hK.1 hP 0 rfl rfl 8 (by decide) (hts (.fieldLink RX6 87 "RightsStepsModel" "read" "I") (by decide +kernel)) (fun _ h9 => h9) rfl dX6_asked_178 ?_
                  refine va_iald (f := tp) hx hb hK.1 hP 1 0 rfl rfl ((rd_abs (by decide) ht hi0 c_112 c_167).elim) dX6_asked_181 ?_
                  refine lv_istore_n (lv' := [(3, .int (tp (rdx : Int32).toNatClampNeg)), (0, .ref m0), (1, .int p1)]) hx hb dX6_asked_182 rfl hl (by decide) rfl (fun ls hl => ?_)
                  refine lv_aload_n hx hb dX6_asked_183 rfl (lv_at hl 1 rfl) ?_
                  refine lv_dup hx hb dX6_asked_184 rfl ?_
                  refine va_get (D := G.1) (ci := 8) (v := .int rdx) (C := RX6) (T := TX6) (N := 27) hx hb hts iX6 hown hK.1 hP 0 rfl rfl 8 (by decide) (hts (.fieldLink RX6 87 "RightsStepsModel" "read" "I") (by decide +kernel)) (fun _ h9 => h9) rfl dX6_asked_185 ?_
                  refine lv_iconst (v := 1) hx hb dX6_asked_188 (by decide) ?_
                  refine lv_iadd hx hb dX6_asked_189 ?_
                  refine va_put (D := G.1) (ci := 8) (v := .int (rdx + 1)) (ty := .int) (C := RX6) (T := TX6) (N := 27) hx hb hts iX6 tyX6 tyX6_ok nmX6 hown hK.1 hP hD hS 0 rfl rfl 8 (by decide) (hts (.fieldLink RX6 87 "RightsStepsModel" "read" "I") (by decide +kernel)) (fun _ h9 => h9) rfl (by decide +kernel) rfl rfl (Nat.le_of_ble_eq_true rfl) dX6_asked_190 (fun H locs hP hD hS => ?_)
                  have hP : va_P G.1 vwCl [(m0, .inr (8, [.int cod, .long mt, .int hd, .int mmd, .ref bkd, .ref btr, .ref bdl, .int typ, .int (rdx + 1), .ref btp, .int giv, .ref bgv, .ref bse, .ref bro, .ref bop, .ref baw, .ref bsd, .ref bot, .ref bct, .ref bcr, .ref bud, .ref blo, .ref bwl, .int us, .ref bub, .ref bul, .ref bua])), (btp, .inl (G.2 0, 2000, .inl tp)), (bgv, .inl (G.2 0, 2000, .inl gv)), (bse, .inl (G.2 0, 4, .inl se)), (bro, .inl (G.2 1, 4, .inr (.inl ro))), (bop, .inl (G.2 0, 4, .inl opv)), (baw, .inl (G.2 0, 4, .inl aw)), (bsd, .inl (G.2 0, 4, .inl sd)), (bot, .inl (G.2 0, 4, .inl ot)), (blo, .inl (G.2 1, 84, .inr (.inl lo)))] H := hP
                  have hD : va_D A [(m0, .inr (8, [.int cod, .long mt, .int hd, .int mmd, .ref bkd, .ref btr, .ref bdl, .int typ, .int (rdx + 1), .ref btp, .int giv, .ref bgv, .ref bse, .ref bro, .ref bop, .ref baw, .ref bsd, .ref bot, .ref bct, .ref bcr, .ref bud, .ref blo, .ref bwl, .int us, .ref bub, .ref bul, .ref bua])), (btp, .inl (G.2 0, 2000, .inl tp)), (bgv, .inl (G.2 0, 2000, .inl gv)), (bse, .inl (G.2 0, 4, .inl se)), (bro, .inl (G.2 1, 4, .inr (.inl ro))), (bop, .inl (G.2 0, 4, .inl opv)), (baw, .inl (G.2 0, 4, .inl aw)), (bsd, .inl (G.2 0, 4, .inl sd)), (bot, .inl (G.2 0, 4, .inl ot)), (blo, .inl (G.2 1, 84, .inr (.inl lo)))] := hD
                  refine lv_aload_n hx hb dX6_asked_193 rfl (lv_at hl 1 rfl) ?_
                  refine va_get (D := G.1) (ci := 8) (v := .ref bgv) (C := RX6) (T := TX6) (N := 27) hx hb hts iX6 hown hK.1 hP 0 rfl rfl 11 (by decide) (hts (.fieldLink RX6 23 "RightsStepsModel" "given" "[I") (by decide +kernel)) (fun _ h9 => h9) rfl dX6_asked_194 ?_
                  refine lv_aload_n hx hb dX6_asked_197 rfl (lv_at hl 1 rfl) ?_
                  refine va_get (D := G.1) (ci := 8) (v := .int giv) (C := RX6) (T := TX6) (N := 27) hx hb hts iX6 hown hK.1 hP 0 rfl rfl 10 (by decide) (hts (.fieldLink RX6 90 "RightsStepsModel" "givens" "I") (by decide +kernel)) (fun _ h9 => h9) rfl dX6_asked_198 ?_
                  refine lv_iload_n hx hb dX6_asked_201 rfl (lv_at hl 0 rfl) ?_
                  refine va_iast (f := gv) hx hb hK.1 hP hD hS 2 0 rfl rfl hg dX6_asked_202 (fun H locs hP hD hS => ?_)
                  have hP : va_P G.1 vwCl [(m0, .inr (8, [.int cod, .long mt, .int hd, .int mmd, .ref bkd, .ref btr, .ref bdl, .int typ, .int (rdx + 1), .ref btp, .int giv, .ref bgv, .ref bse, .ref bro, .ref bop, .ref baw, .ref bsd, .ref bot, .ref bct, .ref bcr, .ref bud, .ref blo, .ref bwl, .int us, .ref bub, .ref bul, .ref bua])), (btp, .inl (G.2 0, 2000, .inl tp)), (bgv, .inl (G.2 0, 2000, .inl (upd gv (giv : Int32).toNatClampNeg (tp (rdx : Int32).toNatClampNeg)))), (bse, .inl (G.2 0, 4, .inl se)), (bro, .inl (G.2 1, 4, .inr (.inl ro))), (bop, .inl (G.2 0, 4, .inl opv)), (baw, .inl (G.2 0, 4, .inl aw)), (bsd, .inl (G.2 0, 4, .inl sd)), (bot, .inl (G.2 0, 4, .inl ot)), (blo, .inl (G.2 1, 84, .inr (.inl lo)))] H := hP
                  have hD : va_D A [(m0, .inr (8, [.int cod, .long mt, .int hd, .int mmd, .ref bkd, .ref btr, .ref bdl, .int typ, .int (rdx + 1), .ref btp, .int giv, .ref bgv, .ref bse, .ref bro, .ref bop, .ref baw, .ref bsd, .ref bot, .ref bct, .ref bcr, .ref bud, .ref blo, .ref bwl, .int us, .ref bub, .ref bul, .ref bua])), (btp, .inl (G.2 0, 2000, .inl tp)), (bgv, .inl (G.2 0, 2000, .inl (upd gv (giv : Int32).toNatClampNeg (tp (rdx : Int32).toNatClampNeg)))), (bse, .inl (G.2 0, 4, .inl se)), (bro, .inl (G.2 1, 4, .inr (.inl ro))), (bop, .inl (G.2 0, 4, .inl opv)), (baw, .inl (G.2 0, 4, .inl aw)), (bsd, .inl (G.2 0, 4, .inl sd)), (bot, .inl (G.2 0, 4, .inl ot)), (blo, .inl (G.2 1, 84, .inr (.inl lo)))] := hD
                  refine lv_aload_n hx hb dX6_asked_203 rfl (lv_at hl 1 rfl) ?_
                  refine lv_dup hx hb dX6_asked_204 rfl ?_
                  refine va_get (D := G.1) (ci := 8) (v := .int giv) (C := RX6) (T := TX6) (N := 27) hx hb hts iX6 hown hK.1 hP 0 rfl rfl 10 (by decide) (hts (.fieldLink RX6 90 "RightsStepsModel" "givens" "I") (by decide +kernel)) (fun _ h9 => h9) rfl dX6_asked_205 ?_
                  refine lv_iconst (v := 1) hx hb dX6_asked_208 (by decide) ?_
                  refine lv_iadd hx hb dX6_asked_209 ?_
                  refine va_put (D := G.1) (ci := 8) (v := .int (giv + 1)) (ty := .int) (C := RX6) (T := TX6) (N := 27) hx hb hts iX6 tyX6 tyX6_ok nmX6 hown hK.1 hP hD hS 0 rfl rfl 10 (by decide) (hts (.fieldLink RX6 90 "RightsStepsModel" "givens" "I") (by decide +kernel)) (fun _ h9 => h9) rfl (by decide +kernel) rfl rfl (Nat.le_of_ble_eq_true rfl) dX6_asked_210 (fun H locs hP hD hS => ?_)
                  have hP : va_P G.1 vwCl [(m0, .inr (8, [.int cod, .long mt, .int hd, .int mmd, .ref bkd, .ref btr, .ref bdl, .int typ, .int (rdx + 1), .ref btp, .int (giv + 1), .ref bgv, .ref bse, .ref bro, .ref bop, .ref baw, .ref bsd, .ref bot, .ref bct, .ref bcr, .ref bud, .ref blo, .ref bwl, .int us, .ref bub, .ref bul, .ref bua])), (btp, .inl (G.2 0, 2000, .inl tp)), (bgv, .inl (G.2 0, 2000, .inl (upd gv (giv : Int32).toNatClampNeg (tp (rdx : Int32).toNatClampNeg)))), (bse, .inl (G.2 0, 4, .inl se)), (bro, .inl (G.2 1, 4, .inr (.inl ro))), (bop, .inl (G.2 0, 4, .inl opv)), (baw, .inl (G.2 0, 4, .inl aw)), (bsd, .inl (G.2 0, 4, .inl sd)), (bot, .inl (G.2 0, 4, .inl ot)), (blo, .inl (G.2 1, 84, .inr (.inl lo)))] H := hP
                  have hD : va_D A [(m0, .inr (8, [.int cod, .long mt, .int hd, .int mmd, .ref bkd, .ref btr, .ref bdl, .int typ, .int (rdx + 1), .ref btp, .int (giv + 1), .ref bgv, .ref bse, .ref bro, .ref bop, .ref baw, .ref bsd, .ref bot, .ref bct, .ref bcr, .ref bud, .ref blo, .ref bwl, .int us, .ref bub, .ref bul, .ref bua])), (btp, .inl (G.2 0, 2000, .inl tp)), (bgv, .inl (G.2 0, 2000, .inl (upd gv (giv : Int32).toNatClampNeg (tp (rdx : Int32).toNatClampNeg)))), (bse, .inl (G.2 0, 4, .inl se)), (bro, .inl (G.2 1, 4, .inr (.inl ro))), (bop, .inl (G.2 0, 4, .inl opv)), (baw, .inl (G.2 0, 4, .inl aw)), (bsd, .inl (G.2 0, 4, .inl sd)), (bot, .inl (G.2 0, 4, .inl ot)), (blo, .inl (G.2 1, 84, .inr (.inl lo)))] := hD
                  refine lv_aload_n hx hb dX6_asked_213 rfl (lv_at hl 1 rfl) ?_
                  refine va_get (D := G.1) (ci := 8) (v := .ref bot) (C := RX6) (T := TX6) (N := 27) hx hb hts iX6 hown hK.1 hP 0 rfl rfl 17 (by decide) (hts (.fieldLink RX6 43 "RightsStepsModel" "out" "[I") (by decide +kernel)) (fun _ h9 => h9) rfl dX6_asked_214 ?_
                  refine lv_aload_n hx hb dX6_asked_217 rfl (lv_at hl 1 rfl) ?_
                  refine va_get (D := G.1) (ci := 8) (v := .int hd) (C := RX6) (T := TX6) (N := 27) hx hb hts iX6 hown hK.1 hP 0 rfl rfl 2 (by decide) (hts (.fieldLink RX6 96 "RightsStepsModel" "hand" "I") (by decide +kernel)) (fun _ h9 => h9) rfl dX6_asked_218 ?_
                  refine lv_iload_n hx hb dX6_asked_221 rfl (lv_at hl 0 rfl) ?_
                  refine va_iast (f := ot) hx hb hK.1 hP hD hS 8 0 rfl rfl hh dX6_asked_222 (fun H locs hP hD hS => ?_)
                  have hP : va_P G.1 vwCl [(m0, .inr (8, [.int cod, .long mt, .int hd, .int mmd, .ref bkd, .ref btr, .ref bdl, .int typ, .int (rdx + 1), .ref btp, .int (giv + 1), .ref bgv, .ref bse, .ref bro, .ref bop, .ref baw, .ref bsd, .ref bot, .ref bct, .ref bcr, .ref bud, .ref blo, .ref bwl, .int us, .ref bub, .ref bul, .ref bua])), (btp, .inl (G.2 0, 2000, .inl tp)), (bgv, .inl (G.2 0, 2000, .inl (upd gv (giv : Int32).toNatClampNeg (tp (rdx : Int32).toNatClampNeg)))), (bse, .inl (G.2 0, 4, .inl se)), (bro, .inl (G.2 1, 4, .inr (.inl ro))), (bop, .inl (G.2 0, 4, .inl opv)), (baw, .inl (G.2 0, 4, .inl aw)), (bsd, .inl (G.2 0, 4, .inl sd)), (bot, .inl (G.2 0, 4, .inl (upd ot (hd : Int32).toNatClampNeg (tp (rdx : Int32).toNatClampNeg)))), (blo, .inl (G.2 1, 84, .inr (.inl lo)))] H := hP
                  have hD : va_D A [(m0, .inr (8, [.int cod, .long mt, .int hd, .int mmd, .ref bkd, .ref btr, .ref bdl, .int typ, .int (rdx + 1), .ref btp, .int (giv + 1), .ref bgv, .ref bse, .ref bro, .ref bop, .ref baw, .ref bsd, .ref bot, .ref bct, .ref bcr, .ref bud, .ref blo, .ref bwl, .int us, .ref bub, .ref bul, .ref bua])), (btp, .inl (G.2 0, 2000, .inl tp)), (bgv, .inl (G.2 0, 2000, .inl (upd gv (giv : Int32).toNatClampNeg (tp (rdx : Int32).toNatClampNeg)))), (bse, .inl (G.2 0, 4, .inl se)), (bro, .inl (G.2 1, 4, .inr (.inl ro))), (bop, .inl (G.2 0, 4, .inl opv)), (baw, .inl (G.2 0, 4, .inl aw)), (bsd, .inl (G.2 0, 4, .inl sd)), (bot, .inl (G.2 0, 4, .inl (upd ot (hd : Int32).toNatClampNeg (tp (rdx : Int32).toNatClampNeg)))), (blo, .inl (G.2 1, 84, .inr (.inl lo)))] := hD
                  refine lv_aload_n hx hb dX6_asked_223 rfl (lv_at hl 1 rfl) ?_
                  refine va_get (D := G.1) (ci := 8) (v := .ref baw) (C := RX6) (T := TX6) (N := 27) hx hb hts iX6 hown hK.1 hP 0 rfl rfl 15 (by decide) (hts (.fieldLink RX6 37 "RightsStepsModel" "awaited" "[I") (by decide +kernel)) (fun _ h9 => h9) rfl dX6_asked_224 ?_
                  refine lv_aload_n hx hb dX6_asked_227 rfl (lv_at hl 1 rfl) ?_
                  refine va_get (D := G.1) (ci := 8) (v := .int hd) (C := RX6) (T := TX6) (N := 27) hx hb hts iX6 hown hK.1 hP 0 rfl rfl 2 (by decide) (hts (.fieldLink RX6 96 "RightsStepsModel" "hand" "I") (by decide +kernel)) (fun _ h9 => h9) rfl dX6_asked_228 ?_
                  refine lv_iload_n hx hb dX6_asked_231 rfl (lv_at hl 2 rfl) ?_
                  refine va_iast (f := aw) hx hb hK.1 hP hD hS 6 0 rfl rfl hh dX6_asked_232 (fun H locs hP hD hS => ?_)
                  have hP : va_P G.1 vwCl [(m0, .inr (8, [.int cod, .long mt, .int hd, .int mmd, .ref bkd, .ref btr, .ref bdl, .int typ, .int (rdx + 1), .ref btp, .int (giv + 1), .ref bgv, .ref bse, .ref bro, .ref bop, .ref baw, .ref bsd, .ref bot, .ref bct, .ref bcr, .ref bud, .ref blo, .ref bwl, .int us, .ref bub, .ref bul, .ref bua])), (btp, .inl (G.2 0, 2000, .inl tp)), (bgv, .inl (G.2 0, 2000, .inl (upd gv (giv : Int32).toNatClampNeg (tp (rdx : Int32).toNatClampNeg)))), (bse, .inl (G.2 0, 4, .inl se)), (bro, .inl (G.2 1, 4, .inr (.inl ro))), (bop, .inl (G.2 0, 4, .inl opv)), (baw, .inl (G.2 0, 4, .inl (upd aw (hd : Int32).toNatClampNeg p1))), (bsd, .inl (G.2 0, 4, .inl sd)), (bot, .inl (G.2 0, 4, .inl (upd ot (hd : Int32).toNatClampNeg (tp (rdx : Int32).toNatClampNeg)))), (blo, .inl (G.2 1, 84, .inr (.inl lo)))] H := hP
                  have hD : va_D A [(m0, .inr (8, [.int cod, .long mt, .int hd, .int mmd, .ref bkd, .ref btr, .ref bdl, .int typ, .int (rdx + 1), .ref btp, .int (giv + 1), .ref bgv, .ref bse, .ref bro, .ref bop, .ref baw, .ref bsd, .ref bot, .ref bct, .ref bcr, .ref bud, .ref blo, .ref bwl, .int us, .ref bub, .ref bul, .ref bua])), (btp, .inl (G.2 0, 2000, .inl tp)), (bgv, .inl (G.2 0, 2000, .inl (upd gv (giv : Int32).toNatClampNeg (tp (rdx : Int32).toNatClampNeg)))), (bse, .inl (G.2 0, 4, .inl se)), (bro, .inl (G.2 1, 4, .inr (.inl ro))), (bop, .inl (G.2 0, 4, .inl opv)), (baw, .inl (G.2 0, 4, .inl (upd aw (hd : Int32).toNatClampNeg p1))), (bsd, .inl (G.2 0, 4, .inl sd)), (bot, .inl (G.2 0, 4, .inl (upd ot (hd : Int32).toNatClampNeg (tp (rdx : Int32).toNatClampNeg)))), (blo, .inl (G.2 1, 84, .inr (.inl lo)))] := hD
                  refine lv_aload_n hx hb dX6_asked_233 rfl (lv_at hl 1 rfl) ?_
                  refine va_get (D := G.1) (ci := 8) (v := .ref bsd) (C := RX6) (T := TX6) (N := 27) hx hb hts iX6 hown hK.1 hP 0 rfl rfl 16 (by decide) (hts (.fieldLink RX6 40 "RightsStepsModel" "awaitedSeed" "[I") (by decide +kernel)) (fun _ h9 => h9) rfl dX6_asked_234 ?_
                  refine lv_aload_n hx hb dX6_asked_237 rfl (lv_at hl 1 rfl) ?_
                  refine va_get (D := G.1) (ci := 8) (v := .int hd) (C := RX6) (T := TX6) (N := 27) hx hb hts iX6 hown hK.1 hP 0 rfl rfl 2 (by decide) (hts (.fieldLink RX6 96 "RightsStepsModel" "hand" "I") (by decide +kernel)) (fun _ h9 => h9) rfl dX6_asked_238 ?_
                  refine lv_iload_n hx hb dX6_asked_241 rfl (lv_at hl 0 rfl) ?_
                  refine va_iast (f := sd) hx hb hK.1 hP hD hS 7 0 rfl rfl hh dX6_asked_242 (fun H locs hP hD hS => ?_)
                  have hP : va_P G.1 vwCl [(m0, .inr (8, [.int cod, .long mt, .int hd, .int mmd, .ref bkd, .ref btr, .ref bdl, .int typ, .int (rdx + 1), .ref btp, .int (giv + 1), .ref bgv, .ref bse, .ref bro, .ref bop, .ref baw, .ref bsd, .ref bot, .ref bct, .ref bcr, .ref bud, .ref blo, .ref bwl, .int us, .ref bub, .ref bul, .ref bua])), (btp, .inl (G.2 0, 2000, .inl tp)), (bgv, .inl (G.2 0, 2000, .inl (upd gv (giv : Int32).toNatClampNeg (tp (rdx : Int32).toNatClampNeg)))), (bse, .inl (G.2 0, 4, .inl se)), (bro, .inl (G.2 1, 4, .inr (.inl ro))), (bop, .inl (G.2 0, 4, .inl opv)), (baw, .inl (G.2 0, 4, .inl (upd aw (hd : Int32).toNatClampNeg p1))), (bsd, .inl (G.2 0, 4, .inl (upd sd (hd : Int32).toNatClampNeg (tp (rdx : Int32).toNatClampNeg)))), (bot, .inl (G.2 0, 4, .inl (upd ot (hd : Int32).toNatClampNeg (tp (rdx : Int32).toNatClampNeg)))), (blo, .inl (G.2 1, 84, .inr (.inl lo)))] H := hP
                  have hD : va_D A [(m0, .inr (8, [.int cod, .long mt, .int hd, .int mmd, .ref bkd, .ref btr, .ref bdl, .int typ, .int (rdx + 1), .ref btp, .int (giv + 1), .ref bgv, .ref bse, .ref bro, .ref bop, .ref baw, .ref bsd, .ref bot, .ref bct, .ref bcr, .ref bud, .ref blo, .ref bwl, .int us, .ref bub, .ref bul, .ref bua])), (btp, .inl (G.2 0, 2000, .inl tp)), (bgv, .inl (G.2 0, 2000, .inl (upd gv (giv : Int32).toNatClampNeg (tp (rdx : Int32).toNatClampNeg)))), (bse, .inl (G.2 0, 4, .inl se)), (bro, .inl (G.2 1, 4, .inr (.inl ro))), (bop, .inl (G.2 0, 4, .inl opv)), (baw, .inl (G.2 0, 4, .inl (upd aw (hd : Int32).toNatClampNeg p1))), (bsd, .inl (G.2 0, 4, .inl (upd sd (hd : Int32).toNatClampNeg (tp (rdx : Int32).toNatClampNeg)))), (bot, .inl (G.2 0, 4, .inl (upd ot (hd : Int32).toNatClampNeg (tp (rdx : Int32).toNatClampNeg)))), (blo, .inl (G.2 1, 84, .inr (.inl lo)))] := hD
                  refine lv_iconst (v := 4) hx hb dX6_asked_243 (by decide) ?_
                  exact W.iret (v := 4) hx hb hr (fun t ht hW => ⟨⟨4, ((rdx + 1), (giv + 1), (upd gv (giv : Int32).toNatClampNeg (tp (rdx : Int32).toNatClampNeg)), (upd aw (hd : Int32).toNatClampNeg p1), (upd sd (hd : Int32).toNatClampNeg (tp (rdx : Int32).toNatClampNeg)), (upd ot (hd : Int32).toNatClampNeg (tp (rdx : Int32).toNatClampNeg))), rfl, hF.symm, by rw [ht]; exact hP.sub [0, 1, 2, 3, 4, 5, 6, 7, 8, 9] rfl, hD.sub [0, 1, 2, 3, 4, 5, 6, 7, 8, 9] (by decide) rfl⟩, hS.F ht⟩) hS.2.2 dX6_asked_244
                · have hF := if_t hF c_167
                  refine lv_bipush (v := (-34)) hx hb dX6_asked_170 (by decide) ?_
                  exact W.iret (v := (-34)) hx hb hr (fun t ht hW => ⟨⟨(-34), (rdx, giv, gv, aw, sd, ot), rfl, hF.symm, by rw [ht]; exact hP.sub [0, 1, 2, 3, 4, 5, 6, 7, 8, 9] rfl, hD.sub [0, 1, 2, 3, 4, 5, 6, 7, 8, 9] (by decide) rfl⟩, hS.F ht⟩) hS.2.2 dX6_asked_172
              · have hF := if_f hF c_112
                refine lv_aload_n hx hb dX6_asked_115 rfl (lv_at hl 0 rfl) ?_
                refine va_get (D := G.1) (ci := 8) (v := .ref btp) (C := RX6) (T := TX6) (N := 27) hx hb hts iX6 hown hK.1 hP 0 rfl rfl 9 (by decide) (hts (.fieldLink RX6 20 "RightsStepsModel" "tape" "[I") (by decide +kernel)) (fun _ h9 => h9) rfl dX6_asked_116 ?_
                refine lv_aload_n hx hb dX6_asked_119 rfl (lv_at hl 0 rfl) ?_
                refine va_get (D := G.1) (ci := 8) (v := .int rdx) (C := RX6) (T := TX6) (N := 27) hx hb hts iX6 hown hK.1 hP 0 rfl rfl 8 (by decide) (hts (.fieldLink RX6 87 "RightsStepsModel" "read" "I") (by decide +kernel)) (fun _ h9 => h9) rfl dX6_asked_120 ?_
                refine va_iald (f := tp) hx hb hK.1 hP 1 0 rfl rfl (in_tr hi0 ht c_112) dX6_asked_123 ?_
                refine pu_call (va_runS (As := [.int (tp (rdx : Int32).toNatClampNeg)]) (rest := []) ⟨hx, hb, hml, hown, hts⟩ (c_X6_isPlain l G _ (tp (rdx : Int32).toNatClampNeg)) (va_cwS 1 hts gX6_asked_X6_isPlain rfl rfl rfl (by decide +kernel) ⟨Nat.le_of_ble_eq_true rfl, Nat.le_of_ble_eq_true rfl⟩) (pR_S hK (va_P.nil) (va_D.nil)) rfl rfl hl.1 rfl (lv_room (Nat.le_of_ble_eq_true rfl)) dX6_asked_124 ⟨Nat.le_of_ble_eq_true rfl, Nat.le_of_ble_eq_true rfl⟩) ?_
                refine lv_if_ne (tgt := 146) hx hb dX6_asked_127 (by decide) (fun c_127 => ?_) (fun c_127 => ?_)
                · have hF := if_f hF c_127
                  refine lv_aload_n hx hb dX6_asked_146 rfl (lv_at hl 0 rfl) ?_
                  refine lv_dup hx hb dX6_asked_147 rfl ?_
                  refine va_get (D := G.1) (ci := 8) (v := .int rdx) (C := RX6) (T := TX6) (N := 27) hx hb hts iX6 hown hK.1 hP 0 rfl rfl 8 (by decide) (hts (.fieldLink RX6 87 "RightsStepsModel" "read" "I") (by decide +kernel)) (fun _ h9 => h9) rfl dX6_asked_148 ?_
                  refine lv_iconst (v := 1) hx hb dX6_asked_151 (by decide) ?_
                  refine lv_iadd hx hb dX6_asked_152 ?_
                  refine va_put (D := G.1) (ci := 8) (v := .int (rdx + 1)) (ty := .int) (C := RX6) (T := TX6) (N := 27) hx hb hts iX6 tyX6 tyX6_ok nmX6 hown hK.1 hP hD hS 0 rfl rfl 8 (by decide) (hts (.fieldLink RX6 87 "RightsStepsModel" "read" "I") (by decide +kernel)) (fun _ h9 => h9) rfl (by decide +kernel) rfl rfl (Nat.le_of_ble_eq_true rfl) dX6_asked_153 (fun H locs hP hD hS => ?_)
                  have hP : va_P G.1 vwCl [(m0, .inr (8, [.int cod, .long mt, .int hd, .int mmd, .ref bkd, .ref btr, .ref bdl, .int typ, .int (rdx + 1), .ref btp, .int giv, .ref bgv, .ref bse, .ref bro, .ref bop, .ref baw, .ref bsd, .ref bot, .ref bct, .ref bcr, .ref bud, .ref blo, .ref bwl, .int us, .ref bub, .ref bul, .ref bua])), (btp, .inl (G.2 0, 2000, .inl tp)), (bgv, .inl (G.2 0, 2000, .inl gv)), (bse, .inl (G.2 0, 4, .inl se)), (bro, .inl (G.2 1, 4, .inr (.inl ro))), (bop, .inl (G.2 0, 4, .inl opv)), (baw, .inl (G.2 0, 4, .inl aw)), (bsd, .inl (G.2 0, 4, .inl sd)), (bot, .inl (G.2 0, 4, .inl ot)), (blo, .inl (G.2 1, 84, .inr (.inl lo)))] H := hP
                  have hD : va_D A [(m0, .inr (8, [.int cod, .long mt, .int hd, .int mmd, .ref bkd, .ref btr, .ref bdl, .int typ, .int (rdx + 1), .ref btp, .int giv, .ref bgv, .ref bse, .ref bro, .ref bop, .ref baw, .ref bsd, .ref bot, .ref bct, .ref bcr, .ref bud, .ref blo, .ref bwl, .int us, .ref bub, .ref bul, .ref bua])), (btp, .inl (G.2 0, 2000, .inl tp)), (bgv, .inl (G.2 0, 2000, .inl gv)), (bse, .inl (G.2 0, 4, .inl se)), (bro, .inl (G.2 1, 4, .inr (.inl ro))), (bop, .inl (G.2 0, 4, .inl opv)), (baw, .inl (G.2 0, 4, .inl aw)), (bsd, .inl (G.2 0, 4, .inl sd)), (bot, .inl (G.2 0, 4, .inl ot)), (blo, .inl (G.2 1, 84, .inr (.inl lo)))] := hD
                  refine lv_goto (tgt := 104) hx hb dX6_asked_156 (by decide) ?_
                  exact ih (rdx + 1) _ _ _ ⟨(rd_inc (by decide) ht hi0 c_112), (by rw [i_incN (in_tr hi0 ht c_112) (by decide)]; omega), hF, hP.sub [0, 1, 2, 3, 4, 5, 6, 7, 8, 9] rfl, hD.sub [0, 1, 2, 3, 4, 5, 6, 7, 8, 9] (by decide) rfl, hS, lv_sub hl [0, 1] rfl⟩
                · have hF := if_t hF c_127
                  refine lv_aload_n hx hb dX6_asked_130 rfl (lv_at hl 0 rfl) ?_
                  refine lv_aload_n hx hb dX6_asked_131 rfl (lv_at hl 0 rfl) ?_
                  refine va_get (D := G.1) (ci := 8) (v := .ref btp) (C := RX6) (T := TX6) (N := 27) hx hb hts iX6 hown hK.1 hP 0 rfl rfl 9 (by decide) (hts (.fieldLink RX6 20 "RightsStepsModel" "tape" "[I") (by decide +kernel)) (fun _ h9 => h9) rfl dX6_asked_132 ?_
                  refine lv_aload_n hx hb dX6_asked_135 rfl (lv_at hl 0 rfl) ?_
                  refine va_get (D := G.1) (ci := 8) (v := .int rdx) (C := RX6) (T := TX6) (N := 27) hx hb hts iX6 hown hK.1 hP 0 rfl rfl 8 (by decide) (hts (.fieldLink RX6 87 "RightsStepsModel" "read" "I") (by decide +kernel)) (fun _ h9 => h9) rfl dX6_asked_136 ?_
                  refine va_iald (f := tp) hx hb hK.1 hP 1 0 rfl rfl (in_tr hi0 ht c_112) dX6_asked_139 ?_
                  have hPc := hP.sub (ws' := [(m0, .inr (8, [.int cod, .long mt, .int hd, .int mmd, .ref bkd, .ref btr, .ref bdl, .int typ, .int rdx, .ref btp, .int giv, .ref bgv, .ref bse, .ref bro, .ref bop, .ref baw, .ref bsd, .ref bot, .ref bct, .ref bcr, .ref bud, .ref blo, .ref bwl, .int us, .ref bub, .ref bul, .ref bua])), (bgv, .inl (G.2 0, 2000, .inl gv))]) [0, 2] rfl
                  have hDc := hD.sub (ws' := [(m0, .inr (8, [.int cod, .long mt, .int hd, .int mmd, .ref bkd, .ref btr, .ref bdl, .int typ, .int rdx, .ref btp, .int giv, .ref bgv, .ref bse, .ref bro, .ref bop, .ref baw, .ref bsd, .ref bot, .ref bct, .ref bcr, .ref bud, .ref blo, .ref bwl, .int us, .ref bub, .ref bul, .ref bua])), (bgv, .inl (G.2 0, 2000, .inl gv))]) [0, 2] (by decide) rfl
                  refine pu_call (va_runV (As := [.int (tp (rdx : Int32).toNatClampNeg)]) (rest := []) ⟨hx, hb, hml, hown, hts⟩ (c_X6_wasGiven l G m0 bgv bkd btr bdl btp bse bro bop baw bsd bot bct bcr bud blo bwl bub bul bua _ cod mt hd mmd typ rdx giv us gv (tp (rdx : Int32).toNatClampNeg) hg) (cwV 1 hts gX6_asked_X6_wasGiven rfl rfl rfl (by decide +kernel) ⟨Nat.le_of_ble_eq_true rfl, Nat.le_of_ble_eq_true rfl⟩) (pR_V hK hPc hDc (q0 := 0) rfl rfl) rfl rfl hl.1 rfl (lv_room (Nat.le_of_ble_eq_true rfl)) dX6_asked_140 ⟨Nat.le_of_ble_eq_true rfl, Nat.le_of_ble_eq_true rfl⟩) ?_
                  refine lv_if_eq (tgt := 159) hx hb dX6_asked_143 (by decide) (fun c_143 => ?_) (fun c_143 => ?_)
                  · have hF := if_t hF c_143
                    refine lv_aload_n hx hb dX6_asked_159 rfl (lv_at hl 0 rfl) ?_
                    refine va_get (D := G.1) (ci := 8) (v := .int rdx) (C := RX6) (T := TX6) (N := 27) hx hb hts iX6 hown hK.1 hP 0 rfl rfl 8 (by decide) (hts (.fieldLink RX6 87 "RightsStepsModel" "read" "I") (by decide +kernel)) (fun _ h9 => h9) rfl dX6_asked_160 ?_
                    refine lv_aload_n hx hb dX6_asked_163 rfl (lv_at hl 0 rfl) ?_
                    refine va_get (D := G.1) (ci := 8) (v := .int typ) (C := RX6) (T := TX6) (N := 27) hx hb hts iX6 hown hK.1 hP 0 rfl rfl 7 (by decide) (hts (.fieldLink RX6 84 "RightsStepsModel" "typed" "I") (by decide +kernel)) (fun _ h9 => h9) rfl dX6_asked_164 ?_
                    refine lv_icmp_ne (tgt := 173) hx hb dX6_asked_167 (by decide) (fun c_167 => ?_) (fun c_167 => ?_)
                    · have hF := if_f hF c_167
                      refine lv_aload_n hx hb dX6_asked_173 rfl (lv_at hl 0 rfl) ?_
                      refine va_get (D := G.1) (ci := 8) (v := .ref btp) (C := RX6) (T := TX6) (N := 27) hx hb hts iX6 hown hK.1 hP 0 rfl rfl 9 (by decide) (hts (.fieldLink RX6 20 "RightsStepsModel" "tape" "[I") (by decide +kernel)) (fun _ h9 => h9) rfl dX6_asked_174 ?_
                      refine lv_aload_n hx hb dX6_asked_177 rfl (lv_at hl 0 rfl) ?_
                      refine va_get (D := G.1) (ci := 8) (v := .int rdx) (C := RX6) (T := TX6) (N := 27) hx hb hts iX6 hown hK.1 hP 0 rfl rfl 8 (by decide) (hts (.fieldLink RX6 87 "RightsStepsModel" "read" "I") (by decide +kernel)) (fun _ h9 => h9) rfl dX6_asked_178 ?_
                      refine va_iald (f := tp) hx hb hK.1 hP 1 0 rfl rfl (in_tr hi0 ht c_112) dX6_asked_181 ?_
                      refine lv_istore_n (lv' := [(3, .int (tp (rdx : Int32).toNatClampNeg)), (0, .ref m0), (1, .int p1)]) hx hb dX6_asked_182 rfl hl (by decide) rfl (fun ls hl => ?_)
                      refine lv_aload_n hx hb dX6_asked_183 rfl (lv_at hl 1 rfl) ?_
                      refine lv_dup hx hb dX6_asked_184 rfl ?_
                      refine va_get (D := G.1) (ci := 8) (v := .int rdx) (C := RX6) (T := TX6) (N := 27) hx hb hts iX6 hown hK.1 hP 0 rfl rfl 8 (by decide) (hts (.fieldLink RX6 87 "RightsStepsModel" "read" "I") (by decide +kernel)) (fun _ h9 => h9) rfl dX6_asked_185 ?_
                      refine lv_iconst (v := 1) hx hb dX6_asked_188 (by decide) ?_
                      refine lv_iadd hx hb dX6_asked_189 ?_
                      refine va_put (D := G.1) (ci := 8) (v := .int (rdx + 1)) (ty := .int) (C := RX6) (T := TX6) (N := 27) hx hb hts iX6 tyX6 tyX6_ok nmX6 hown hK.1 hP hD hS 0 rfl rfl 8 (by decide) (hts (.fieldLink RX6 87 "RightsStepsModel" "read" "I") (by decide +kernel)) (fun _ h9 => h9) rfl (by decide +kernel) rfl rfl (Nat.le_of_ble_eq_true rfl) dX6_asked_190 (fun H locs hP hD hS => ?_)
                      have hP : va_P G.1 vwCl [(m0, .inr (8, [.int cod, .long mt, .int hd, .int mmd, .ref bkd, .ref btr, .ref bdl, .int typ, .int (rdx + 1), .ref btp, .int giv, .ref bgv, .ref bse, .ref bro, .ref bop, .ref baw, .ref bsd, .ref bot, .ref bct, .ref bcr, .ref bud, .ref blo, .ref bwl, .int us, .ref bub, .ref bul, .ref bua])), (btp, .inl (G.2 0, 2000, .inl tp)), (bgv, .inl (G.2 0, 2000, .inl gv)), (bse, .inl (G.2 0, 4, .inl se)), (bro, .inl (G.2 1, 4, .inr (.inl ro))), (bop, .inl (G.2 0, 4, .inl opv)), (baw, .inl (G.2 0, 4, .inl aw)), (bsd, .inl (G.2 0, 4, .inl sd)), (bot, .inl (G.2 0, 4, .inl ot)), (blo, .inl (G.2 1, 84, .inr (.inl lo)))] H := hP
                      have hD : va_D A [(m0, .inr (8, [.int cod, .long mt, .int hd, .int mmd, .ref bkd, .ref btr, .ref bdl, .int typ, .int (rdx + 1), .ref btp, .int giv, .ref bgv, .ref bse, .ref bro, .ref bop, .ref baw, .ref bsd, .ref bot, .ref bct, .ref bcr, .ref bud, .ref blo, .ref bwl, .int us, .ref bub, .ref bul, .ref bua])), (btp, .inl (G.2 0, 2000, .inl tp)), (bgv, .inl (G.2 0, 2000, .inl gv)), (bse, .inl (G.2 0, 4, .inl se)), (bro, .inl (G.2 1, 4, .inr (.inl ro))), (bop, .inl (G.2 0, 4, .inl opv)), (baw, .inl (G.2 0, 4, .inl aw)), (bsd, .inl (G.2 0, 4, .inl sd)), (bot, .inl (G.2 0, 4, .inl ot)), (blo, .inl (G.2 1, 84, .inr (.inl lo)))] := hD
                      refine lv_aload_n hx hb dX6_asked_193 rfl (lv_at hl 1 rfl) ?_
                      refine va_get (D := G.1) (ci := 8) (v := .ref bgv) (C := RX6) (T := TX6) (N := 27) hx hb hts iX6 hown hK.1 hP 0 rfl rfl 11 (by decide) (hts (.fieldLink RX6 23 "RightsStepsModel" "given" "[I") (by decide +kernel)) (fun _ h9 => h9) rfl dX6_asked_194 ?_
                      refine lv_aload_n hx hb dX6_asked_197 rfl (lv_at hl 1 rfl) ?_
                      refine va_get (D := G.1) (ci := 8) (v := .int giv) (C := RX6) (T := TX6) (N := 27) hx hb hts iX6 hown hK.1 hP 0 rfl rfl 10 (by decide) (hts (.fieldLink RX6 90 "RightsStepsModel" "givens" "I") (by decide +kernel)) (fun _ h9 => h9) rfl dX6_asked_198 ?_
                      refine lv_iload_n hx hb dX6_asked_201 rfl (lv_at hl 0 rfl) ?_
                      refine va_iast (f := gv) hx hb hK.1 hP hD hS 2 0 rfl rfl hg dX6_asked_202 (fun H locs hP hD hS => ?_)
                      have hP : va_P G.1 vwCl [(m0, .inr (8, [.int cod, .long mt, .int hd, .int mmd, .ref bkd, .ref btr, .ref bdl, .int typ, .int (rdx + 1), .ref btp, .int giv, .ref bgv, .ref bse, .ref bro, .ref bop, .ref baw, .ref bsd, .ref bot, .ref bct, .ref bcr, .ref bud, .ref blo, .ref bwl, .int us, .ref bub, .ref bul, .ref bua])), (btp, .inl (G.2 0, 2000, .inl tp)), (bgv, .inl (G.2 0, 2000, .inl (upd gv (giv : Int32).toNatClampNeg (tp (rdx : Int32).toNatClampNeg)))), (bse, .inl (G.2 0, 4, .inl se)), (bro, .inl (G.2 1, 4, .inr (.inl ro))), (bop, .inl (G.2 0, 4, .inl opv)), (baw, .inl (G.2 0, 4, .inl aw)), (bsd, .inl (G.2 0, 4, .inl sd)), (bot, .inl (G.2 0, 4, .inl ot)), (blo, .inl (G.2 1, 84, .inr (.inl lo)))] H := hP
                      have hD : va_D A [(m0, .inr (8, [.int cod, .long mt, .int hd, .int mmd, .ref bkd, .ref btr, .ref bdl, .int typ, .int (rdx + 1), .ref btp, .int giv, .ref bgv, .ref bse, .ref bro, .ref bop, .ref baw, .ref bsd, .ref bot, .ref bct, .ref bcr, .ref bud, .ref blo, .ref bwl, .int us, .ref bub, .ref bul, .ref bua])), (btp, .inl (G.2 0, 2000, .inl tp)), (bgv, .inl (G.2 0, 2000, .inl (upd gv (giv : Int32).toNatClampNeg (tp (rdx : Int32).toNatClampNeg)))), (bse, .inl (G.2 0, 4, .inl se)), (bro, .inl (G.2 1, 4, .inr (.inl ro))), (bop, .inl (G.2 0, 4, .inl opv)), (baw, .inl (G.2 0, 4, .inl aw)), (bsd, .inl (G.2 0, 4, .inl sd)), (bot, .inl (G.2 0, 4, .inl ot)), (blo, .inl (G.2 1, 84, .inr (.inl lo)))] := hD
                      refine lv_aload_n hx hb dX6_asked_203 rfl (lv_at hl 1 rfl) ?_
                      refine lv_dup hx hb dX6_asked_204 rfl ?_
                      refine va_get (D := G.1) (ci := 8) (v := .int giv) (C := RX6) (T := TX6) (N := 27) hx hb hts iX6 hown hK.1 hP 0 rfl rfl 10 (by decide) (hts (.fieldLink RX6 90 "RightsStepsModel" "givens" "I") (by decide +kernel)) (fun _ h9 => h9) rfl dX6_asked_205 ?_
                      refine lv_iconst (v := 1) hx hb dX6_asked_208 (by decide) ?_
                      refine lv_iadd hx hb dX6_asked_209 ?_
                      refine va_put (D := G.1) (ci := 8) (v := .int (giv + 1)) (ty := .int) (C := RX6) (T := TX6) (N := 27) hx hb hts iX6 tyX6 tyX6_ok nmX6 hown hK.1 hP hD hS 0 rfl rfl 10 (by decide) (hts (.fieldLink RX6 90 "RightsStepsModel" "givens" "I") (by decide +kernel)) (fun _ h9 => h9) rfl (by decide +kernel) rfl rfl (Nat.le_of_ble_eq_true rfl) dX6_asked_210 (fun H locs hP hD hS => ?_)
                      have hP : va_P G.1 vwCl [(m0, .inr (8, [.int cod, .long mt, .int hd, .int mmd, .ref bkd, .ref btr, .ref bdl, .int typ, .int (rdx + 1), .ref btp, .int (giv + 1), .ref bgv, .ref bse, .ref bro, .ref bop, .ref baw, .ref bsd, .ref bot, .ref bct, .ref bcr, .ref bud, .ref blo, .ref bwl, .int us, .ref bub, .ref bul, .ref bua])), (btp, .inl (G.2 0, 2000, .inl tp)), (bgv, .inl (G.2 0, 2000, .inl (upd gv (giv : Int32).toNatClampNeg (tp (rdx : Int32).toNatClampNeg)))), (bse, .inl (G.2 0, 4, .inl se)), (bro, .inl (G.2 1, 4, .inr (.inl ro))), (bop, .inl (G.2 0, 4, .inl opv)), (baw, .inl (G.2 0, 4, .inl aw)), (bsd, .inl (G.2 0, 4, .inl sd)), (bot, .inl (G.2 0, 4, .inl ot)), (blo, .inl (G.2 1, 84, .inr (.inl lo)))] H := hP
                      have hD : va_D A [(m0, .inr (8, [.int cod, .long mt, .int hd, .int mmd, .ref bkd, .ref btr, .ref bdl, .int typ, .int (rdx + 1), .ref btp, .int (giv + 1), .ref bgv, .ref bse, .ref bro, .ref bop, .ref baw, .ref bsd, .ref bot, .ref bct, .ref bcr, .ref bud, .ref blo, .ref bwl, .int us, .ref bub, .ref bul, .ref bua])), (btp, .inl (G.2 0, 2000, .inl tp)), (bgv, .inl (G.2 0, 2000, .inl (upd gv (giv : Int32).toNatClampNeg (tp (rdx : Int32).toNatClampNeg)))), (bse, .inl (G.2 0, 4, .inl se)), (bro, .inl (G.2 1, 4, .inr (.inl ro))), (bop, .inl (G.2 0, 4, .inl opv)), (baw, .inl (G.2 0, 4, .inl aw)), (bsd, .inl (G.2 0, 4, .inl sd)), (bot, .inl (G.2 0, 4, .inl ot)), (blo, .inl (G.2 1, 84, .inr (.inl lo)))] := hD
                      refine lv_aload_n hx hb dX6_asked_213 rfl (lv_at hl 1 rfl) ?_
                      refine va_get (D := G.1) (ci := 8) (v := .ref bot) (C := RX6) (T := TX6) (N := 27) hx hb hts iX6 hown hK.1 hP 0 rfl rfl 17 (by decide) (hts (.fieldLink RX6 43 "RightsStepsModel" "out" "[I") (by decide +kernel)) (fun _ h9 => h9) rfl dX6_asked_214 ?_
                      refine lv_aload_n hx hb dX6_asked_217 rfl (lv_at hl 1 rfl) ?_
                      refine va_get (D := G.1) (ci := 8) (v := .int hd) (C := RX6) (T := TX6) (N := 27) hx hb hts iX6 hown hK.1 hP 0 rfl rfl 2 (by decide) (hts (.fieldLink RX6 96 "RightsStepsModel" "hand" "I") (by decide +kernel)) (fun _ h9 => h9) rfl dX6_asked_218 ?_
                      refine lv_iload_n hx hb dX6_asked_221 rfl (lv_at hl 0 rfl) ?_
                      refine va_iast (f := ot) hx hb hK.1 hP hD hS 8 0 rfl rfl hh dX6_asked_222 (fun H locs hP hD hS => ?_)
                      have hP : va_P G.1 vwCl [(m0, .inr (8, [.int cod, .long mt, .int hd, .int mmd, .ref bkd, .ref btr, .ref bdl, .int typ, .int (rdx + 1), .ref btp, .int (giv + 1), .ref bgv, .ref bse, .ref bro, .ref bop, .ref baw, .ref bsd, .ref bot, .ref bct, .ref bcr, .ref bud, .ref blo, .ref bwl, .int us, .ref bub, .ref bul, .ref bua])), (btp, .inl (G.2 0, 2000, .inl tp)), (bgv, .inl (G.2 0, 2000, .inl (upd gv (giv : Int32).toNatClampNeg (tp (rdx : Int32).toNatClampNeg)))), (bse, .inl (G.2 0, 4, .inl se)), (bro, .inl (G.2 1, 4, .inr (.inl ro))), (bop, .inl (G.2 0, 4, .inl opv)), (baw, .inl (G.2 0, 4, .inl aw)), (bsd, .inl (G.2 0, 4, .inl sd)), (bot, .inl (G.2 0, 4, .inl (upd ot (hd : Int32).toNatClampNeg (tp (rdx : Int32).toNatClampNeg)))), (blo, .inl (G.2 1, 84, .inr (.inl lo)))] H := hP
                      have hD : va_D A [(m0, .inr (8, [.int cod, .long mt, .int hd, .int mmd, .ref bkd, .ref btr, .ref bdl, .int typ, .int (rdx + 1), .ref btp, .int (giv + 1), .ref bgv, .ref bse, .ref bro, .ref bop, .ref baw, .ref bsd, .ref bot, .ref bct, .ref bcr, .ref bud, .ref blo, .ref bwl, .int us, .ref bub, .ref bul, .ref bua])), (btp, .inl (G.2 0, 2000, .inl tp)), (bgv, .inl (G.2 0, 2000, .inl (upd gv (giv : Int32).toNatClampNeg (tp (rdx : Int32).toNatClampNeg)))), (bse, .inl (G.2 0, 4, .inl se)), (bro, .inl (G.2 1, 4, .inr (.inl ro))), (bop, .inl (G.2 0, 4, .inl opv)), (baw, .inl (G.2 0, 4, .inl aw)), (bsd, .inl (G.2 0, 4, .inl sd)), (bot, .inl (G.2 0, 4, .inl (upd ot (hd : Int32).toNatClampNeg (tp (rdx : Int32).toNatClampNeg)))), (blo, .inl (G.2 1, 84, .inr (.inl lo)))] := hD
                      refine lv_aload_n hx hb dX6_asked_223 rfl (lv_at hl 1 rfl) ?_
                      refine va_get (D := G.1) (ci := 8) (v := .ref baw) (C := RX6) (T := TX6) (N := 27) hx hb hts iX6 hown hK.1 hP 0 rfl rfl 15 (by decide) (hts (.fieldLink RX6 37 "RightsStepsModel" "awaited" "[I") (by decide +kernel)) (fun _ h9 => h9) rfl dX6_asked_224 ?_
                      refine lv_aload_n hx hb dX6_asked_227 rfl (lv_at hl 1 rfl) ?_
                      refine va_get (D := G.1) (ci := 8) (v := .int hd) (C := RX6) (T := TX6) (N := 27) hx hb hts iX6 hown hK.1 hP 0 rfl rfl 2 (by decide) (hts (.fieldLink RX6 96 "RightsStepsModel" "hand" "I") (by decide +kernel)) (fun _ h9 => h9) rfl dX6_asked_228 ?_
                      refine lv_iload_n hx hb dX6_asked_231 rfl (lv_at hl 2 rfl) ?_
                      refine va_iast (f := aw) hx hb hK.1 hP hD hS 6 0 rfl rfl hh dX6_asked_232 (fun H locs hP hD hS => ?_)
                      have hP : va_P G.1 vwCl [(m0, .inr (8, [.int cod, .long mt, .int hd, .int mmd, .ref bkd, .ref btr, .ref bdl, .int typ, .int (rdx + 1), .ref btp, .int (giv + 1), .ref bgv, .ref bse, .ref bro, .ref bop, .ref baw, .ref bsd, .ref bot, .ref bct, .ref bcr, .ref bud, .ref blo, .ref bwl, .int us, .ref bub, .ref bul, .ref bua])), (btp, .inl (G.2 0, 2000, .inl tp)), (bgv, .inl (G.2 0, 2000, .inl (upd gv (giv : Int32).toNatClampNeg (tp (rdx : Int32).toNatClampNeg)))), (bse, .inl (G.2 0, 4, .inl se)), (bro, .inl (G.2 1, 4, .inr (.inl ro))), (bop, .inl (G.2 0, 4, .inl opv)), (baw, .inl (G.2 0, 4, .inl (upd aw (hd : Int32).toNatClampNeg p1))), (bsd, .inl (G.2 0, 4, .inl sd)), (bot, .inl (G.2 0, 4, .inl (upd ot (hd : Int32).toNatClampNeg (tp (rdx : Int32).toNatClampNeg)))), (blo, .inl (G.2 1, 84, .inr (.inl lo)))] H := hP
                      have hD : va_D A [(m0, .inr (8, [.int cod, .long mt, .int hd, .int mmd, .ref bkd, .ref btr, .ref bdl, .int typ, .int (rdx + 1), .ref btp, .int (giv + 1), .ref bgv, .ref bse, .ref bro, .ref bop, .ref baw, .ref bsd, .ref bot, .ref bct, .ref bcr, .ref bud, .ref blo, .ref bwl, .int us, .ref bub, .ref bul, .ref bua])), (btp, .inl (G.2 0, 2000, .inl tp)), (bgv, .inl (G.2 0, 2000, .inl (upd gv (giv : Int32).toNatClampNeg (tp (rdx : Int32).toNatClampNeg)))), (bse, .inl (G.2 0, 4, .inl se)), (bro, .inl (G.2 1, 4, .inr (.inl ro))), (bop, .inl (G.2 0, 4, .inl opv)), (baw, .inl (G.2 0, 4, .inl (upd aw (hd : Int32).toNatClampNeg p1))), (bsd, .inl (G.2 0, 4, .inl sd)), (bot, .inl (G.2 0, 4, .inl (upd ot (hd : Int32).toNatClampNeg (tp (rdx : Int32).toNatClampNeg)))), (blo, .inl (G.2 1, 84, .inr (.inl lo)))] := hD
                      refine lv_aload_n hx hb dX6_asked_233 rfl (lv_at hl 1 rfl) ?_
                      refine va_get (D := G.1) (ci := 8) (v := .ref bsd) (C := RX6) (T := TX6) (N := 27) hx hb hts iX6 hown hK.1 hP 0 rfl rfl 16 (by decide) (hts (.fieldLink RX6 40 "RightsStepsModel" "awaitedSeed" "[I") (by decide +kernel)) (fun _ h9 => h9) rfl dX6_asked_234 ?_
                      refine lv_aload_n hx hb dX6_asked_237 rfl (lv_at hl 1 rfl) ?_
                      refine va_get (D := G.1) (ci := 8) (v := .int hd) (C := RX6) (T := TX6) (N := 27) hx hb hts iX6 hown hK.1 hP 0 rfl rfl 2 (by decide) (hts (.fieldLink RX6 96 "RightsStepsModel" "hand" "I") (by decide +kernel)) (fun _ h9 => h9) rfl dX6_asked_238 ?_
                      refine lv_iload_n hx hb dX6_asked_241 rfl (lv_at hl 0 rfl) ?_
                      refine va_iast (f := sd) hx hb hK.1 hP hD hS 7 0 rfl rfl hh dX6_asked_242 (fun H locs hP hD hS => ?_)
                      have hP : va_P G.1 vwCl [(m0, .inr (8, [.int cod, .long mt, .int hd, .int mmd, .ref bkd, .ref btr, .ref bdl, .int typ, .int (rdx + 1), .ref btp, .int (giv + 1), .ref bgv, .ref bse, .ref bro, .ref bop, .ref baw, .ref bsd, .ref bot, .ref bct, .ref bcr, .ref bud, .ref blo, .ref bwl, .int us, .ref bub, .ref bul, .ref bua])), (btp, .inl (G.2 0, 2000, .inl tp)), (bgv, .inl (G.2 0, 2000, .inl (upd gv (giv : Int32).toNatClampNeg (tp (rdx : Int32).toNatClampNeg)))), (bse, .inl (G.2 0, 4, .inl se)), (bro, .inl (G.2 1, 4, .inr (.inl ro))), (bop, .inl (G.2 0, 4, .inl opv)), (baw, .inl (G.2 0, 4, .inl (upd aw (hd : Int32).toNatClampNeg p1))), (bsd, .inl (G.2 0, 4, .inl (upd sd (hd : Int32).toNatClampNeg (tp (rdx : Int32).toNatClampNeg)))), (bot, .inl (G.2 0, 4, .inl (upd ot (hd : Int32).toNatClampNeg (tp (rdx : Int32).toNatClampNeg)))), (blo, .inl (G.2 1, 84, .inr (.inl lo)))] H := hP
                      have hD : va_D A [(m0, .inr (8, [.int cod, .long mt, .int hd, .int mmd, .ref bkd, .ref btr, .ref bdl, .int typ, .int (rdx + 1), .ref btp, .int (giv + 1), .ref bgv, .ref bse, .ref bro, .ref bop, .ref baw, .ref bsd, .ref bot, .ref bct, .ref bcr, .ref bud, .ref blo, .ref bwl, .int us, .ref bub, .ref bul, .ref bua])), (btp, .inl (G.2 0, 2000, .inl tp)), (bgv, .inl (G.2 0, 2000, .inl (upd gv (giv : Int32).toNatClampNeg (tp (rdx : Int32).toNatClampNeg)))), (bse, .inl (G.2 0, 4, .inl se)), (bro, .inl (G.2 1, 4, .inr (.inl ro))), (bop, .inl (G.2 0, 4, .inl opv)), (baw, .inl (G.2 0, 4, .inl (upd aw (hd : Int32).toNatClampNeg p1))), (bsd, .inl (G.2 0, 4, .inl (upd sd (hd : Int32).toNatClampNeg (tp (rdx : Int32).toNatClampNeg)))), (bot, .inl (G.2 0, 4, .inl (upd ot (hd : Int32).toNatClampNeg (tp (rdx : Int32).toNatClampNeg)))), (blo, .inl (G.2 1, 84, .inr (.inl lo)))] := hD
                      refine lv_iconst (v := 4) hx hb dX6_asked_243 (by decide) ?_
                      exact W.iret (v := 4) hx hb hr (fun t ht hW => ⟨⟨4, ((rdx + 1), (giv + 1), (upd gv (giv : Int32).toNatClampNeg (tp (rdx : Int32).toNatClampNeg)), (upd aw (hd : Int32).toNatClampNeg p1), (upd sd (hd : Int32).toNatClampNeg (tp (rdx : Int32).toNatClampNeg)), (upd ot (hd : Int32).toNatClampNeg (tp (rdx : Int32).toNatClampNeg))), rfl, hF.symm, by rw [ht]; exact hP.sub [0, 1, 2, 3, 4, 5, 6, 7, 8, 9] rfl, hD.sub [0, 1, 2, 3, 4, 5, 6, 7, 8, 9] (by decide) rfl⟩, hS.F ht⟩) hS.2.2 dX6_asked_244
                    · have hF := if_t hF c_167
                      refine lv_bipush (v := (-34)) hx hb dX6_asked_170 (by decide) ?_
                      exact W.iret (v := (-34)) hx hb hr (fun t ht hW => ⟨⟨(-34), (rdx, giv, gv, aw, sd, ot), rfl, hF.symm, by rw [ht]; exact hP.sub [0, 1, 2, 3, 4, 5, 6, 7, 8, 9] rfl, hD.sub [0, 1, 2, 3, 4, 5, 6, 7, 8, 9] (by decide) rfl⟩, hS.F ht⟩) hS.2.2 dX6_asked_172
                  · have hF := if_f hF c_143
                    refine lv_aload_n hx hb dX6_asked_146 rfl (lv_at hl 0 rfl) ?_
                    refine lv_dup hx hb dX6_asked_147 rfl ?_
                    refine va_get (D := G.1) (ci := 8) (v := .int rdx) (C := RX6) (T := TX6) (N := 27) hx hb hts iX6 hown hK.1 hP 0 rfl rfl 8 (by decide) (hts (.fieldLink RX6 87 "RightsStepsModel" "read" "I") (by decide +kernel)) (fun _ h9 => h9) rfl dX6_asked_148 ?_
                    refine lv_iconst (v := 1) hx hb dX6_asked_151 (by decide) ?_
                    refine lv_iadd hx hb dX6_asked_152 ?_
                    refine va_put (D := G.1) (ci := 8) (v := .int (rdx + 1)) (ty := .int) (C := RX6) (T := TX6) (N := 27) hx hb hts iX6 tyX6 tyX6_ok nmX6 hown hK.1 hP hD hS 0 rfl rfl 8 (by decide) (hts (.fieldLink RX6 87 "RightsStepsModel" "read" "I") (by decide +kernel)) (fun _ h9 => h9) rfl (by decide +kernel) rfl rfl (Nat.le_of_ble_eq_true rfl) dX6_asked_153 (fun H locs hP hD hS => ?_)
                    have hP : va_P G.1 vwCl [(m0, .inr (8, [.int cod, .long mt, .int hd, .int mmd, .ref bkd, .ref btr, .ref bdl, .int typ, .int (rdx + 1), .ref btp, .int giv, .ref bgv, .ref bse, .ref bro, .ref bop, .ref baw, .ref bsd, .ref bot, .ref bct, .ref bcr, .ref bud, .ref blo, .ref bwl, .int us, .ref bub, .ref bul, .ref bua])), (btp, .inl (G.2 0, 2000, .inl tp)), (bgv, .inl (G.2 0, 2000, .inl gv)), (bse, .inl (G.2 0, 4, .inl se)), (bro, .inl (G.2 1, 4, .inr (.inl ro))), (bop, .inl (G.2 0, 4, .inl opv)), (baw, .inl (G.2 0, 4, .inl aw)), (bsd, .inl (G.2 0, 4, .inl sd)), (bot, .inl (G.2 0, 4, .inl ot)), (blo, .inl (G.2 1, 84, .inr (.inl lo)))] H := hP
                    have hD : va_D A [(m0, .inr (8, [.int cod, .long mt, .int hd, .int mmd, .ref bkd, .ref btr, .ref bdl, .int typ, .int (rdx + 1), .ref btp, .int giv, .ref bgv, .ref bse, .ref bro, .ref bop, .ref baw, .ref bsd, .ref bot, .ref bct, .ref bcr, .ref bud, .ref blo, .ref bwl, .int us, .ref bub, .ref bul, .ref bua])), (btp, .inl (G.2 0, 2000, .inl tp)), (bgv, .inl (G.2 0, 2000, .inl gv)), (bse, .inl (G.2 0, 4, .inl se)), (bro, .inl (G.2 1, 4, .inr (.inl ro))), (bop, .inl (G.2 0, 4, .inl opv)), (baw, .inl (G.2 0, 4, .inl aw)), (bsd, .inl (G.2 0, 4, .inl sd)), (bot, .inl (G.2 0, 4, .inl ot)), (blo, .inl (G.2 1, 84, .inr (.inl lo)))] := hD
                    refine lv_goto (tgt := 104) hx hb dX6_asked_156 (by decide) ?_
                    exact ih (rdx + 1) _ _ _ ⟨(rd_inc (by decide) ht hi0 c_112), (by rw [i_incN (in_tr hi0 ht c_112) (by decide)]; omega), hF, hP.sub [0, 1, 2, 3, 4, 5, 6, 7, 8, 9] rfl, hD.sub [0, 1, 2, 3, 4, 5, 6, 7, 8, 9] (by decide) rfl, hS, lv_sub hl [0, 1] rfl⟩
          · have hF := if_f hF c_98
            refine lv_bipush (v := (-55)) hx hb dX6_asked_101 (by decide) ?_
            exact W.iret (v := (-55)) hx hb hr (fun t ht hW => ⟨⟨(-55), (rd, giv, gv, aw, sd, ot), rfl, hF.symm, by rw [ht]; exact hP.sub [0, 1, 2, 3, 4, 5, 6, 7, 8, 9] rfl, hD.sub [0, 1, 2, 3, 4, 5, 6, 7, 8, 9] (by decide) rfl⟩, hS.F ht⟩) hS.2.2 dX6_asked_103
        · have hF := if_t hF c_64
          refine lv_aload_n hx hb dX6_asked_67 rfl (lv_at hl 1 rfl) ?_
          refine va_get (D := G.1) (ci := 8) (v := .ref bot) (C := RX6) (T := TX6) (N := 27) hx hb hts iX6 hown hK.1 hP 0 rfl rfl 17 (by decide) (hts (.fieldLink RX6 43 "RightsStepsModel" "out" "[I") (by decide +kernel)) (fun _ h9 => h9) rfl dX6_asked_68 ?_
          refine lv_aload_n hx hb dX6_asked_71 rfl (lv_at hl 1 rfl) ?_
          refine va_get (D := G.1) (ci := 8) (v := .int hd) (C := RX6) (T := TX6) (N := 27) hx hb hts iX6 hown hK.1 hP 0 rfl rfl 2 (by decide) (hts (.fieldLink RX6 96 "RightsStepsModel" "hand" "I") (by decide +kernel)) (fun _ h9 => h9) rfl dX6_asked_72 ?_
          refine lv_iconst (v := 0) hx hb dX6_asked_75 (by decide) ?_
          refine va_iast (f := ot) hx hb hK.1 hP hD hS 8 0 rfl rfl hh dX6_asked_76 (fun H locs hP hD hS => ?_)
          have hP : va_P G.1 vwCl [(m0, .inr (8, [.int cod, .long mt, .int hd, .int mmd, .ref bkd, .ref btr, .ref bdl, .int typ, .int rd, .ref btp, .int giv, .ref bgv, .ref bse, .ref bro, .ref bop, .ref baw, .ref bsd, .ref bot, .ref bct, .ref bcr, .ref bud, .ref blo, .ref bwl, .int us, .ref bub, .ref bul, .ref bua])), (btp, .inl (G.2 0, 2000, .inl tp)), (bgv, .inl (G.2 0, 2000, .inl gv)), (bse, .inl (G.2 0, 4, .inl se)), (bro, .inl (G.2 1, 4, .inr (.inl ro))), (bop, .inl (G.2 0, 4, .inl opv)), (baw, .inl (G.2 0, 4, .inl aw)), (bsd, .inl (G.2 0, 4, .inl sd)), (bot, .inl (G.2 0, 4, .inl (upd ot (hd : Int32).toNatClampNeg 0))), (blo, .inl (G.2 1, 84, .inr (.inl lo)))] H := hP
          have hD : va_D A [(m0, .inr (8, [.int cod, .long mt, .int hd, .int mmd, .ref bkd, .ref btr, .ref bdl, .int typ, .int rd, .ref btp, .int giv, .ref bgv, .ref bse, .ref bro, .ref bop, .ref baw, .ref bsd, .ref bot, .ref bct, .ref bcr, .ref bud, .ref blo, .ref bwl, .int us, .ref bub, .ref bul, .ref bua])), (btp, .inl (G.2 0, 2000, .inl tp)), (bgv, .inl (G.2 0, 2000, .inl gv)), (bse, .inl (G.2 0, 4, .inl se)), (bro, .inl (G.2 1, 4, .inr (.inl ro))), (bop, .inl (G.2 0, 4, .inl opv)), (baw, .inl (G.2 0, 4, .inl aw)), (bsd, .inl (G.2 0, 4, .inl sd)), (bot, .inl (G.2 0, 4, .inl (upd ot (hd : Int32).toNatClampNeg 0))), (blo, .inl (G.2 1, 84, .inr (.inl lo)))] := hD
          refine lv_iconst (v := 4) hx hb dX6_asked_77 (by decide) ?_
          exact W.iret (v := 4) hx hb hr (fun t ht hW => ⟨⟨4, (rd, giv, gv, aw, sd, (upd ot (hd : Int32).toNatClampNeg 0)), rfl, hF.symm, by rw [ht]; exact hP.sub [0, 1, 2, 3, 4, 5, 6, 7, 8, 9] rfl, hD.sub [0, 1, 2, 3, 4, 5, 6, 7, 8, 9] (by decide) rfl⟩, hS.F ht⟩) hS.2.2 dX6_asked_78
      · have hF := if_f hF c_31
        refine lv_aload_n hx hb dX6_asked_34 rfl (lv_at hl 1 rfl) ?_
        refine va_get (D := G.1) (ci := 8) (v := .long mt) (C := RX6) (T := TX6) (N := 27) hx hb hts iX6 hown hK.1 hP 0 rfl rfl 1 (by decide) (hts (.fieldLink RX6 99 "RightsStepsModel" "time" "J") (by decide +kernel)) (fun _ h9 => h9) rfl dX6_asked_35 ?_
        refine lv_aload_n hx hb dX6_asked_38 rfl (lv_at hl 1 rfl) ?_
        refine va_get (D := G.1) (ci := 8) (v := .ref bro) (C := RX6) (T := TX6) (N := 27) hx hb hts iX6 hown hK.1 hP 0 rfl rfl 13 (by decide) (hts (.fieldLink RX6 31 "RightsStepsModel" "roleUntil" "[J") (by decide +kernel)) (fun _ h9 => h9) rfl dX6_asked_39 ?_
        refine lv_aload_n hx hb dX6_asked_42 rfl (lv_at hl 1 rfl) ?_
        refine va_get (D := G.1) (ci := 8) (v := .int hd) (C := RX6) (T := TX6) (N := 27) hx hb hts iX6 hown hK.1 hP 0 rfl rfl 2 (by decide) (hts (.fieldLink RX6 96 "RightsStepsModel" "hand" "I") (by decide +kernel)) (fun _ h9 => h9) rfl dX6_asked_43 ?_
        refine va_lald (f := ro) hx hb hK.1 hP 4 1 rfl rfl hh dX6_asked_46 ?_
        refine W.lcmp hx hb dX6_asked_47 ?_
        refine lv_if_lt (tgt := 54) hx hb dX6_asked_48 (by decide) (fun c_48 => ?_) (fun c_48 => ?_)
        · have hF := if_t hF c_48
          refine lv_aload_n hx hb dX6_asked_54 rfl (lv_at hl 1 rfl) ?_
          refine va_get (D := G.1) (ci := 8) (v := .ref bop) (C := RX6) (T := TX6) (N := 27) hx hb hts iX6 hown hK.1 hP 0 rfl rfl 14 (by decide) (hts (.fieldLink RX6 34 "RightsStepsModel" "open" "[I") (by decide +kernel)) (fun _ h9 => h9) rfl dX6_asked_55 ?_
          refine lv_aload_n hx hb dX6_asked_58 rfl (lv_at hl 1 rfl) ?_
          refine va_get (D := G.1) (ci := 8) (v := .int hd) (C := RX6) (T := TX6) (N := 27) hx hb hts iX6 hown hK.1 hP 0 rfl rfl 2 (by decide) (hts (.fieldLink RX6 96 "RightsStepsModel" "hand" "I") (by decide +kernel)) (fun _ h9 => h9) rfl dX6_asked_59 ?_
          refine va_iald (f := opv) hx hb hK.1 hP 5 0 rfl rfl hh dX6_asked_62 ?_
          refine lv_iload_n hx hb dX6_asked_63 rfl (lv_at hl 2 rfl) ?_
          refine lv_icmp_ne (tgt := 79) hx hb dX6_asked_64 (by decide) (fun c_64 => ?_) (fun c_64 => ?_)
          · have hF := if_f hF c_64
            refine lv_aload_n hx hb dX6_asked_79 rfl (lv_at hl 1 rfl) ?_
            refine va_get (D := G.1) (ci := 8) (v := .long mt) (C := RX6) (T := TX6) (N := 27) hx hb hts iX6 hown hK.1 hP 0 rfl rfl 1 (by decide) (hts (.fieldLink RX6 99 "RightsStepsModel" "time" "J") (by decide +kernel)) (fun _ h9 => h9) rfl dX6_asked_80 ?_
            refine lv_aload_n hx hb dX6_asked_83 rfl (lv_at hl 1 rfl) ?_
            refine va_get (D := G.1) (ci := 8) (v := .ref blo) (C := RX6) (T := TX6) (N := 27) hx hb hts iX6 hown hK.1 hP 0 rfl rfl 21 (by decide) (hts (.fieldLink RX6 55 "RightsStepsModel" "locked" "[J") (by decide +kernel)) (fun _ h9 => h9) rfl dX6_asked_84 ?_
            refine lv_bipush (v := 21) hx hb dX6_asked_87 (by decide) ?_
            refine lv_aload_n hx hb dX6_asked_89 rfl (lv_at hl 1 rfl) ?_
            refine va_get (D := G.1) (ci := 8) (v := .int hd) (C := RX6) (T := TX6) (N := 27) hx hb hts iX6 hown hK.1 hP 0 rfl rfl 2 (by decide) (hts (.fieldLink RX6 96 "RightsStepsModel" "hand" "I") (by decide +kernel)) (fun _ h9 => h9) rfl dX6_asked_90 ?_
            refine lv_imul hx hb dX6_asked_93 ?_
            refine lv_iload_n hx hb dX6_asked_94 rfl (lv_at hl 2 rfl) ?_
            refine lv_iadd hx hb dX6_asked_95 ?_
            refine va_lald (f := lo) hx hb hK.1 hP 9 1 rfl rfl (in_84 hh hn) dX6_asked_96 ?_
            refine W.lcmp hx hb dX6_asked_97 ?_
            refine lv_if_ge (tgt := 104) hx hb dX6_asked_98 (by decide) (fun c_98 => ?_) (fun c_98 => ?_)
            · have hF := if_t hF c_98
              refine W.loop (σ := Int32) (fun (n : Nat) (v : Int32) (H : Heap) (locs : List Loc) (ls : Array Slot) => (vp_in v (typ.toNatClampNeg + 1)) ∧ typ.toNatClampNeg < v.toNatClampNeg + n ∧ (F_X6_asked cod mt hd mmd typ rd giv us tp gv se ro opv aw sd ot lo p1 = FL_X6_asked_104 cod mt hd mmd typ rd giv us tp gv se ro opv aw sd ot lo p1 n v) ∧ va_P G.1 vwCl [(m0, .inr (8, [.int cod, .long mt, .int hd, .int mmd, .ref bkd, .ref btr, .ref bdl, .int typ, .int v, .ref btp, .int giv, .ref bgv, .ref bse, .ref bro, .ref bop, .ref baw, .ref bsd, .ref bot, .ref bct, .ref bcr, .ref bud, .ref blo, .ref bwl, .int us, .ref bub, .ref bul, .ref bua])), (btp, .inl (G.2 0, 2000, .inl tp)), (bgv, .inl (G.2 0, 2000, .inl gv)), (bse, .inl (G.2 0, 4, .inl se)), (bro, .inl (G.2 1, 4, .inr (.inl ro))), (bop, .inl (G.2 0, 4, .inl opv)), (baw, .inl (G.2 0, 4, .inl aw)), (bsd, .inl (G.2 0, 4, .inl sd)), (bot, .inl (G.2 0, 4, .inl ot)), (blo, .inl (G.2 1, 84, .inr (.inl lo)))] H ∧ va_D A [(m0, .inr (8, [.int cod, .long mt, .int hd, .int mmd, .ref bkd, .ref btr, .ref bdl, .int typ, .int v, .ref btp, .int giv, .ref bgv, .ref bse, .ref bro, .ref bop, .ref baw, .ref bsd, .ref bot, .ref bct, .ref bcr, .ref bud, .ref blo, .ref bwl, .int us, .ref bub, .ref bul, .ref bua])), (btp, .inl (G.2 0, 2000, .inl tp)), (bgv, .inl (G.2 0, 2000, .inl gv)), (bse, .inl (G.2 0, 4, .inl se)), (bro, .inl (G.2 1, 4, .inr (.inl ro))), (bop, .inl (G.2 0, 4, .inl opv)), (baw, .inl (G.2 0, 4, .inl aw)), (bsd, .inl (G.2 0, 4, .inl sd)), (bot, .inl (G.2 0, 4, .inl ot)), (blo, .inl (G.2 1, 84, .inr (.inl lo)))] ∧ va_S A s.heap H locs ∧ lv_has ls 4 [(0, .ref m0), (1, .int p1)]) ?_ ?_ 2001 rd ⟨(hrd), (by have := hi_lt ht; show typ.toNatClampNeg < rd.toNatClampNeg + 2001; omega), hF, hP, hD, hS, lv_sub hl [1, 2] rfl⟩
              · rintro rdx H locs ls ⟨hi0, hi1, _, _, _, _, _⟩
                have hi0 : (vp_in rdx (typ.toNatClampNeg + 1)) := hi0
                have hi1 : typ.toNatClampNeg < rdx.toNatClampNeg + 0 := hi1
                exact absurd (hi_lt hi0) (by omega)
              · rintro n ih rdx H locs ls ⟨hi0, hi1, hF, hP, hD, hS, hl⟩
                have hi0 : (vp_in rdx (typ.toNatClampNeg + 1)) := hi0
                have hi1 : typ.toNatClampNeg < rdx.toNatClampNeg + (n + 1) := hi1
                have hP : va_P G.1 vwCl [(m0, .inr (8, [.int cod, .long mt, .int hd, .int mmd, .ref bkd, .ref btr, .ref bdl, .int typ, .int rdx, .ref btp, .int giv, .ref bgv, .ref bse, .ref bro, .ref bop, .ref baw, .ref bsd, .ref bot, .ref bct, .ref bcr, .ref bud, .ref blo, .ref bwl, .int us, .ref bub, .ref bul, .ref bua])), (btp, .inl (G.2 0, 2000, .inl tp)), (bgv, .inl (G.2 0, 2000, .inl gv)), (bse, .inl (G.2 0, 4, .inl se)), (bro, .inl (G.2 1, 4, .inr (.inl ro))), (bop, .inl (G.2 0, 4, .inl opv)), (baw, .inl (G.2 0, 4, .inl aw)), (bsd, .inl (G.2 0, 4, .inl sd)), (bot, .inl (G.2 0, 4, .inl ot)), (blo, .inl (G.2 1, 84, .inr (.inl lo)))] H := hP
                have hD : va_D A [(m0, .inr (8, [.int cod, .long mt, .int hd, .int mmd, .ref bkd, .ref btr, .ref bdl, .int typ, .int rdx, .ref btp, .int giv, .ref bgv, .ref bse, .ref bro, .ref bop, .ref baw, .ref bsd, .ref bot, .ref bct, .ref bcr, .ref bud, .ref blo, .ref bwl, .int us, .ref bub, .ref bul, .ref bua])), (btp, .inl (G.2 0, 2000, .inl tp)), (bgv, .inl (G.2 0, 2000, .inl gv)), (bse, .inl (G.2 0, 4, .inl se)), (bro, .inl (G.2 1, 4, .inr (.inl ro))), (bop, .inl (G.2 0, 4, .inl opv)), (baw, .inl (G.2 0, 4, .inl aw)), (bsd, .inl (G.2 0, 4, .inl sd)), (bot, .inl (G.2 0, 4, .inl ot)), (blo, .inl (G.2 1, 84, .inr (.inl lo)))] := hD
                have hl : lv_has ls 4 [(0, .ref m0), (1, .int p1)] := hl
                have hF : F_X6_asked cod mt hd mmd typ rd giv us tp gv se ro opv aw sd ot lo p1 = FL_X6_asked_104 cod mt hd mmd typ rd giv us tp gv se ro opv aw sd ot lo p1 (n + 1) rdx := hF
                refine lv_aload_n hx hb dX6_asked_104 rfl (lv_at hl 0 rfl) ?_
                refine va_get (D := G.1) (ci := 8) (v := .int rdx) (C := RX6) (T := TX6) (N := 27) hx hb hts iX6 hown hK.1 hP 0 rfl rfl 8 (by decide) (hts (.fieldLink RX6 87 "RightsStepsModel" "read" "I") (by decide +kernel)) (fun _ h9 => h9) rfl dX6_asked_105 ?_
                refine lv_aload_n hx hb dX6_asked_108 rfl (lv_at hl 0 rfl) ?_
                refine va_get (D := G.1) (ci := 8) (v := .int typ) (C := RX6) (T := TX6) (N := 27) hx hb hts iX6 hown hK.1 hP 0 rfl rfl 7 (by decide) (hts (.fieldLink RX6 84 "RightsStepsModel" "typed" "I") (by decide +kernel)) (fun _ h9 => h9) rfl dX6_asked_109 ?_
                refine lv_icmp_ge (tgt := 159) hx hb dX6_asked_112 (by decide) (fun c_112 => ?_) (fun c_112 => ?_)
                · have hF := if_t hF c_112
                  refine lv_aload_n hx hb dX6_asked_159 rfl (lv_at hl 0 rfl) ?_
                  refine va_get (D := G.1) (ci := 8) (v := .int rdx) (C := RX6) (T := TX6) (N := 27) hx hb hts iX6 hown hK.1 hP 0 rfl rfl 8 (by decide) (hts (.fieldLink RX6 87 "RightsStepsModel" "read" "I") (by decide +kernel)) (fun _ h9 => h9) rfl dX6_asked_160 ?_
                  refine lv_aload_n hx hb dX6_asked_163 rfl (lv_at hl 0 rfl) ?_
                  refine va_get (D := G.1) (ci := 8) (v := .int typ) (C := RX6) (T := TX6) (N := 27) hx hb hts iX6 hown hK.1 hP 0 rfl rfl 7 (by decide) (hts (.fieldLink RX6 84 "RightsStepsModel" "typed" "I") (by decide +kernel)) (fun _ h9 => h9) rfl dX6_asked_164 ?_
                  refine lv_icmp_ne (tgt := 173) hx hb dX6_asked_167 (by decide) (fun c_167 => ?_) (fun c_167 => ?_)
                  · have hF := if_f hF c_167
                    refine lv_aload_n hx hb dX6_asked_173 rfl (lv_at hl 0 rfl) ?_
                    refine va_get (D := G.1) (ci := 8) (v := .ref btp) (C := RX6) (T := TX6) (N := 27) hx hb hts iX6 hown hK.1 hP 0 rfl rfl 9 (by decide) (hts (.fieldLink RX6 20 "RightsStepsModel" "tape" "[I") (by decide +kernel)) (fun _ h9 => h9) rfl dX6_asked_174 ?_
                    refine lv_aload_n hx hb dX6_asked_177 rfl (lv_at hl 0 rfl) ?_
                    refine va_get (D := G.1) (ci := 8) (v := .int rdx) (C := RX6) (T := TX6) (N := 27) hx hb hts iX6 hown hK.1 hP 0 rfl rfl 8 (by decide) (hts (.fieldLink RX6 87 "RightsStepsModel" "read" "I") (by decide +kernel)) (fun _ h9 => h9) rfl dX6_asked_178 ?_
                    refine va_iald (f := tp) hx hb hK.1 hP 1 0 rfl rfl ((rd_abs (by decide) ht hi0 c_112 c_167).elim) dX6_asked_181 ?_
                    refine lv_istore_n (lv' := [(3, .int (tp (rdx : Int32).toNatClampNeg)), (0, .ref m0), (1, .int p1)]) hx hb dX6_asked_182 rfl hl (by decide) rfl (fun ls hl => ?_)
                    refine lv_aload_n hx hb dX6_asked_183 rfl (lv_at hl 1 rfl) ?_
                    refine lv_dup hx hb dX6_asked_184 rfl ?_
                    refine va_get (D := G.1) (ci := 8) (v := .int rdx) (C := RX6) (T := TX6) (N := 27) hx hb hts iX6 hown hK.1 hP 0 rfl rfl 8 (by decide) (hts (.fieldLink RX6 87 "RightsStepsModel" "read" "I") (by decide +kernel)) (fun _ h9 => h9) rfl dX6_asked_185 ?_
                    refine lv_iconst (v := 1) hx hb dX6_asked_188 (by decide) ?_
                    refine lv_iadd hx hb dX6_asked_189 ?_
                    refine va_put (D := G.1) (ci := 8) (v := .int (rdx + 1)) (ty := .int) (C := RX6) (T := TX6) (N := 27) hx hb hts iX6 tyX6 tyX6_ok nmX6 hown hK.1 hP hD hS 0 rfl rfl 8 (by decide) (hts (.fieldLink RX6 87 "RightsStepsModel" "read" "I") (by decide +kernel)) (fun _ h9 => h9) rfl (by decide +kernel) rfl rfl (Nat.le_of_ble_eq_true rfl) dX6_asked_190 (fun H locs hP hD hS => ?_)
                    have hP : va_P G.1 vwCl [(m0, .inr (8, [.int cod, .long mt, .int hd, .int mmd, .ref bkd, .ref btr, .ref bdl, .int typ, .int (rdx + 1), .ref btp, .int giv, .ref bgv, .ref bse, .ref bro, .ref bop, .ref baw, .ref bsd, .ref bot, .ref bct, .ref bcr, .ref bud, .ref blo, .ref bwl, .int us, .ref bub, .ref bul, .ref bua])), (btp, .inl (G.2 0, 2000, .inl tp)), (bgv, .inl (G.2 0, 2000, .inl gv)), (bse, .inl (G.2 0, 4, .inl se)), (bro, .inl (G.2 1, 4, .inr (.inl ro))), (bop, .inl (G.2 0, 4, .inl opv)), (baw, .inl (G.2 0, 4, .inl aw)), (bsd, .inl (G.2 0, 4, .inl sd)), (bot, .inl (G.2 0, 4, .inl ot)), (blo, .inl (G.2 1, 84, .inr (.inl lo)))] H := hP
                    have hD : va_D A [(m0, .inr (8, [.int cod, .long mt, .int hd, .int mmd, .ref bkd, .ref btr, .ref bdl, .int typ, .int (rdx + 1), .ref btp, .int giv, .ref bgv, .ref bse, .ref bro, .ref bop, .ref baw, .ref bsd, .ref bot, .ref bct, .ref bcr, .ref bud, .ref blo, .ref bwl, .int us, .ref bub, .ref bul, .ref bua])), (btp, .inl (G.2 0, 2000, .inl tp)), (bgv, .inl (G.2 0, 2000, .inl gv)), (bse, .inl (G.2 0, 4, .inl se)), (bro, .inl (G.2 1, 4, .inr (.inl ro))), (bop, .inl (G.2 0, 4, .inl opv)), (baw, .inl (G.2 0, 4, .inl aw)), (bsd, .inl (G.2 0, 4, .inl sd)), (bot, .inl (G.2 0, 4, .inl ot)), (blo, .inl (G.2 1, 84, .inr (.inl lo)))] := hD
                    refine lv_aload_n hx hb dX6_asked_193 rfl (lv_at hl 1 rfl) ?_
                    refine va_get (D := G.1) (ci := 8) (v := .ref bgv) (C := RX6) (T := TX6) (N := 27) hx hb hts iX6 hown hK.1 hP 0 rfl rfl 11 (by decide) (hts (.fieldLink RX6 23 "RightsStepsModel" "given" "[I") (by decide +kernel)) (fun _ h9 => h9) rfl dX6_asked_194 ?_
                    refine lv_aload_n hx hb dX6_asked_197 rfl (lv_at hl 1 rfl) ?_
                    refine va_get (D := G.1) (ci := 8) (v := .int giv) (C := RX6) (T := TX6) (N := 27) hx hb hts iX6 hown hK.1 hP 0 rfl rfl 10 (by decide) (hts (.fieldLink RX6 90 "RightsStepsModel" "givens" "I") (by decide +kernel)) (fun _ h9 => h9) rfl dX6_asked_198 ?_
                    refine lv_iload_n hx hb dX6_asked_201 rfl (lv_at hl 0 rfl) ?_
                    refine va_iast (f := gv) hx hb hK.1 hP hD hS 2 0 rfl rfl hg dX6_asked_202 (fun H locs hP hD hS => ?_)
                    have hP : va_P G.1 vwCl [(m0, .inr (8, [.int cod, .long mt, .int hd, .int mmd, .ref bkd, .ref btr, .ref bdl, .int typ, .int (rdx + 1), .ref btp, .int giv, .ref bgv, .ref bse, .ref bro, .ref bop, .ref baw, .ref bsd, .ref bot, .ref bct, .ref bcr, .ref bud, .ref blo, .ref bwl, .int us, .ref bub, .ref bul, .ref bua])), (btp, .inl (G.2 0, 2000, .inl tp)), (bgv, .inl (G.2 0, 2000, .inl (upd gv (giv : Int32).toNatClampNeg (tp (rdx : Int32).toNatClampNeg)))), (bse, .inl (G.2 0, 4, .inl se)), (bro, .inl (G.2 1, 4, .inr (.inl ro))), (bop, .inl (G.2 0, 4, .inl opv)), (baw, .inl (G.2 0, 4, .inl aw)), (bsd, .inl (G.2 0, 4, .inl sd)), (bot, .inl (G.2 0, 4, .inl ot)), (blo, .inl (G.2 1, 84, .inr (.inl lo)))] H := hP
                    have hD : va_D A [(m0, .inr (8, [.int cod, .long mt, .int hd, .int mmd, .ref bkd, .ref btr, .ref bdl, .int typ, .int (rdx + 1), .ref btp, .int giv, .ref bgv, .ref bse, .ref bro, .ref bop, .ref baw, .ref bsd, .ref bot, .ref bct, .ref bcr, .ref bud, .ref blo, .ref bwl, .int us, .ref bub, .ref bul, .ref bua])), (btp, .inl (G.2 0, 2000, .inl tp)), (bgv, .inl (G.2 0, 2000, .inl (upd gv (giv : Int32).toNatClampNeg (tp (rdx : Int32).toNatClampNeg)))), (bse, .inl (G.2 0, 4, .inl se)), (bro, .inl (G.2 1, 4, .inr (.inl ro))), (bop, .inl (G.2 0, 4, .inl opv)), (baw, .inl (G.2 0, 4, .inl aw)), (bsd, .inl (G.2 0, 4, .inl sd)), (bot, .inl (G.2 0, 4, .inl ot)), (blo, .inl (G.2 1, 84, .inr (.inl lo)))] := hD
                    refine lv_aload_n hx hb dX6_asked_203 rfl (lv_at hl 1 rfl) ?_
                    refine lv_dup hx hb dX6_asked_204 rfl ?_
                    refine va_get (D := G.1) (ci := 8) (v := .int giv) (C := RX6) (T := TX6) (N := 27) hx hb hts iX6 hown hK.1 hP 0 rfl rfl 10 (by decide) (hts (.fieldLink RX6 90 "RightsStepsModel" "givens" "I") (by decide +kernel)) (fun _ h9 => h9) rfl dX6_asked_205 ?_
                    refine lv_iconst (v := 1) hx hb dX6_asked_208 (by decide) ?_
                    refine lv_iadd hx hb dX6_asked_209 ?_
                    refine va_put (D := G.1) (ci := 8) (v := .int (giv + 1)) (ty := .int) (C := RX6) (T := TX6) (N := 27) hx hb hts iX6 tyX6 tyX6_ok nmX6 hown hK.1 hP hD hS 0 rfl rfl 10 (by decide) (hts (.fieldLink RX6 90 "RightsStepsModel" "givens" "I") (by decide +kernel)) (fun _ h9 => h9) rfl (by decide +kernel) rfl rfl (Nat.le_of_ble_eq_true rfl) dX6_asked_210 (fun H locs hP hD hS => ?_)
                    have hP : va_P G.1 vwCl [(m0, .inr (8, [.int cod, .long mt, .int hd, .int mmd, .ref bkd, .ref btr, .ref bdl, .int typ, .int (rdx + 1), .ref btp, .int (giv + 1), .ref bgv, .ref bse, .ref bro, .ref bop, .ref baw, .ref bsd, .ref bot, .ref bct, .ref bcr, .ref bud, .ref blo, .ref bwl, .int us, .ref bub, .ref bul, .ref bua])), (btp, .inl (G.2 0, 2000, .inl tp)), (bgv, .inl (G.2 0, 2000, .inl (upd gv (giv : Int32).toNatClampNeg (tp (rdx : Int32).toNatClampNeg)))), (bse, .inl (G.2 0, 4, .inl se)), (bro, .inl (G.2 1, 4, .inr (.inl ro))), (bop, .inl (G.2 0, 4, .inl opv)), (baw, .inl (G.2 0, 4, .inl aw)), (bsd, .inl (G.2 0, 4, .inl sd)), (bot, .inl (G.2 0, 4, .inl ot)), (blo, .inl (G.2 1, 84, .inr (.inl lo)))] H := hP
                    have hD : va_D A [(m0, .inr (8, [.int cod, .long mt, .int hd, .int mmd, .ref bkd, .ref btr, .ref bdl, .int typ, .int (rdx + 1), .ref btp, .int (giv + 1), .ref bgv, .ref bse, .ref bro, .ref bop, .ref baw, .ref bsd, .ref bot, .ref bct, .ref bcr, .ref bud, .ref blo, .ref bwl, .int us, .ref bub, .ref bul, .ref bua])), (btp, .inl (G.2 0, 2000, .inl tp)), (bgv, .inl (G.2 0, 2000, .inl (upd gv (giv : Int32).toNatClampNeg (tp (rdx : Int32).toNatClampNeg)))), (bse, .inl (G.2 0, 4, .inl se)), (bro, .inl (G.2 1, 4, .inr (.inl ro))), (bop, .inl (G.2 0, 4, .inl opv)), (baw, .inl (G.2 0, 4, .inl aw)), (bsd, .inl (G.2 0, 4, .inl sd)), (bot, .inl (G.2 0, 4, .inl ot)), (blo, .inl (G.2 1, 84, .inr (.inl lo)))] := hD
                    refine lv_aload_n hx hb dX6_asked_213 rfl (lv_at hl 1 rfl) ?_
                    refine va_get (D := G.1) (ci := 8) (v := .ref bot) (C := RX6) (T := TX6) (N := 27) hx hb hts iX6 hown hK.1 hP 0 rfl rfl 17 (by decide) (hts (.fieldLink RX6 43 "RightsStepsModel" "out" "[I") (by decide +kernel)) (fun _ h9 => h9) rfl dX6_asked_214 ?_
                    refine lv_aload_n hx hb dX6_asked_217 rfl (lv_at hl 1 rfl) ?_
                    refine va_get (D := G.1) (ci := 8) (v := .int hd) (C := RX6) (T := TX6) (N := 27) hx hb hts iX6 hown hK.1 hP 0 rfl rfl 2 (by decide) (hts (.fieldLink RX6 96 "RightsStepsModel" "hand" "I") (by decide +kernel)) (fun _ h9 => h9) rfl dX6_asked_218 ?_
                    refine lv_iload_n hx hb dX6_asked_221 rfl (lv_at hl 0 rfl) ?_
                    refine va_iast (f := ot) hx hb hK.1 hP hD hS 8 0 rfl rfl hh dX6_asked_222 (fun H locs hP hD hS => ?_)
                    have hP : va_P G.1 vwCl [(m0, .inr (8, [.int cod, .long mt, .int hd, .int mmd, .ref bkd, .ref btr, .ref bdl, .int typ, .int (rdx + 1), .ref btp, .int (giv + 1), .ref bgv, .ref bse, .ref bro, .ref bop, .ref baw, .ref bsd, .ref bot, .ref bct, .ref bcr, .ref bud, .ref blo, .ref bwl, .int us, .ref bub, .ref bul, .ref bua])), (btp, .inl (G.2 0, 2000, .inl tp)), (bgv, .inl (G.2 0, 2000, .inl (upd gv (giv : Int32).toNatClampNeg (tp (rdx : Int32).toNatClampNeg)))), (bse, .inl (G.2 0, 4, .inl se)), (bro, .inl (G.2 1, 4, .inr (.inl ro))), (bop, .inl (G.2 0, 4, .inl opv)), (baw, .inl (G.2 0, 4, .inl aw)), (bsd, .inl (G.2 0, 4, .inl sd)), (bot, .inl (G.2 0, 4, .inl (upd ot (hd : Int32).toNatClampNeg (tp (rdx : Int32).toNatClampNeg)))), (blo, .inl (G.2 1, 84, .inr (.inl lo)))] H := hP
                    have hD : va_D A [(m0, .inr (8, [.int cod, .long mt, .int hd, .int mmd, .ref bkd, .ref btr, .ref bdl, .int typ, .int (rdx + 1), .ref btp, .int (giv + 1), .ref bgv, .ref bse, .ref bro, .ref bop, .ref baw, .ref bsd, .ref bot, .ref bct, .ref bcr, .ref bud, .ref blo, .ref bwl, .int us, .ref bub, .ref bul, .ref bua])), (btp, .inl (G.2 0, 2000, .inl tp)), (bgv, .inl (G.2 0, 2000, .inl (upd gv (giv : Int32).toNatClampNeg (tp (rdx : Int32).toNatClampNeg)))), (bse, .inl (G.2 0, 4, .inl se)), (bro, .inl (G.2 1, 4, .inr (.inl ro))), (bop, .inl (G.2 0, 4, .inl opv)), (baw, .inl (G.2 0, 4, .inl aw)), (bsd, .inl (G.2 0, 4, .inl sd)), (bot, .inl (G.2 0, 4, .inl (upd ot (hd : Int32).toNatClampNeg (tp (rdx : Int32).toNatClampNeg)))), (blo, .inl (G.2 1, 84, .inr (.inl lo)))] := hD
                    refine lv_aload_n hx hb dX6_asked_223 rfl (lv_at hl 1 rfl) ?_
                    refine va_get (D := G.1) (ci := 8) (v := .ref baw) (C := RX6) (T := TX6) (N := 27) hx hb hts iX6 hown hK.1 hP 0 rfl rfl 15 (by decide) (hts (.fieldLink RX6 37 "RightsStepsModel" "awaited" "[I") (by decide +kernel)) (fun _ h9 => h9) rfl dX6_asked_224 ?_
                    refine lv_aload_n hx hb dX6_asked_227 rfl (lv_at hl 1 rfl) ?_
                    refine va_get (D := G.1) (ci := 8) (v := .int hd) (C := RX6) (T := TX6) (N := 27) hx hb hts iX6 hown hK.1 hP 0 rfl rfl 2 (by decide) (hts (.fieldLink RX6 96 "RightsStepsModel" "hand" "I") (by decide +kernel)) (fun _ h9 => h9) rfl dX6_asked_228 ?_
                    refine lv_iload_n hx hb dX6_asked_231 rfl (lv_at hl 2 rfl) ?_
                    refine va_iast (f := aw) hx hb hK.1 hP hD hS 6 0 rfl rfl hh dX6_asked_232 (fun H locs hP hD hS => ?_)
                    have hP : va_P G.1 vwCl [(m0, .inr (8, [.int cod, .long mt, .int hd, .int mmd, .ref bkd, .ref btr, .ref bdl, .int typ, .int (rdx + 1), .ref btp, .int (giv + 1), .ref bgv, .ref bse, .ref bro, .ref bop, .ref baw, .ref bsd, .ref bot, .ref bct, .ref bcr, .ref bud, .ref blo, .ref bwl, .int us, .ref bub, .ref bul, .ref bua])), (btp, .inl (G.2 0, 2000, .inl tp)), (bgv, .inl (G.2 0, 2000, .inl (upd gv (giv : Int32).toNatClampNeg (tp (rdx : Int32).toNatClampNeg)))), (bse, .inl (G.2 0, 4, .inl se)), (bro, .inl (G.2 1, 4, .inr (.inl ro))), (bop, .inl (G.2 0, 4, .inl opv)), (baw, .inl (G.2 0, 4, .inl (upd aw (hd : Int32).toNatClampNeg p1))), (bsd, .inl (G.2 0, 4, .inl sd)), (bot, .inl (G.2 0, 4, .inl (upd ot (hd : Int32).toNatClampNeg (tp (rdx : Int32).toNatClampNeg)))), (blo, .inl (G.2 1, 84, .inr (.inl lo)))] H := hP
                    have hD : va_D A [(m0, .inr (8, [.int cod, .long mt, .int hd, .int mmd, .ref bkd, .ref btr, .ref bdl, .int typ, .int (rdx + 1), .ref btp, .int (giv + 1), .ref bgv, .ref bse, .ref bro, .ref bop, .ref baw, .ref bsd, .ref bot, .ref bct, .ref bcr, .ref bud, .ref blo, .ref bwl, .int us, .ref bub, .ref bul, .ref bua])), (btp, .inl (G.2 0, 2000, .inl tp)), (bgv, .inl (G.2 0, 2000, .inl (upd gv (giv : Int32).toNatClampNeg (tp (rdx : Int32).toNatClampNeg)))), (bse, .inl (G.2 0, 4, .inl se)), (bro, .inl (G.2 1, 4, .inr (.inl ro))), (bop, .inl (G.2 0, 4, .inl opv)), (baw, .inl (G.2 0, 4, .inl (upd aw (hd : Int32).toNatClampNeg p1))), (bsd, .inl (G.2 0, 4, .inl sd)), (bot, .inl (G.2 0, 4, .inl (upd ot (hd : Int32).toNatClampNeg (tp (rdx : Int32).toNatClampNeg)))), (blo, .inl (G.2 1, 84, .inr (.inl lo)))] := hD
                    refine lv_aload_n hx hb dX6_asked_233 rfl (lv_at hl 1 rfl) ?_
                    refine va_get (D := G.1) (ci := 8) (v := .ref bsd) (C := RX6) (T := TX6) (N := 27) hx hb hts iX6 hown hK.1 hP 0 rfl rfl 16 (by decide) (hts (.fieldLink RX6 40 "RightsStepsModel" "awaitedSeed" "[I") (by decide +kernel)) (fun _ h9 => h9) rfl dX6_asked_234 ?_
                    refine lv_aload_n hx hb dX6_asked_237 rfl (lv_at hl 1 rfl) ?_
                    refine va_get (D := G.1) (ci := 8) (v := .int hd) (C := RX6) (T := TX6) (N := 27) hx hb hts iX6 hown hK.1 hP 0 rfl rfl 2 (by decide) (hts (.fieldLink RX6 96 "RightsStepsModel" "hand" "I") (by decide +kernel)) (fun _ h9 => h9) rfl dX6_asked_238 ?_
                    refine lv_iload_n hx hb dX6_asked_241 rfl (lv_at hl 0 rfl) ?_
                    refine va_iast (f := sd) hx hb hK.1 hP hD hS 7 0 rfl rfl hh dX6_asked_242 (fun H locs hP hD hS => ?_)
                    have hP : va_P G.1 vwCl [(m0, .inr (8, [.int cod, .long mt, .int hd, .int mmd, .ref bkd, .ref btr, .ref bdl, .int typ, .int (rdx + 1), .ref btp, .int (giv + 1), .ref bgv, .ref bse, .ref bro, .ref bop, .ref baw, .ref bsd, .ref bot, .ref bct, .ref bcr, .ref bud, .ref blo, .ref bwl, .int us, .ref bub, .ref bul, .ref bua])), (btp, .inl (G.2 0, 2000, .inl tp)), (bgv, .inl (G.2 0, 2000, .inl (upd gv (giv : Int32).toNatClampNeg (tp (rdx : Int32).toNatClampNeg)))), (bse, .inl (G.2 0, 4, .inl se)), (bro, .inl (G.2 1, 4, .inr (.inl ro))), (bop, .inl (G.2 0, 4, .inl opv)), (baw, .inl (G.2 0, 4, .inl (upd aw (hd : Int32).toNatClampNeg p1))), (bsd, .inl (G.2 0, 4, .inl (upd sd (hd : Int32).toNatClampNeg (tp (rdx : Int32).toNatClampNeg)))), (bot, .inl (G.2 0, 4, .inl (upd ot (hd : Int32).toNatClampNeg (tp (rdx : Int32).toNatClampNeg)))), (blo, .inl (G.2 1, 84, .inr (.inl lo)))] H := hP
                    have hD : va_D A [(m0, .inr (8, [.int cod, .long mt, .int hd, .int mmd, .ref bkd, .ref btr, .ref bdl, .int typ, .int (rdx + 1), .ref btp, .int (giv + 1), .ref bgv, .ref bse, .ref bro, .ref bop, .ref baw, .ref bsd, .ref bot, .ref bct, .ref bcr, .ref bud, .ref blo, .ref bwl, .int us, .ref bub, .ref bul, .ref bua])), (btp, .inl (G.2 0, 2000, .inl tp)), (bgv, .inl (G.2 0, 2000, .inl (upd gv (giv : Int32).toNatClampNeg (tp (rdx : Int32).toNatClampNeg)))), (bse, .inl (G.2 0, 4, .inl se)), (bro, .inl (G.2 1, 4, .inr (.inl ro))), (bop, .inl (G.2 0, 4, .inl opv)), (baw, .inl (G.2 0, 4, .inl (upd aw (hd : Int32).toNatClampNeg p1))), (bsd, .inl (G.2 0, 4, .inl (upd sd (hd : Int32).toNatClampNeg (tp (rdx : Int32).toNatClampNeg)))), (bot, .inl (G.2 0, 4, .inl (upd ot (hd : Int32).toNatClampNeg (tp (rdx : Int32).toNatClampNeg)))), (blo, .inl (G.2 1, 84, .inr (.inl lo)))] := hD
                    refine lv_iconst (v := 4) hx hb dX6_asked_243 (by decide) ?_
                    exact W.iret (v := 4) hx hb hr (fun t ht hW => ⟨⟨4, ((rdx + 1), (giv + 1), (upd gv (giv : Int32).toNatClampNeg (tp (rdx : Int32).toNatClampNeg)), (upd aw (hd : Int32).toNatClampNeg p1), (upd sd (hd : Int32).toNatClampNeg (tp (rdx : Int32).toNatClampNeg)), (upd ot (hd : Int32).toNatClampNeg (tp (rdx : Int32).toNatClampNeg))), rfl, hF.symm, by rw [ht]; exact hP.sub [0, 1, 2, 3, 4, 5, 6, 7, 8, 9] rfl, hD.sub [0, 1, 2, 3, 4, 5, 6, 7, 8, 9] (by decide) rfl⟩, hS.F ht⟩) hS.2.2 dX6_asked_244
                  · have hF := if_t hF c_167
                    refine lv_bipush (v := (-34)) hx hb dX6_asked_170 (by decide) ?_
                    exact W.iret (v := (-34)) hx hb hr (fun t ht hW => ⟨⟨(-34), (rdx, giv, gv, aw, sd, ot), rfl, hF.symm, by rw [ht]; exact hP.sub [0, 1, 2, 3, 4, 5, 6, 7, 8, 9] rfl, hD.sub [0, 1, 2, 3, 4, 5, 6, 7, 8, 9] (by decide) rfl⟩, hS.F ht⟩) hS.2.2 dX6_asked_172
                · have hF := if_f hF c_112
                  refine lv_aload_n hx hb dX6_asked_115 rfl (lv_at hl 0 rfl) ?_
                  refine va_get (D := G.1) (ci := 8) (v := .ref btp) (C := RX6) (T := TX6) (N := 27) hx hb hts iX6 hown hK.1 hP 0 rfl rfl 9 (by decide) (hts (.fieldLink RX6 20 "RightsStepsModel" "tape" "[I") (by decide +kernel)) (fun _ h9 => h9) rfl dX6_asked_116 ?_
                  refine lv_aload_n hx hb dX6_asked_119 rfl (lv_at hl 0 rfl) ?_
                  refine va_get (D := G.1) (ci := 8) (v := .int rdx) (C := RX6) (T := TX6) (N := 27) hx hb hts iX6 hown hK.1 hP 0 rfl rfl 8 (by decide) (hts (.fieldLink RX6 87 "RightsStepsModel" "read" "I") (by decide +kernel)) (fun _ h9 => h9) rfl dX6_asked_120 ?_
                  refine va_iald (f := tp) hx hb hK.1 hP 1 0 rfl rfl (in_tr hi0 ht c_112) dX6_asked_123 ?_
                  refine pu_call (va_runS (As := [.int (tp (rdx : Int32).toNatClampNeg)]) (rest := []) ⟨hx, hb, hml, hown, hts⟩ (c_X6_isPlain l G _ (tp (rdx : Int32).toNatClampNeg)) (va_cwS 1 hts gX6_asked_X6_isPlain rfl rfl rfl (by decide +kernel) ⟨Nat.le_of_ble_eq_true rfl, Nat.le_of_ble_eq_true rfl⟩) (pR_S hK (va_P.nil) (va_D.nil)) rfl rfl hl.1 rfl (lv_room (Nat.le_of_ble_eq_true rfl)) dX6_asked_124 ⟨Nat.le_of_ble_eq_true rfl, Nat.le_of_ble_eq_true rfl⟩) ?_
                  refine lv_if_ne (tgt := 146) hx hb dX6_asked_127 (by decide) (fun c_127 => ?_) (fun c_127 => ?_)
                  · have hF := if_f hF c_127
                    refine lv_aload_n hx hb dX6_asked_146 rfl (lv_at hl 0 rfl) ?_
                    refine lv_dup hx hb dX6_asked_147 rfl ?_
                    refine va_get (D := G.1) (ci := 8) (v := .int rdx) (C := RX6) (T := TX6) (N := 27) hx hb hts iX6 hown hK.1 hP 0 rfl rfl 8 (by decide) (hts (.fieldLink RX6 87 "RightsStepsModel" "read" "I") (by decide +kernel)) (fun _ h9 => h9) rfl dX6_asked_148 ?_
                    refine lv_iconst (v := 1) hx hb dX6_asked_151 (by decide) ?_
                    refine lv_iadd hx hb dX6_asked_152 ?_
                    refine va_put (D := G.1) (ci := 8) (v := .int (rdx + 1)) (ty := .int) (C := RX6) (T := TX6) (N := 27) hx hb hts iX6 tyX6 tyX6_ok nmX6 hown hK.1 hP hD hS 0 rfl rfl 8 (by decide) (hts (.fieldLink RX6 87 "RightsStepsModel" "read" "I") (by decide +kernel)) (fun _ h9 => h9) rfl (by decide +kernel) rfl rfl (Nat.le_of_ble_eq_true rfl) dX6_asked_153 (fun H locs hP hD hS => ?_)
                    have hP : va_P G.1 vwCl [(m0, .inr (8, [.int cod, .long mt, .int hd, .int mmd, .ref bkd, .ref btr, .ref bdl, .int typ, .int (rdx + 1), .ref btp, .int giv, .ref bgv, .ref bse, .ref bro, .ref bop, .ref baw, .ref bsd, .ref bot, .ref bct, .ref bcr, .ref bud, .ref blo, .ref bwl, .int us, .ref bub, .ref bul, .ref bua])), (btp, .inl (G.2 0, 2000, .inl tp)), (bgv, .inl (G.2 0, 2000, .inl gv)), (bse, .inl (G.2 0, 4, .inl se)), (bro, .inl (G.2 1, 4, .inr (.inl ro))), (bop, .inl (G.2 0, 4, .inl opv)), (baw, .inl (G.2 0, 4, .inl aw)), (bsd, .inl (G.2 0, 4, .inl sd)), (bot, .inl (G.2 0, 4, .inl ot)), (blo, .inl (G.2 1, 84, .inr (.inl lo)))] H := hP
                    have hD : va_D A [(m0, .inr (8, [.int cod, .long mt, .int hd, .int mmd, .ref bkd, .ref btr, .ref bdl, .int typ, .int (rdx + 1), .ref btp, .int giv, .ref bgv, .ref bse, .ref bro, .ref bop, .ref baw, .ref bsd, .ref bot, .ref bct, .ref bcr, .ref bud, .ref blo, .ref bwl, .int us, .ref bub, .ref bul, .ref bua])), (btp, .inl (G.2 0, 2000, .inl tp)), (bgv, .inl (G.2 0, 2000, .inl gv)), (bse, .inl (G.2 0, 4, .inl se)), (bro, .inl (G.2 1, 4, .inr (.inl ro))), (bop, .inl (G.2 0, 4, .inl opv)), (baw, .inl (G.2 0, 4, .inl aw)), (bsd, .inl (G.2 0, 4, .inl sd)), (bot, .inl (G.2 0, 4, .inl ot)), (blo, .inl (G.2 1, 84, .inr (.inl lo)))] := hD
                    refine lv_goto (tgt := 104) hx hb dX6_asked_156 (by decide) ?_
                    exact ih (rdx + 1) _ _ _ ⟨(rd_inc (by decide) ht hi0 c_112), (by rw [i_incN (in_tr hi0 ht c_112) (by decide)]; omega), hF, hP.sub [0, 1, 2, 3, 4, 5, 6, 7, 8, 9] rfl, hD.sub [0, 1, 2, 3, 4, 5, 6, 7, 8, 9] (by decide) rfl, hS, lv_sub hl [0, 1] rfl⟩
                  · have hF := if_t hF c_127
                    refine lv_aload_n hx hb dX6_asked_130 rfl (lv_at hl 0 rfl) ?_
                    refine lv_aload_n hx hb dX6_asked_131 rfl (lv_at hl 0 rfl) ?_
                    refine va_get (D := G.1) (ci := 8) (v := .ref btp) (C := RX6) (T := TX6) (N := 27) hx hb hts iX6 hown hK.1 hP 0 rfl rfl 9 (by decide) (hts (.fieldLink RX6 20 "RightsStepsModel" "tape" "[I") (by decide +kernel)) (fun _ h9 => h9) rfl dX6_asked_132 ?_
                    refine lv_aload_n hx hb dX6_asked_135 rfl (lv_at hl 0 rfl) ?_
                    refine va_get (D := G.1) (ci := 8) (v := .int rdx) (C := RX6) (T := TX6) (N := 27) hx hb hts iX6 hown hK.1 hP 0 rfl rfl 8 (by decide) (hts (.fieldLink RX6 87 "RightsStepsModel" "read" "I") (by decide +kernel)) (fun _ h9 => h9) rfl dX6_asked_136 ?_
                    refine va_iald (f := tp) hx hb hK.1 hP 1 0 rfl rfl (in_tr hi0 ht c_112) dX6_asked_139 ?_
                    have hPc := hP.sub (ws' := [(m0, .inr (8, [.int cod, .long mt, .int hd, .int mmd, .ref bkd, .ref btr, .ref bdl, .int typ, .int rdx, .ref btp, .int giv, .ref bgv, .ref bse, .ref bro, .ref bop, .ref baw, .ref bsd, .ref bot, .ref bct, .ref bcr, .ref bud, .ref blo, .ref bwl, .int us, .ref bub, .ref bul, .ref bua])), (bgv, .inl (G.2 0, 2000, .inl gv))]) [0, 2] rfl
                    have hDc := hD.sub (ws' := [(m0, .inr (8, [.int cod, .long mt, .int hd, .int mmd, .ref bkd, .ref btr, .ref bdl, .int typ, .int rdx, .ref btp, .int giv, .ref bgv, .ref bse, .ref bro, .ref bop, .ref baw, .ref bsd, .ref bot, .ref bct, .ref bcr, .ref bud, .ref blo, .ref bwl, .int us, .ref bub, .ref bul, .ref bua])), (bgv, .inl (G.2 0, 2000, .inl gv))]) [0, 2] (by decide) rfl
                    refine pu_call (va_runV (As := [.int (tp (rdx : Int32).toNatClampNeg)]) (rest := []) ⟨hx, hb, hml, hown, hts⟩ (c_X6_wasGiven l G m0 bgv bkd btr bdl btp bse bro bop baw bsd bot bct bcr bud blo bwl bub bul bua _ cod mt hd mmd typ rdx giv us gv (tp (rdx : Int32).toNatClampNeg) hg) (cwV 1 hts gX6_asked_X6_wasGiven rfl rfl rfl (by decide +kernel) ⟨Nat.le_of_ble_eq_true rfl, Nat.le_of_ble_eq_true rfl⟩) (pR_V hK hPc hDc (q0 := 0) rfl rfl) rfl rfl hl.1 rfl (lv_room (Nat.le_of_ble_eq_true rfl)) dX6_asked_140 ⟨Nat.le_of_ble_eq_true rfl, Nat.le_of_ble_eq_true rfl⟩) ?_
                    refine lv_if_eq (tgt := 159) hx hb dX6_asked_143 (by decide) (fun c_143 => ?_) (fun c_143 => ?_)
                    · have hF := if_t hF c_143
                      refine lv_aload_n hx hb dX6_asked_159 rfl (lv_at hl 0 rfl) ?_
                      refine va_get (D := G.1) (ci := 8) (v := .int rdx) (C := RX6) (T := TX6) (N := 27) hx hb hts iX6 hown hK.1 hP 0 rfl rfl 8 (by decide) (hts (.fieldLink RX6 87 "RightsStepsModel" "read" "I") (by decide +kernel)) (fun _ h9 => h9) rfl dX6_asked_160 ?_
                      refine lv_aload_n hx hb dX6_asked_163 rfl (lv_at hl 0 rfl) ?_
                      refine va_get (D := G.1) (ci := 8) (v := .int typ) (C := RX6) (T := TX6) (N := 27) hx hb hts iX6 hown hK.1 hP 0 rfl rfl 7 (by decide) (hts (.fieldLink RX6 84 "RightsStepsModel" "typed" "I") (by decide +kernel)) (fun _ h9 => h9) rfl dX6_asked_164 ?_
                      refine lv_icmp_ne (tgt := 173) hx hb dX6_asked_167 (by decide) (fun c_167 => ?_) (fun c_167 => ?_)
                      · have hF := if_f hF c_167
                        refine lv_aload_n hx hb dX6_asked_173 rfl (lv_at hl 0 rfl) ?_
                        refine va_get (D := G.1) (ci := 8) (v := .ref btp) (C := RX6) (T := TX6) (N := 27) hx hb hts iX6 hown hK.1 hP 0 rfl rfl 9 (by decide) (hts (.fieldLink RX6 20 "RightsStepsModel" "tape" "[I") (by decide +kernel)) (fun _ h9 => h9) rfl dX6_asked_174 ?_
                        refine lv_aload_n hx hb dX6_asked_177 rfl (lv_at hl 0 rfl) ?_
                        refine va_get (D := G.1) (ci := 8) (v := .int rdx) (C := RX6) (T := TX6) (N := 27) hx hb hts iX6 hown hK.1 hP 0 rfl rfl 8 (by decide) (hts (.fieldLink RX6 87 "RightsStepsModel" "read" "I") (by decide +kernel)) (fun _ h9 => h9) rfl dX6_asked_178 ?_
                        refine va_iald (f := tp) hx hb hK.1 hP 1 0 rfl rfl (in_tr hi0 ht c_112) dX6_asked_181 ?_
                        refine lv_istore_n (lv' := [(3, .int (tp (rdx : Int32).toNatClampNeg)), (0, .ref m0), (1, .int p1)]) hx hb dX6_asked_182 rfl hl (by decide) rfl (fun ls hl => ?_)
                        refine lv_aload_n hx hb dX6_asked_183 rfl (lv_at hl 1 rfl) ?_
                        refine lv_dup hx hb dX6_asked_184 rfl ?_
                        refine va_get (D := G.1) (ci := 8) (v := .int rdx) (C := RX6) (T := TX6) (N := 27) hx hb hts iX6 hown hK.1 hP 0 rfl rfl 8 (by decide) (hts (.fieldLink RX6 87 "RightsStepsModel" "read" "I") (by decide +kernel)) (fun _ h9 => h9) rfl dX6_asked_185 ?_
                        refine lv_iconst (v := 1) hx hb dX6_asked_188 (by decide) ?_
                        refine lv_iadd hx hb dX6_asked_189 ?_
                        refine va_put (D := G.1) (ci := 8) (v := .int (rdx + 1)) (ty := .int) (C := RX6) (T := TX6) (N := 27) hx hb hts iX6 tyX6 tyX6_ok nmX6 hown hK.1 hP hD hS 0 rfl rfl 8 (by decide) (hts (.fieldLink RX6 87 "RightsStepsModel" "read" "I") (by decide +kernel)) (fun _ h9 => h9) rfl (by decide +kernel) rfl rfl (Nat.le_of_ble_eq_true rfl) dX6_asked_190 (fun H locs hP hD hS => ?_)
                        have hP : va_P G.1 vwCl [(m0, .inr (8, [.int cod, .long mt, .int hd, .int mmd, .ref bkd, .ref btr, .ref bdl, .int typ, .int (rdx + 1), .ref btp, .int giv, .ref bgv, .ref bse, .ref bro, .ref bop, .ref baw, .ref bsd, .ref bot, .ref bct, .ref bcr, .ref bud, .ref blo, .ref bwl, .int us, .ref bub, .ref bul, .ref bua])), (btp, .inl (G.2 0, 2000, .inl tp)), (bgv, .inl (G.2 0, 2000, .inl gv)), (bse, .inl (G.2 0, 4, .inl se)), (bro, .inl (G.2 1, 4, .inr (.inl ro))), (bop, .inl (G.2 0, 4, .inl opv)), (baw, .inl (G.2 0, 4, .inl aw)), (bsd, .inl (G.2 0, 4, .inl sd)), (bot, .inl (G.2 0, 4, .inl ot)), (blo, .inl (G.2 1, 84, .inr (.inl lo)))] H := hP
                        have hD : va_D A [(m0, .inr (8, [.int cod, .long mt, .int hd, .int mmd, .ref bkd, .ref btr, .ref bdl, .int typ, .int (rdx + 1), .ref btp, .int giv, .ref bgv, .ref bse, .ref bro, .ref bop, .ref baw, .ref bsd, .ref bot, .ref bct, .ref bcr, .ref bud, .ref blo, .ref bwl, .int us, .ref bub, .ref bul, .ref bua])), (btp, .inl (G.2 0, 2000, .inl tp)), (bgv, .inl (G.2 0, 2000, .inl gv)), (bse, .inl (G.2 0, 4, .inl se)), (bro, .inl (G.2 1, 4, .inr (.inl ro))), (bop, .inl (G.2 0, 4, .inl opv)), (baw, .inl (G.2 0, 4, .inl aw)), (bsd, .inl (G.2 0, 4, .inl sd)), (bot, .inl (G.2 0, 4, .inl ot)), (blo, .inl (G.2 1, 84, .inr (.inl lo)))] := hD
                        refine lv_aload_n hx hb dX6_asked_193 rfl (lv_at hl 1 rfl) ?_
                        refine va_get (D := G.1) (ci := 8) (v := .ref bgv) (C := RX6) (T := TX6) (N := 27) hx hb hts iX6 hown hK.1 hP 0 rfl rfl 11 (by decide) (hts (.fieldLink RX6 23 "RightsStepsModel" "given" "[I") (by decide +kernel)) (fun _ h9 => h9) rfl dX6_asked_194 ?_
                        refine lv_aload_n hx hb dX6_asked_197 rfl (lv_at hl 1 rfl) ?_
                        refine va_get (D := G.1) (ci := 8) (v := .int giv) (C := RX6) (T := TX6) (N := 27) hx hb hts iX6 hown hK.1 hP 0 rfl rfl 10 (by decide) (hts (.fieldLink RX6 90 "RightsStepsModel" "givens" "I") (by decide +kernel)) (fun _ h9 => h9) rfl dX6_asked_198 ?_
                        refine lv_iload_n hx hb dX6_asked_201 rfl (lv_at hl 0 rfl) ?_
                        refine va_iast (f := gv) hx hb hK.1 hP hD hS 2 0 rfl rfl hg dX6_asked_202 (fun H locs hP hD hS => ?_)
                        have hP : va_P G.1 vwCl [(m0, .inr (8, [.int cod, .long mt, .int hd, .int mmd, .ref bkd, .ref btr, .ref bdl, .int typ, .int (rdx + 1), .ref btp, .int giv, .ref bgv, .ref bse, .ref bro, .ref bop, .ref baw, .ref bsd, .ref bot, .ref bct, .ref bcr, .ref bud, .ref blo, .ref bwl, .int us, .ref bub, .ref bul, .ref bua])), (btp, .inl (G.2 0, 2000, .inl tp)), (bgv, .inl (G.2 0, 2000, .inl (upd gv (giv : Int32).toNatClampNeg (tp (rdx : Int32).toNatClampNeg)))), (bse, .inl (G.2 0, 4, .inl se)), (bro, .inl (G.2 1, 4, .inr (.inl ro))), (bop, .inl (G.2 0, 4, .inl opv)), (baw, .inl (G.2 0, 4, .inl aw)), (bsd, .inl (G.2 0, 4, .inl sd)), (bot, .inl (G.2 0, 4, .inl ot)), (blo, .inl (G.2 1, 84, .inr (.inl lo)))] H := hP
                        have hD : va_D A [(m0, .inr (8, [.int cod, .long mt, .int hd, .int mmd, .ref bkd, .ref btr, .ref bdl, .int typ, .int (rdx + 1), .ref btp, .int giv, .ref bgv, .ref bse, .ref bro, .ref bop, .ref baw, .ref bsd, .ref bot, .ref bct, .ref bcr, .ref bud, .ref blo, .ref bwl, .int us, .ref bub, .ref bul, .ref bua])), (btp, .inl (G.2 0, 2000, .inl tp)), (bgv, .inl (G.2 0, 2000, .inl (upd gv (giv : Int32).toNatClampNeg (tp (rdx : Int32).toNatClampNeg)))), (bse, .inl (G.2 0, 4, .inl se)), (bro, .inl (G.2 1, 4, .inr (.inl ro))), (bop, .inl (G.2 0, 4, .inl opv)), (baw, .inl (G.2 0, 4, .inl aw)), (bsd, .inl (G.2 0, 4, .inl sd)), (bot, .inl (G.2 0, 4, .inl ot)), (blo, .inl (G.2 1, 84, .inr (.inl lo)))] := hD
                        refine lv_aload_n hx hb dX6_asked_203 rfl (lv_at hl 1 rfl) ?_
                        refine lv_dup hx hb dX6_asked_204 rfl ?_
                        refine va_get (D := G.1) (ci := 8) (v := .int giv) (C := RX6) (T := TX6) (N := 27) hx hb hts iX6 hown hK.1 hP 0 rfl rfl 10 (by decide) (hts (.fieldLink RX6 90 "RightsStepsModel" "givens" "I") (by decide +kernel)) (fun _ h9 => h9) rfl dX6_asked_205 ?_
                        refine lv_iconst (v := 1) hx hb dX6_asked_208 (by decide) ?_
                        refine lv_iadd hx hb dX6_asked_209 ?_
                        refine va_put (D := G.1) (ci := 8) (v := .int (giv + 1)) (ty := .int) (C := RX6) (T := TX6) (N := 27) hx hb hts iX6 tyX6 tyX6_ok nmX6 hown hK.1 hP hD hS 0 rfl rfl 10 (by decide) (hts (.fieldLink RX6 90 "RightsStepsModel" "givens" "I") (by decide +kernel)) (fun _ h9 => h9) rfl (by decide +kernel) rfl rfl (Nat.le_of_ble_eq_true rfl) dX6_asked_210 (fun H locs hP hD hS => ?_)
                        have hP : va_P G.1 vwCl [(m0, .inr (8, [.int cod, .long mt, .int hd, .int mmd, .ref bkd, .ref btr, .ref bdl, .int typ, .int (rdx + 1), .ref btp, .int (giv + 1), .ref bgv, .ref bse, .ref bro, .ref bop, .ref baw, .ref bsd, .ref bot, .ref bct, .ref bcr, .ref bud, .ref blo, .ref bwl, .int us, .ref bub, .ref bul, .ref bua])), (btp, .inl (G.2 0, 2000, .inl tp)), (bgv, .inl (G.2 0, 2000, .inl (upd gv (giv : Int32).toNatClampNeg (tp (rdx : Int32).toNatClampNeg)))), (bse, .inl (G.2 0, 4, .inl se)), (bro, .inl (G.2 1, 4, .inr (.inl ro))), (bop, .inl (G.2 0, 4, .inl opv)), (baw, .inl (G.2 0, 4, .inl aw)), (bsd, .inl (G.2 0, 4, .inl sd)), (bot, .inl (G.2 0, 4, .inl ot)), (blo, .inl (G.2 1, 84, .inr (.inl lo)))] H := hP
                        have hD : va_D A [(m0, .inr (8, [.int cod, .long mt, .int hd, .int mmd, .ref bkd, .ref btr, .ref bdl, .int typ, .int (rdx + 1), .ref btp, .int (giv + 1), .ref bgv, .ref bse, .ref bro, .ref bop, .ref baw, .ref bsd, .ref bot, .ref bct, .ref bcr, .ref bud, .ref blo, .ref bwl, .int us, .ref bub, .ref bul, .ref bua])), (btp, .inl (G.2 0, 2000, .inl tp)), (bgv, .inl (G.2 0, 2000, .inl (upd gv (giv : Int32).toNatClampNeg (tp (rdx : Int32).toNatClampNeg)))), (bse, .inl (G.2 0, 4, .inl se)), (bro, .inl (G.2 1, 4, .inr (.inl ro))), (bop, .inl (G.2 0, 4, .inl opv)), (baw, .inl (G.2 0, 4, .inl aw)), (bsd, .inl (G.2 0, 4, .inl sd)), (bot, .inl (G.2 0, 4, .inl ot)), (blo, .inl (G.2 1, 84, .inr (.inl lo)))] := hD
                        refine lv_aload_n hx hb dX6_asked_213 rfl (lv_at hl 1 rfl) ?_
                        refine va_get (D := G.1) (ci := 8) (v := .ref bot) (C := RX6) (T := TX6) (N := 27) hx hb hts iX6 hown hK.1 hP 0 rfl rfl 17 (by decide) (hts (.fieldLink RX6 43 "RightsStepsModel" "out" "[I") (by decide +kernel)) (fun _ h9 => h9) rfl dX6_asked_214 ?_
                        refine lv_aload_n hx hb dX6_asked_217 rfl (lv_at hl 1 rfl) ?_
                        refine va_get (D := G.1) (ci := 8) (v := .int hd) (C := RX6) (T := TX6) (N := 27) hx hb hts iX6 hown hK.1 hP 0 rfl rfl 2 (by decide) (hts (.fieldLink RX6 96 "RightsStepsModel" "hand" "I") (by decide +kernel)) (fun _ h9 => h9) rfl dX6_asked_218 ?_
                        refine lv_iload_n hx hb dX6_asked_221 rfl (lv_at hl 0 rfl) ?_
                        refine va_iast (f := ot) hx hb hK.1 hP hD hS 8 0 rfl rfl hh dX6_asked_222 (fun H locs hP hD hS => ?_)
                        have hP : va_P G.1 vwCl [(m0, .inr (8, [.int cod, .long mt, .int hd, .int mmd, .ref bkd, .ref btr, .ref bdl, .int typ, .int (rdx + 1), .ref btp, .int (giv + 1), .ref bgv, .ref bse, .ref bro, .ref bop, .ref baw, .ref bsd, .ref bot, .ref bct, .ref bcr, .ref bud, .ref blo, .ref bwl, .int us, .ref bub, .ref bul, .ref bua])), (btp, .inl (G.2 0, 2000, .inl tp)), (bgv, .inl (G.2 0, 2000, .inl (upd gv (giv : Int32).toNatClampNeg (tp (rdx : Int32).toNatClampNeg)))), (bse, .inl (G.2 0, 4, .inl se)), (bro, .inl (G.2 1, 4, .inr (.inl ro))), (bop, .inl (G.2 0, 4, .inl opv)), (baw, .inl (G.2 0, 4, .inl aw)), (bsd, .inl (G.2 0, 4, .inl sd)), (bot, .inl (G.2 0, 4, .inl (upd ot (hd : Int32).toNatClampNeg (tp (rdx : Int32).toNatClampNeg)))), (blo, .inl (G.2 1, 84, .inr (.inl lo)))] H := hP
                        have hD : va_D A [(m0, .inr (8, [.int cod, .long mt, .int hd, .int mmd, .ref bkd, .ref btr, .ref bdl, .int typ, .int (rdx + 1), .ref btp, .int (giv + 1), .ref bgv, .ref bse, .ref bro, .ref bop, .ref baw, .ref bsd, .ref bot, .ref bct, .ref bcr, .ref bud, .ref blo, .ref bwl, .int us, .ref bub, .ref bul, .ref bua])), (btp, .inl (G.2 0, 2000, .inl tp)), (bgv, .inl (G.2 0, 2000, .inl (upd gv (giv : Int32).toNatClampNeg (tp (rdx : Int32).toNatClampNeg)))), (bse, .inl (G.2 0, 4, .inl se)), (bro, .inl (G.2 1, 4, .inr (.inl ro))), (bop, .inl (G.2 0, 4, .inl opv)), (baw, .inl (G.2 0, 4, .inl aw)), (bsd, .inl (G.2 0, 4, .inl sd)), (bot, .inl (G.2 0, 4, .inl (upd ot (hd : Int32).toNatClampNeg (tp (rdx : Int32).toNatClampNeg)))), (blo, .inl (G.2 1, 84, .inr (.inl lo)))] := hD
                        refine lv_aload_n hx hb dX6_asked_223 rfl (lv_at hl 1 rfl) ?_
                        refine va_get (D := G.1) (ci := 8) (v := .ref baw) (C := RX6) (T := TX6) (N := 27) hx hb hts iX6 hown hK.1 hP 0 rfl rfl 15 (by decide) (hts (.fieldLink RX6 37 "RightsStepsModel" "awaited" "[I") (by decide +kernel)) (fun _ h9 => h9) rfl dX6_asked_224 ?_
                        refine lv_aload_n hx hb dX6_asked_227 rfl (lv_at hl 1 rfl) ?_
                        refine va_get (D := G.1) (ci := 8) (v := .int hd) (C := RX6) (T := TX6) (N := 27) hx hb hts iX6 hown hK.1 hP 0 rfl rfl 2 (by decide) (hts (.fieldLink RX6 96 "RightsStepsModel" "hand" "I") (by decide +kernel)) (fun _ h9 => h9) rfl dX6_asked_228 ?_
                        refine lv_iload_n hx hb dX6_asked_231 rfl (lv_at hl 2 rfl) ?_
                        refine va_iast (f := aw) hx hb hK.1 hP hD hS 6 0 rfl rfl hh dX6_asked_232 (fun H locs hP hD hS => ?_)
                        have hP : va_P G.1 vwCl [(m0, .inr (8, [.int cod, .long mt, .int hd, .int mmd, .ref bkd, .ref btr, .ref bdl, .int typ, .int (rdx + 1), .ref btp, .int (giv + 1), .ref bgv, .ref bse, .ref bro, .ref bop, .ref baw, .ref bsd, .ref bot, .ref bct, .ref bcr, .ref bud, .ref blo, .ref bwl, .int us, .ref bub, .ref bul, .ref bua])), (btp, .inl (G.2 0, 2000, .inl tp)), (bgv, .inl (G.2 0, 2000, .inl (upd gv (giv : Int32).toNatClampNeg (tp (rdx : Int32).toNatClampNeg)))), (bse, .inl (G.2 0, 4, .inl se)), (bro, .inl (G.2 1, 4, .inr (.inl ro))), (bop, .inl (G.2 0, 4, .inl opv)), (baw, .inl (G.2 0, 4, .inl (upd aw (hd : Int32).toNatClampNeg p1))), (bsd, .inl (G.2 0, 4, .inl sd)), (bot, .inl (G.2 0, 4, .inl (upd ot (hd : Int32).toNatClampNeg (tp (rdx : Int32).toNatClampNeg)))), (blo, .inl (G.2 1, 84, .inr (.inl lo)))] H := hP
                        have hD : va_D A [(m0, .inr (8, [.int cod, .long mt, .int hd, .int mmd, .ref bkd, .ref btr, .ref bdl, .int typ, .int (rdx + 1), .ref btp, .int (giv + 1), .ref bgv, .ref bse, .ref bro, .ref bop, .ref baw, .ref bsd, .ref bot, .ref bct, .ref bcr, .ref bud, .ref blo, .ref bwl, .int us, .ref bub, .ref bul, .ref bua])), (btp, .inl (G.2 0, 2000, .inl tp)), (bgv, .inl (G.2 0, 2000, .inl (upd gv (giv : Int32).toNatClampNeg (tp (rdx : Int32).toNatClampNeg)))), (bse, .inl (G.2 0, 4, .inl se)), (bro, .inl (G.2 1, 4, .inr (.inl ro))), (bop, .inl (G.2 0, 4, .inl opv)), (baw, .inl (G.2 0, 4, .inl (upd aw (hd : Int32).toNatClampNeg p1))), (bsd, .inl (G.2 0, 4, .inl sd)), (bot, .inl (G.2 0, 4, .inl (upd ot (hd : Int32).toNatClampNeg (tp (rdx : Int32).toNatClampNeg)))), (blo, .inl (G.2 1, 84, .inr (.inl lo)))] := hD
                        refine lv_aload_n hx hb dX6_asked_233 rfl (lv_at hl 1 rfl) ?_
                        refine va_get (D := G.1) (ci := 8) (v := .ref bsd) (C := RX6) (T := TX6) (N := 27) hx hb hts iX6 hown hK.1 hP 0 rfl rfl 16 (by decide) (hts (.fieldLink RX6 40 "RightsStepsModel" "awaitedSeed" "[I") (by decide +kernel)) (fun _ h9 => h9) rfl dX6_asked_234 ?_
                        refine lv_aload_n hx hb dX6_asked_237 rfl (lv_at hl 1 rfl) ?_
                        refine va_get (D := G.1) (ci := 8) (v := .int hd) (C := RX6) (T := TX6) (N := 27) hx hb hts iX6 hown hK.1 hP 0 rfl rfl 2 (by decide) (hts (.fieldLink RX6 96 "RightsStepsModel" "hand" "I") (by decide +kernel)) (fun _ h9 => h9) rfl dX6_asked_238 ?_
                        refine lv_iload_n hx hb dX6_asked_241 rfl (lv_at hl 0 rfl) ?_
                        refine va_iast (f := sd) hx hb hK.1 hP hD hS 7 0 rfl rfl hh dX6_asked_242 (fun H locs hP hD hS => ?_)
                        have hP : va_P G.1 vwCl [(m0, .inr (8, [.int cod, .long mt, .int hd, .int mmd, .ref bkd, .ref btr, .ref bdl, .int typ, .int (rdx + 1), .ref btp, .int (giv + 1), .ref bgv, .ref bse, .ref bro, .ref bop, .ref baw, .ref bsd, .ref bot, .ref bct, .ref bcr, .ref bud, .ref blo, .ref bwl, .int us, .ref bub, .ref bul, .ref bua])), (btp, .inl (G.2 0, 2000, .inl tp)), (bgv, .inl (G.2 0, 2000, .inl (upd gv (giv : Int32).toNatClampNeg (tp (rdx : Int32).toNatClampNeg)))), (bse, .inl (G.2 0, 4, .inl se)), (bro, .inl (G.2 1, 4, .inr (.inl ro))), (bop, .inl (G.2 0, 4, .inl opv)), (baw, .inl (G.2 0, 4, .inl (upd aw (hd : Int32).toNatClampNeg p1))), (bsd, .inl (G.2 0, 4, .inl (upd sd (hd : Int32).toNatClampNeg (tp (rdx : Int32).toNatClampNeg)))), (bot, .inl (G.2 0, 4, .inl (upd ot (hd : Int32).toNatClampNeg (tp (rdx : Int32).toNatClampNeg)))), (blo, .inl (G.2 1, 84, .inr (.inl lo)))] H := hP
                        have hD : va_D A [(m0, .inr (8, [.int cod, .long mt, .int hd, .int mmd, .ref bkd, .ref btr, .ref bdl, .int typ, .int (rdx + 1), .ref btp, .int (giv + 1), .ref bgv, .ref bse, .ref bro, .ref bop, .ref baw, .ref bsd, .ref bot, .ref bct, .ref bcr, .ref bud, .ref blo, .ref bwl, .int us, .ref bub, .ref bul, .ref bua])), (btp, .inl (G.2 0, 2000, .inl tp)), (bgv, .inl (G.2 0, 2000, .inl (upd gv (giv : Int32).toNatClampNeg (tp (rdx : Int32).toNatClampNeg)))), (bse, .inl (G.2 0, 4, .inl se)), (bro, .inl (G.2 1, 4, .inr (.inl ro))), (bop, .inl (G.2 0, 4, .inl opv)), (baw, .inl (G.2 0, 4, .inl (upd aw (hd : Int32).toNatClampNeg p1))), (bsd, .inl (G.2 0, 4, .inl (upd sd (hd : Int32).toNatClampNeg (tp (rdx : Int32).toNatClampNeg)))), (bot, .inl (G.2 0, 4, .inl (upd ot (hd : Int32).toNatClampNeg (tp (rdx : Int32).toNatClampNeg)))), (blo, .inl (G.2 1, 84, .inr (.inl lo)))] := hD
                        refine lv_iconst (v := 4) hx hb dX6_asked_243 (by decide) ?_
                        exact W.iret (v := 4) hx hb hr (fun t ht hW => ⟨⟨4, ((rdx + 1), (giv + 1), (upd gv (giv : Int32).toNatClampNeg (tp (rdx : Int32).toNatClampNeg)), (upd aw (hd : Int32).toNatClampNeg p1), (upd sd (hd : Int32).toNatClampNeg (tp (rdx : Int32).toNatClampNeg)), (upd ot (hd : Int32).toNatClampNeg (tp (rdx : Int32).toNatClampNeg))), rfl, hF.symm, by rw [ht]; exact hP.sub [0, 1, 2, 3, 4, 5, 6, 7, 8, 9] rfl, hD.sub [0, 1, 2, 3, 4, 5, 6, 7, 8, 9] (by decide) rfl⟩, hS.F ht⟩) hS.2.2 dX6_asked_244
                      · have hF := if_t hF c_167
                        refine lv_bipush (v := (-34)) hx hb dX6_asked_170 (by decide) ?_
                        exact W.iret (v := (-34)) hx hb hr (fun t ht hW => ⟨⟨(-34), (rdx, giv, gv, aw, sd, ot), rfl, hF.symm, by rw [ht]; exact hP.sub [0, 1, 2, 3, 4, 5, 6, 7, 8, 9] rfl, hD.sub [0, 1, 2, 3, 4, 5, 6, 7, 8, 9] (by decide) rfl⟩, hS.F ht⟩) hS.2.2 dX6_asked_172
                    · have hF := if_f hF c_143
                      refine lv_aload_n hx hb dX6_asked_146 rfl (lv_at hl 0 rfl) ?_
                      refine lv_dup hx hb dX6_asked_147 rfl ?_
                      refine va_get (D := G.1) (ci := 8) (v := .int rdx) (C := RX6) (T := TX6) (N := 27) hx hb hts iX6 hown hK.1 hP 0 rfl rfl 8 (by decide) (hts (.fieldLink RX6 87 "RightsStepsModel" "read" "I") (by decide +kernel)) (fun _ h9 => h9) rfl dX6_asked_148 ?_
                      refine lv_iconst (v := 1) hx hb dX6_asked_151 (by decide) ?_
                      refine lv_iadd hx hb dX6_asked_152 ?_
                      refine va_put (D := G.1) (ci := 8) (v := .int (rdx + 1)) (ty := .int) (C := RX6) (T := TX6) (N := 27) hx hb hts iX6 tyX6 tyX6_ok nmX6 hown hK.1 hP hD hS 0 rfl rfl 8 (by decide) (hts (.fieldLink RX6 87 "RightsStepsModel" "read" "I") (by decide +kernel)) (fun _ h9 => h9) rfl (by decide +kernel) rfl rfl (Nat.le_of_ble_eq_true rfl) dX6_asked_153 (fun H locs hP hD hS => ?_)
                      have hP : va_P G.1 vwCl [(m0, .inr (8, [.int cod, .long mt, .int hd, .int mmd, .ref bkd, .ref btr, .ref bdl, .int typ, .int (rdx + 1), .ref btp, .int giv, .ref bgv, .ref bse, .ref bro, .ref bop, .ref baw, .ref bsd, .ref bot, .ref bct, .ref bcr, .ref bud, .ref blo, .ref bwl, .int us, .ref bub, .ref bul, .ref bua])), (btp, .inl (G.2 0, 2000, .inl tp)), (bgv, .inl (G.2 0, 2000, .inl gv)), (bse, .inl (G.2 0, 4, .inl se)), (bro, .inl (G.2 1, 4, .inr (.inl ro))), (bop, .inl (G.2 0, 4, .inl opv)), (baw, .inl (G.2 0, 4, .inl aw)), (bsd, .inl (G.2 0, 4, .inl sd)), (bot, .inl (G.2 0, 4, .inl ot)), (blo, .inl (G.2 1, 84, .inr (.inl lo)))] H := hP
                      have hD : va_D A [(m0, .inr (8, [.int cod, .long mt, .int hd, .int mmd, .ref bkd, .ref btr, .ref bdl, .int typ, .int (rdx + 1), .ref btp, .int giv, .ref bgv, .ref bse, .ref bro, .ref bop, .ref baw, .ref bsd, .ref bot, .ref bct, .ref bcr, .ref bud, .ref blo, .ref bwl, .int us, .ref bub, .ref bul, .ref bua])), (btp, .inl (G.2 0, 2000, .inl tp)), (bgv, .inl (G.2 0, 2000, .inl gv)), (bse, .inl (G.2 0, 4, .inl se)), (bro, .inl (G.2 1, 4, .inr (.inl ro))), (bop, .inl (G.2 0, 4, .inl opv)), (baw, .inl (G.2 0, 4, .inl aw)), (bsd, .inl (G.2 0, 4, .inl sd)), (bot, .inl (G.2 0, 4, .inl ot)), (blo, .inl (G.2 1, 84, .inr (.inl lo)))] := hD
                      refine lv_goto (tgt := 104) hx hb dX6_asked_156 (by decide) ?_
                      exact ih (rdx + 1) _ _ _ ⟨(rd_inc (by decide) ht hi0 c_112), (by rw [i_incN (in_tr hi0 ht c_112) (by decide)]; omega), hF, hP.sub [0, 1, 2, 3, 4, 5, 6, 7, 8, 9] rfl, hD.sub [0, 1, 2, 3, 4, 5, 6, 7, 8, 9] (by decide) rfl, hS, lv_sub hl [0, 1] rfl⟩
            · have hF := if_f hF c_98
              refine lv_bipush (v := (-55)) hx hb dX6_asked_101 (by decide) ?_
              exact W.iret (v := (-55)) hx hb hr (fun t ht hW => ⟨⟨(-55), (rd, giv, gv, aw, sd, ot), rfl, hF.symm, by rw [ht]; exact hP.sub [0, 1, 2, 3, 4, 5, 6, 7, 8, 9] rfl, hD.sub [0, 1, 2, 3, 4, 5, 6, 7, 8, 9] (by decide) rfl⟩, hS.F ht⟩) hS.2.2 dX6_asked_103
          · have hF := if_t hF c_64
            refine lv_aload_n hx hb dX6_asked_67 rfl (lv_at hl 1 rfl) ?_
            refine va_get (D := G.1) (ci := 8) (v := .ref bot) (C := RX6) (T := TX6) (N := 27) hx hb hts iX6 hown hK.1 hP 0 rfl rfl 17 (by decide) (hts (.fieldLink RX6 43 "RightsStepsModel" "out" "[I") (by decide +kernel)) (fun _ h9 => h9) rfl dX6_asked_68 ?_
            refine lv_aload_n hx hb dX6_asked_71 rfl (lv_at hl 1 rfl) ?_
            refine va_get (D := G.1) (ci := 8) (v := .int hd) (C := RX6) (T := TX6) (N := 27) hx hb hts iX6 hown hK.1 hP 0 rfl rfl 2 (by decide) (hts (.fieldLink RX6 96 "RightsStepsModel" "hand" "I") (by decide +kernel)) (fun _ h9 => h9) rfl dX6_asked_72 ?_
            refine lv_iconst (v := 0) hx hb dX6_asked_75 (by decide) ?_
            refine va_iast (f := ot) hx hb hK.1 hP hD hS 8 0 rfl rfl hh dX6_asked_76 (fun H locs hP hD hS => ?_)
            have hP : va_P G.1 vwCl [(m0, .inr (8, [.int cod, .long mt, .int hd, .int mmd, .ref bkd, .ref btr, .ref bdl, .int typ, .int rd, .ref btp, .int giv, .ref bgv, .ref bse, .ref bro, .ref bop, .ref baw, .ref bsd, .ref bot, .ref bct, .ref bcr, .ref bud, .ref blo, .ref bwl, .int us, .ref bub, .ref bul, .ref bua])), (btp, .inl (G.2 0, 2000, .inl tp)), (bgv, .inl (G.2 0, 2000, .inl gv)), (bse, .inl (G.2 0, 4, .inl se)), (bro, .inl (G.2 1, 4, .inr (.inl ro))), (bop, .inl (G.2 0, 4, .inl opv)), (baw, .inl (G.2 0, 4, .inl aw)), (bsd, .inl (G.2 0, 4, .inl sd)), (bot, .inl (G.2 0, 4, .inl (upd ot (hd : Int32).toNatClampNeg 0))), (blo, .inl (G.2 1, 84, .inr (.inl lo)))] H := hP
            have hD : va_D A [(m0, .inr (8, [.int cod, .long mt, .int hd, .int mmd, .ref bkd, .ref btr, .ref bdl, .int typ, .int rd, .ref btp, .int giv, .ref bgv, .ref bse, .ref bro, .ref bop, .ref baw, .ref bsd, .ref bot, .ref bct, .ref bcr, .ref bud, .ref blo, .ref bwl, .int us, .ref bub, .ref bul, .ref bua])), (btp, .inl (G.2 0, 2000, .inl tp)), (bgv, .inl (G.2 0, 2000, .inl gv)), (bse, .inl (G.2 0, 4, .inl se)), (bro, .inl (G.2 1, 4, .inr (.inl ro))), (bop, .inl (G.2 0, 4, .inl opv)), (baw, .inl (G.2 0, 4, .inl aw)), (bsd, .inl (G.2 0, 4, .inl sd)), (bot, .inl (G.2 0, 4, .inl (upd ot (hd : Int32).toNatClampNeg 0))), (blo, .inl (G.2 1, 84, .inr (.inl lo)))] := hD
            refine lv_iconst (v := 4) hx hb dX6_asked_77 (by decide) ?_
            exact W.iret (v := 4) hx hb hr (fun t ht hW => ⟨⟨4, (rd, giv, gv, aw, sd, (upd ot (hd : Int32).toNatClampNeg 0)), rfl, hF.symm, by rw [ht]; exact hP.sub [0, 1, 2, 3, 4, 5, 6, 7, 8, 9] rfl, hD.sub [0, 1, 2, 3, 4, 5, 6, 7, 8, 9] (by decide) rfl⟩, hS.F ht⟩) hS.2.2 dX6_asked_78
        · have hF := if_f hF c_48
          refine lv_bipush (v := (-51)) hx hb dX6_asked_51 (by decide) ?_
          exact W.iret (v := (-51)) hx hb hr (fun t ht hW => ⟨⟨(-51), (rd, giv, gv, aw, sd, ot), rfl, hF.symm, by rw [ht]; exact hP.sub [0, 1, 2, 3, 4, 5, 6, 7, 8, 9] rfl, hD.sub [0, 1, 2, 3, 4, 5, 6, 7, 8, 9] (by decide) rfl⟩, hS.F ht⟩) hS.2.2 dX6_asked_53
    · have hF := if_f hF c_22
      refine lv_bipush (v := (-18)) hx hb dX6_asked_25 (by decide) ?_
      exact W.iret (v := (-18)) hx hb hr (fun t ht hW => ⟨⟨(-18), (rd, giv, gv, aw, sd, ot), rfl, hF.symm, by rw [ht]; exact hP.sub [0, 1, 2, 3, 4, 5, 6, 7, 8, 9] rfl, hD.sub [0, 1, 2, 3, 4, 5, 6, 7, 8, 9] (by decide) rfl⟩, hS.F ht⟩) hS.2.2 dX6_asked_27

def FL_X6_keyTo_46 (cod : Int32) (mt : Int64) (hd : Int32) (mmd : Int32) (typ : Int32) (rd : Int32) (giv : Int32) (us : Int32) (mkd : Nat → Int32) (p1 : Int32) (p2 : Int32) : Nat → Int32 → Int32 → Int32
  | 0, _, _ => 0
  | n + 1, v1, k => (if 32 ≤ k then v1 else (FL_X6_keyTo_46 cod mt hd mmd typ rd giv us mkd p1 p2 n (if (v1 - v1 / 2 * 2) = 0 then (((v1 : Int32).toUInt32 >>> ((1 : Int32).toUInt32 &&& Int32.toUInt32 31)).toInt32) else ((((v1 : Int32).toUInt32 >>> ((1 : Int32).toUInt32 &&& Int32.toUInt32 31)).toInt32) ^^^ (-306674912))) (k + 1)))
def F_X6_keyTo (cod : Int32) (mt : Int64) (hd : Int32) (mmd : Int32) (typ : Int32) (rd : Int32) (giv : Int32) (us : Int32) (mkd : Nat → Int32) (p1 : Int32) (p2 : Int32) : Int32 :=
  (if (mkd (p1 : Int32).toNatClampNeg) = 0 then (p2 ^^^ 1515870810) else (if (mkd (p1 : Int32).toNatClampNeg) = 1 then ((((p2 <<< (7 &&& 31)) ||| (((p2 : Int32).toUInt32 >>> ((25 : Int32).toUInt32 &&& Int32.toUInt32 31)).toInt32)) * (-1640531535)) + p1) else (FL_X6_keyTo_46 cod mt hd mmd typ rd giv us mkd p1 p2 34 (p2 ^^^ p1) 0)))
set_option maxHeartbeats 4000000 in
set_option maxRecDepth 100000 in
theorem c_X6_keyTo (l : Launch) (G : gG) (m0 bkd btr bdl btp bgv bse bro bop baw bsd bot bct bcr bud blo bwl bub bul bua : Nat) (sz : Nat) (cod : Int32) (mt : Int64) (hd : Int32) (mmd : Int32) (typ : Int32) (rd : Int32) (giv : Int32) (us : Int32) (mkd : Nat → Int32) (p1 : Int32) (p2 : Int32) (hn : vp_in p1 21) : Met l yX6_keyTo wsX6_keyTo ({ frames := 0, cells := 0, slots := 0, locals := 0 }) (va_Pc [.ref m0, .int p1, .int p2] (pR G [(m0, .inr (8, [.int cod, .long mt, .int hd, .int mmd, .ref bkd, .ref btr, .ref bdl, .int typ, .int rd, .ref btp, .int giv, .ref bgv, .ref bse, .ref bro, .ref bop, .ref baw, .ref bsd, .ref bot, .ref bct, .ref bcr, .ref bud, .ref blo, .ref bwl, .int us, .ref bub, .ref bul, .ref bua])), (bkd, .inl (G.2 0, 21, .inl mkd))] sz)) (pQ (.int (F_X6_keyTo cod mt hd mmd typ rd giv us mkd p1 p2))) 0 0 (fun _ => False) := by
  refine Met.ofW (cc := cX6_keyTo) (maxL := 5) (ret := (some .int)) (by decide) rfl ?_
  intro p e s m args below meth c s₁ B hml hv
  obtain ⟨rfl, hsz, hP, hK, hD0⟩ := hv
  have hx := B.exec
  have hb := B.bytes
  have hr := B.returns
  have hts := atoms_spec (ws := wsX6_keyTo) B.pre
  have hown : s.vm.findClass RX6 = some m.cls := findClass_of_methodNamed B.named
  have hlocks := B.notSynchronized
  subst hsz
  have iX6 : ∀ w ∈ wsX60, w ∈ wsX6_keyTo := by decide +kernel
  have hD := hD0
  have hP : va_P G.1 vwCl [(m0, .inr (8, [.int cod, .long mt, .int hd, .int mmd, .ref bkd, .ref btr, .ref bdl, .int typ, .int rd, .ref btp, .int giv, .ref bgv, .ref bse, .ref bro, .ref bop, .ref baw, .ref bsd, .ref bot, .ref bct, .ref bcr, .ref bud, .ref blo, .ref bwl, .int us, .ref bub, .ref bul, .ref bua])), (bkd, .inl (G.2 0, 21, .inl mkd))] s.heap := hP
  have hl := lv_entry ([.ref m0, .int p1, .int p2]) (n := 5) (Nat.le_of_ble_eq_true rfl)
  rw [lg_entry_eq]
  generalize (lg_sl ([.ref m0, .int p1, .int p2]) ++ List.replicate (5 - (lg_sl ([.ref m0, .int p1, .int p2])).length) Slot.unset).toArray = ls at hl ⊢
  have hl : lv_has ls 5 [(0, .ref m0), (1, .int p1), (2, .int p2)] := hl
  have hF : F_X6_keyTo cod mt hd mmd typ rd giv us mkd p1 p2 = F_X6_keyTo cod mt hd mmd typ rd giv us mkd p1 p2 := rfl
  refine lv_aload_n hx hb dX6_keyTo_0 rfl (lv_at hl 0 rfl) ?_
  refine va_get (D := G.1) (ci := 8) (v := .ref bkd) (C := RX6) (T := TX6) (N := 27) hx hb hts iX6 hown hK.1 hP 0 rfl rfl 4 (by decide) (hts (.fieldLink RX6 7 "RightsStepsModel" "kind" "[I") (by decide +kernel)) (fun _ h9 => h9) rfl dX6_keyTo_1 ?_
  refine lv_iload_n hx hb dX6_keyTo_4 rfl (lv_at hl 1 rfl) ?_
  refine va_iald (f := mkd) hx hb hK.1 hP 1 0 rfl rfl hn dX6_keyTo_5 ?_
  refine lv_if_ne (tgt := 14) hx hb dX6_keyTo_6 (by decide) (fun c_6 => ?_) (fun c_6 => ?_)
  · have hF := if_f hF c_6
    refine lv_aload_n hx hb dX6_keyTo_14 rfl (lv_at hl 0 rfl) ?_
    refine va_get (D := G.1) (ci := 8) (v := .ref bkd) (C := RX6) (T := TX6) (N := 27) hx hb hts iX6 hown hK.1 hP 0 rfl rfl 4 (by decide) (hts (.fieldLink RX6 7 "RightsStepsModel" "kind" "[I") (by decide +kernel)) (fun _ h9 => h9) rfl dX6_keyTo_15 ?_
    refine lv_iload_n hx hb dX6_keyTo_18 rfl (lv_at hl 1 rfl) ?_
    refine va_iald (f := mkd) hx hb hK.1 hP 1 0 rfl rfl hn dX6_keyTo_19 ?_
    refine lv_iconst (v := 1) hx hb dX6_keyTo_20 (by decide) ?_
    refine lv_icmp_ne (tgt := 39) hx hb dX6_keyTo_21 (by decide) (fun c_21 => ?_) (fun c_21 => ?_)
    · have hF := if_f hF c_21
      refine lv_iload_n hx hb dX6_keyTo_39 rfl (lv_at hl 2 rfl) ?_
      refine lv_iload_n hx hb dX6_keyTo_40 rfl (lv_at hl 1 rfl) ?_
      refine lv_ixor hx hb dX6_keyTo_41 ?_
      refine lv_istore_n (lv' := [(3, .int (p2 ^^^ p1)), (0, .ref m0), (1, .int p1), (2, .int p2)]) hx hb dX6_keyTo_42 rfl hl (by decide) rfl (fun ls hl => ?_)
      refine lv_iconst (v := 0) hx hb dX6_keyTo_43 (by decide) ?_
      refine lv_istore (lv' := [(4, .int 0), (3, .int (p2 ^^^ p1)), (0, .ref m0), (1, .int p1), (2, .int p2)]) hx hb dX6_keyTo_44 hl (by decide) rfl (fun ls hl => ?_)
      refine W.loop (σ := Int32 × Int32) (fun (n : Nat) (v : Int32 × Int32) (H : Heap) (locs : List Loc) (ls : Array Slot) => (vp_in v.2 33) ∧ 33 < v.2.toNatClampNeg + n ∧ (F_X6_keyTo cod mt hd mmd typ rd giv us mkd p1 p2 = FL_X6_keyTo_46 cod mt hd mmd typ rd giv us mkd p1 p2 n v.1 v.2) ∧ H = s.heap ∧ locs = [] ∧ va_P G.1 vwCl [(m0, .inr (8, [.int cod, .long mt, .int hd, .int mmd, .ref bkd, .ref btr, .ref bdl, .int typ, .int rd, .ref btp, .int giv, .ref bgv, .ref bse, .ref bro, .ref bop, .ref baw, .ref bsd, .ref bot, .ref bct, .ref bcr, .ref bud, .ref blo, .ref bwl, .int us, .ref bub, .ref bul, .ref bua])), (bkd, .inl (G.2 0, 21, .inl mkd))] H ∧ lv_has ls 5 [(4, .int v.2), (3, .int v.1)]) ?_ ?_ 34 ((p2 ^^^ p1), 0) ⟨(show vp_in 0 33 from vp_in_iff.mpr (by decide)), (show 33 < (0 : Int32).toNatClampNeg + 34 by decide), hF, rfl, rfl, hP, lv_sub hl [0, 1] rfl⟩
      · rintro ⟨v1, k⟩ H locs ls ⟨hi0, hi1, _, _, _, _, _⟩
        have hi0 : (vp_in k 33) := hi0
        have hi1 : 33 < k.toNatClampNeg + 0 := hi1
        exact absurd (hi_lt hi0) (by omega)
      · rintro n ih ⟨v1, k⟩ H locs ls ⟨hi0, hi1, hF, rfl, rfl, hP, hl⟩
        have hi0 : (vp_in k 33) := hi0
        have hi1 : 33 < k.toNatClampNeg + (n + 1) := hi1
        have hP : va_P G.1 vwCl [(m0, .inr (8, [.int cod, .long mt, .int hd, .int mmd, .ref bkd, .ref btr, .ref bdl, .int typ, .int rd, .ref btp, .int giv, .ref bgv, .ref bse, .ref bro, .ref bop, .ref baw, .ref bsd, .ref bot, .ref bct, .ref bcr, .ref bud, .ref blo, .ref bwl, .int us, .ref bub, .ref bul, .ref bua])), (bkd, .inl (G.2 0, 21, .inl mkd))] s.heap := hP
        have hl : lv_has ls 5 [(4, .int k), (3, .int v1)] := hl
        have hF : F_X6_keyTo cod mt hd mmd typ rd giv us mkd p1 p2 = FL_X6_keyTo_46 cod mt hd mmd typ rd giv us mkd p1 p2 (n + 1) v1 k := hF
        refine lv_iload hx hb dX6_keyTo_46 (lv_at hl 0 rfl) ?_
        refine lv_bipush (v := 32) hx hb dX6_keyTo_48 (by decide) ?_
        refine lv_icmp_ge (tgt := 78) hx hb dX6_keyTo_50 (by decide) (fun c_50 => ?_) (fun c_50 => ?_)
        · have hF := if_t hF c_50
          refine lv_iload_n hx hb dX6_keyTo_78 rfl (lv_at hl 1 rfl) ?_
          exact W.iret (v := v1) hx hb hr (fun t ht hW => ⟨congrArg (fun z : Int32 => Outcome.returned (some (.int z))) hF.symm, ht⟩) (fun _ h => by cases h) dX6_keyTo_79
        · have hF := if_f hF c_50
          refine lv_iload_n hx hb dX6_keyTo_53 rfl (lv_at hl 1 rfl) ?_
          refine lv_iconst (v := 2) hx hb dX6_keyTo_54 (by decide) ?_
          refine lv_irem hx hb dX6_keyTo_55 (by decide) ?_
          refine W.join (J := 71) (nL := 5) (lvm := [(4, .int k), (3, .int v1)]) (st := .int (if (v1 - v1 / 2 * 2) = 0 then (((v1 : Int32).toUInt32 >>> ((1 : Int32).toUInt32 &&& Int32.toUInt32 31)).toInt32) else ((((v1 : Int32).toUInt32 >>> ((1 : Int32).toUInt32 &&& Int32.toUInt32 31)).toInt32) ^^^ (-306674912))) :: []) (fun hJ => ?_) (fun ls hl => ?_)
          · refine lv_if_ne (tgt := 65) hx hb dX6_keyTo_56 (by decide) (fun c_56 => ?_) (fun c_56 => ?_)
            · refine lv_iload_n hx hb dX6_keyTo_65 rfl (lv_at hl 1 rfl) ?_
              refine lv_iconst (v := 1) hx hb dX6_keyTo_66 (by decide) ?_
              refine lv_iushr (v := (((v1 : Int32).toUInt32 >>> ((1 : Int32).toUInt32 &&& Int32.toUInt32 31)).toInt32)) hx hb dX6_keyTo_67 rfl ?_
              refine lv_ldc (v := (-306674912)) hx hb hown (hts (.constant RX6 121 (-306674912)) (by decide +kernel)) dX6_keyTo_68 ?_
              refine lv_ixor hx hb dX6_keyTo_70 ?_
              refine W.eq (g2 := F0 m 71 ls (.int (if (v1 - v1 / 2 * 2) = 0 then (((v1 : Int32).toUInt32 >>> ((1 : Int32).toUInt32 &&& Int32.toUInt32 31)).toInt32) else ((((v1 : Int32).toUInt32 >>> ((1 : Int32).toUInt32 &&& Int32.toUInt32 31)).toInt32) ^^^ (-306674912))) :: [])) (by rw [if_neg c_56]) ?_
              exact hJ ls (lv_sub hl [0, 1] rfl)
            · refine lv_iload_n hx hb dX6_keyTo_59 rfl (lv_at hl 1 rfl) ?_
              refine lv_iconst (v := 1) hx hb dX6_keyTo_60 (by decide) ?_
              refine lv_iushr (v := (((v1 : Int32).toUInt32 >>> ((1 : Int32).toUInt32 &&& Int32.toUInt32 31)).toInt32)) hx hb dX6_keyTo_61 rfl ?_
              refine lv_goto (tgt := 71) hx hb dX6_keyTo_62 (by decide) ?_
              refine W.eq (g2 := F0 m 71 ls (.int (if (v1 - v1 / 2 * 2) = 0 then (((v1 : Int32).toUInt32 >>> ((1 : Int32).toUInt32 &&& Int32.toUInt32 31)).toInt32) else ((((v1 : Int32).toUInt32 >>> ((1 : Int32).toUInt32 &&& Int32.toUInt32 31)).toInt32) ^^^ (-306674912))) :: [])) (by rw [if_pos c_56]) ?_
              exact hJ ls (lv_sub hl [0, 1] rfl)
          · refine lv_istore_n (lv' := [(3, .int (if (v1 - v1 / 2 * 2) = 0 then (((v1 : Int32).toUInt32 >>> ((1 : Int32).toUInt32 &&& Int32.toUInt32 31)).toInt32) else ((((v1 : Int32).toUInt32 >>> ((1 : Int32).toUInt32 &&& Int32.toUInt32 31)).toInt32) ^^^ (-306674912)))), (4, .int k)]) hx hb dX6_keyTo_71 rfl hl (by decide) rfl (fun ls hl => ?_)
            refine lv_iinc (v := (k + 1)) (lv' := [(4, .int (k + 1)), (3, .int (if (v1 - v1 / 2 * 2) = 0 then (((v1 : Int32).toUInt32 >>> ((1 : Int32).toUInt32 &&& Int32.toUInt32 31)).toInt32) else ((((v1 : Int32).toUInt32 >>> ((1 : Int32).toUInt32 &&& Int32.toUInt32 31)).toInt32) ^^^ (-306674912))))]) hx hb dX6_keyTo_72 hl (k := 1) rfl rfl (by decide) rfl (fun ls hl => ?_)
            refine lv_goto (tgt := 46) hx hb dX6_keyTo_75 (by decide) ?_
            exact ih ((if (v1 - v1 / 2 * 2) = 0 then (((v1 : Int32).toUInt32 >>> ((1 : Int32).toUInt32 &&& Int32.toUInt32 31)).toInt32) else ((((v1 : Int32).toUInt32 >>> ((1 : Int32).toUInt32 &&& Int32.toUInt32 31)).toInt32) ^^^ (-306674912))), (k + 1)) _ _ _ ⟨(i_inc hi0 (i_not c_50) rfl), (by show 33 < (k + 1).toNatClampNeg + n; rw [i_incN hi0 (by decide)]; omega), hF, rfl, rfl, hP, lv_sub hl [0, 1] rfl⟩
    · have hF := if_t hF c_21
      refine lv_iload_n hx hb dX6_keyTo_24 rfl (lv_at hl 2 rfl) ?_
      refine lv_bipush (v := 7) hx hb dX6_keyTo_25 (by decide) ?_
      refine lv_ishl hx hb dX6_keyTo_27 ?_
      refine lv_iload_n hx hb dX6_keyTo_28 rfl (lv_at hl 2 rfl) ?_
      refine lv_bipush (v := 25) hx hb dX6_keyTo_29 (by decide) ?_
      refine lv_iushr (v := (((p2 : Int32).toUInt32 >>> ((25 : Int32).toUInt32 &&& Int32.toUInt32 31)).toInt32)) hx hb dX6_keyTo_31 rfl ?_
      refine lv_ior hx hb dX6_keyTo_32 ?_
      refine lv_ldc (v := (-1640531535)) hx hb hown (hts (.constant RX6 120 (-1640531535)) (by decide +kernel)) dX6_keyTo_33 ?_
      refine lv_imul hx hb dX6_keyTo_35 ?_
      refine lv_iload_n hx hb dX6_keyTo_36 rfl (lv_at hl 1 rfl) ?_
      refine lv_iadd hx hb dX6_keyTo_37 ?_
      exact W.iret (v := ((((p2 <<< (7 &&& 31)) ||| (((p2 : Int32).toUInt32 >>> ((25 : Int32).toUInt32 &&& Int32.toUInt32 31)).toInt32)) * (-1640531535)) + p1)) hx hb hr (fun t ht hW => ⟨congrArg (fun z : Int32 => Outcome.returned (some (.int z))) hF.symm, ht⟩) (fun _ h => by cases h) dX6_keyTo_38
  · have hF := if_t hF c_6
    refine lv_iload_n hx hb dX6_keyTo_9 rfl (lv_at hl 2 rfl) ?_
    refine lv_ldc (v := 1515870810) hx hb hown (hts (.constant RX6 119 (1515870810)) (by decide +kernel)) dX6_keyTo_10 ?_
    refine lv_ixor hx hb dX6_keyTo_12 ?_
    exact W.iret (v := (p2 ^^^ 1515870810)) hx hb hr (fun t ht hW => ⟨congrArg (fun z : Int32 => Outcome.returned (some (.int z))) hF.symm, ht⟩) (fun _ h => by cases h) dX6_keyTo_13

def F_X6_came (cod : Int32) (mt : Int64) (hd : Int32) (mmd : Int32) (typ : Int32) (rd : Int32) (giv : Int32) (us : Int32) (mkd : Nat → Int32) (mtr : Nat → Int32) (mdl : Nat → Int64) (opv : Nat → Int32) (aw : Nat → Int32) (sd : Nat → Int32) (ud : Nat → Int32) (lo : Nat → Int64) (wl : Nat → Int32) (p1 : Int32) (p2 : Int32) (p3 : Int32) : Int32 × (Nat → Int32) × (Nat → Int32) × (Nat → Int32) × (Nat → Int64) × (Nat → Int32) :=
  (if p2 = 4 then (if (aw (hd : Int32).toNatClampNeg) = p1 then (if p3 = (F_X6_keyTo cod mt hd mmd typ rd giv us mkd p1 (sd (hd : Int32).toNatClampNeg)) then (1, ((upd opv (hd : Int32).toNatClampNeg p1), (upd aw (hd : Int32).toNatClampNeg 0), (upd ud (((21 * hd) + p1) : Int32).toNatClampNeg 0), lo, wl)) else (if (mtr (p1 : Int32).toNatClampNeg) ≤ ((upd ud (((21 * hd) + p1) : Int32).toNatClampNeg ((ud (((21 * hd) + p1) : Int32).toNatClampNeg) + 1)) (((21 * hd) + p1) : Int32).toNatClampNeg) then ((-54), (opv, (upd aw (hd : Int32).toNatClampNeg 0), (upd (upd ud (((21 * hd) + p1) : Int32).toNatClampNeg ((ud (((21 * hd) + p1) : Int32).toNatClampNeg) + 1)) (((21 * hd) + p1) : Int32).toNatClampNeg 0), (vp_updL lo (((21 * hd) + p1) : Int32).toNatClampNeg (mt + (mdl (p1 : Int32).toNatClampNeg))), (upd wl (((21 * hd) + p1) : Int32).toNatClampNeg (vp_nar .boolean 1)))) else ((-53), (opv, (upd aw (hd : Int32).toNatClampNeg 0), (upd ud (((21 * hd) + p1) : Int32).toNatClampNeg ((ud (((21 * hd) + p1) : Int32).toNatClampNeg) + 1)), lo, wl)))) else ((-36), (opv, aw, ud, lo, wl))) else ((-19), (opv, aw, ud, lo, wl)))
set_option maxHeartbeats 4000000 in
set_option maxRecDepth 100000 in
theorem c_X6_came (l : Launch) (G : gG) (m0 bkd btr bdl bop baw bsd bud blo bwl btp bgv bse bro bot bct bcr bub bul bua : Nat) (sz : Nat) (cod : Int32) (mt : Int64) (hd : Int32) (mmd : Int32) (typ : Int32) (rd : Int32) (giv : Int32) (us : Int32) (mkd : Nat → Int32) (mtr : Nat → Int32) (mdl : Nat → Int64) (opv : Nat → Int32) (aw : Nat → Int32) (sd : Nat → Int32) (ud : Nat → Int32) (lo : Nat → Int64) (wl : Nat → Int32) (p1 : Int32) (p2 : Int32) (p3 : Int32) (hh : vp_in hd 4) (hn : vp_in p1 21) : Met l yX6_came wsX6_came ({ frames := 1, cells := 0, slots := 0, locals := 24 }) (va_Pc [.ref m0, .int p1, .int p2, .int p3] (pR G [(m0, .inr (8, [.int cod, .long mt, .int hd, .int mmd, .ref bkd, .ref btr, .ref bdl, .int typ, .int rd, .ref btp, .int giv, .ref bgv, .ref bse, .ref bro, .ref bop, .ref baw, .ref bsd, .ref bot, .ref bct, .ref bcr, .ref bud, .ref blo, .ref bwl, .int us, .ref bub, .ref bul, .ref bua])), (bkd, .inl (G.2 0, 21, .inl mkd)), (btr, .inl (G.2 0, 21, .inl mtr)), (bdl, .inl (G.2 1, 21, .inr (.inl mdl))), (bop, .inl (G.2 0, 4, .inl opv)), (baw, .inl (G.2 0, 4, .inl aw)), (bsd, .inl (G.2 0, 4, .inl sd)), (bud, .inl (G.2 0, 84, .inl ud)), (blo, .inl (G.2 1, 84, .inr (.inl lo))), (bwl, .inl (G.2 2, 84, .inl wl))] sz)) (va_Qi (fun (r : Int32) (u : (Nat → Int32) × (Nat → Int32) × (Nat → Int32) × (Nat → Int64) × (Nat → Int32)) => (r, u) = F_X6_came cod mt hd mmd typ rd giv us mkd mtr mdl opv aw sd ud lo wl p1 p2 p3) (fun u t => pO G [(m0, .inr (8, [.int cod, .long mt, .int hd, .int mmd, .ref bkd, .ref btr, .ref bdl, .int typ, .int rd, .ref btp, .int giv, .ref bgv, .ref bse, .ref bro, .ref bop, .ref baw, .ref bsd, .ref bot, .ref bct, .ref bcr, .ref bud, .ref blo, .ref bwl, .int us, .ref bub, .ref bul, .ref bua])), (bkd, .inl (G.2 0, 21, .inl mkd)), (btr, .inl (G.2 0, 21, .inl mtr)), (bdl, .inl (G.2 1, 21, .inr (.inl mdl))), (bop, .inl (G.2 0, 4, .inl u.1)), (baw, .inl (G.2 0, 4, .inl u.2.1)), (bsd, .inl (G.2 0, 4, .inl sd)), (bud, .inl (G.2 0, 84, .inl u.2.2.1)), (blo, .inl (G.2 1, 84, .inr (.inl u.2.2.2.1))), (bwl, .inl (G.2 2, 84, .inl u.2.2.2.2))] (va_A [(m0, .inr (8, [.int cod, .long mt, .int hd, .int mmd, .ref bkd, .ref btr, .ref bdl, .int typ, .int rd, .ref btp, .int giv, .ref bgv, .ref bse, .ref bro, .ref bop, .ref baw, .ref bsd, .ref bot, .ref bct, .ref bcr, .ref bud, .ref blo, .ref bwl, .int us, .ref bub, .ref bul, .ref bua])), (bkd, .inl (G.2 0, 21, .inl mkd)), (btr, .inl (G.2 0, 21, .inl mtr)), (bdl, .inl (G.2 1, 21, .inr (.inl mdl))), (bop, .inl (G.2 0, 4, .inl opv)), (baw, .inl (G.2 0, 4, .inl aw)), (bsd, .inl (G.2 0, 4, .inl sd)), (bud, .inl (G.2 0, 84, .inl ud)), (blo, .inl (G.2 1, 84, .inr (.inl lo))), (bwl, .inl (G.2 2, 84, .inl wl))] sz) t) (va_A [(m0, .inr (8, [.int cod, .long mt, .int hd, .int mmd, .ref bkd, .ref btr, .ref bdl, .int typ, .int rd, .ref btp, .int giv, .ref bgv, .ref bse, .ref bro, .ref bop, .ref baw, .ref bsd, .ref bot, .ref bct, .ref bcr, .ref bud, .ref blo, .ref bwl, .int us, .ref bub, .ref bul, .ref bua])), (bkd, .inl (G.2 0, 21, .inl mkd)), (btr, .inl (G.2 0, 21, .inl mtr)), (bdl, .inl (G.2 1, 21, .inr (.inl mdl))), (bop, .inl (G.2 0, 4, .inl opv)), (baw, .inl (G.2 0, 4, .inl aw)), (bsd, .inl (G.2 0, 4, .inl sd)), (bud, .inl (G.2 0, 84, .inl ud)), (blo, .inl (G.2 1, 84, .inr (.inl lo))), (bwl, .inl (G.2 2, 84, .inl wl))] sz)) 0 0 (va_A [(m0, .inr (8, [.int cod, .long mt, .int hd, .int mmd, .ref bkd, .ref btr, .ref bdl, .int typ, .int rd, .ref btp, .int giv, .ref bgv, .ref bse, .ref bro, .ref bop, .ref baw, .ref bsd, .ref bot, .ref bct, .ref bcr, .ref bud, .ref blo, .ref bwl, .int us, .ref bub, .ref bul, .ref bua])), (bkd, .inl (G.2 0, 21, .inl mkd)), (btr, .inl (G.2 0, 21, .inl mtr)), (bdl, .inl (G.2 1, 21, .inr (.inl mdl))), (bop, .inl (G.2 0, 4, .inl opv)), (baw, .inl (G.2 0, 4, .inl aw)), (bsd, .inl (G.2 0, 4, .inl sd)), (bud, .inl (G.2 0, 84, .inl ud)), (blo, .inl (G.2 1, 84, .inr (.inl lo))), (bwl, .inl (G.2 2, 84, .inl wl))] sz) := by
  refine Met.ofW (cc := cX6_came) (maxL := 5) (ret := (some .int)) (by decide) rfl ?_
  intro p e s m args below meth c s₁ B hml hv
  obtain ⟨rfl, hsz, hP, hK, hD0⟩ := hv
  have hx := B.exec
  have hb := B.bytes
  have hr := B.returns
  have hts := atoms_spec (ws := wsX6_came) B.pre
  have hown : s.vm.findClass RX6 = some m.cls := findClass_of_methodNamed B.named
  have hlocks := B.notSynchronized
  subst hsz
  have iX6 : ∀ w ∈ wsX60, w ∈ wsX6_came := by decide +kernel
  have hD := hD0.self (sz := s.heap.size)
  generalize hAe : va_A [(m0, .inr (8, [.int cod, .long mt, .int hd, .int mmd, .ref bkd, .ref btr, .ref bdl, .int typ, .int rd, .ref btp, .int giv, .ref bgv, .ref bse, .ref bro, .ref bop, .ref baw, .ref bsd, .ref bot, .ref bct, .ref bcr, .ref bud, .ref blo, .ref bwl, .int us, .ref bub, .ref bul, .ref bua])), (bkd, .inl (G.2 0, 21, .inl mkd)), (btr, .inl (G.2 0, 21, .inl mtr)), (bdl, .inl (G.2 1, 21, .inr (.inl mdl))), (bop, .inl (G.2 0, 4, .inl opv)), (baw, .inl (G.2 0, 4, .inl aw)), (bsd, .inl (G.2 0, 4, .inl sd)), (bud, .inl (G.2 0, 84, .inl ud)), (blo, .inl (G.2 1, 84, .inr (.inl lo))), (bwl, .inl (G.2 2, 84, .inl wl))] s.heap.size = A at hD ⊢
  have hA : ∀ q : Nat, s.heap.size ≤ q → A q := fun q h => by rw [← hAe]; exact Or.inr h
  have hS : va_S A s.heap s.heap [] := va_S.rf
  have hP : va_P G.1 vwCl [(m0, .inr (8, [.int cod, .long mt, .int hd, .int mmd, .ref bkd, .ref btr, .ref bdl, .int typ, .int rd, .ref btp, .int giv, .ref bgv, .ref bse, .ref bro, .ref bop, .ref baw, .ref bsd, .ref bot, .ref bct, .ref bcr, .ref bud, .ref blo, .ref bwl, .int us, .ref bub, .ref bul, .ref bua])), (bkd, .inl (G.2 0, 21, .inl mkd)), (btr, .inl (G.2 0, 21, .inl mtr)), (bdl, .inl (G.2 1, 21, .inr (.inl mdl))), (bop, .inl (G.2 0, 4, .inl opv)), (baw, .inl (G.2 0, 4, .inl aw)), (bsd, .inl (G.2 0, 4, .inl sd)), (bud, .inl (G.2 0, 84, .inl ud)), (blo, .inl (G.2 1, 84, .inr (.inl lo))), (bwl, .inl (G.2 2, 84, .inl wl))] s.heap := hP
  have hl := lv_entry ([.ref m0, .int p1, .int p2, .int p3]) (n := 5) (Nat.le_of_ble_eq_true rfl)
  rw [lg_entry_eq]
  generalize (lg_sl ([.ref m0, .int p1, .int p2, .int p3]) ++ List.replicate (5 - (lg_sl ([.ref m0, .int p1, .int p2, .int p3])).length) Slot.unset).toArray = ls at hl ⊢
  have hl : lv_has ls 5 [(0, .ref m0), (1, .int p1), (2, .int p2), (3, .int p3)] := hl
  have hF : F_X6_came cod mt hd mmd typ rd giv us mkd mtr mdl opv aw sd ud lo wl p1 p2 p3 = F_X6_came cod mt hd mmd typ rd giv us mkd mtr mdl opv aw sd ud lo wl p1 p2 p3 := rfl
  refine lv_iload_n hx hb dX6_came_0 rfl (lv_at hl 2 rfl) ?_
  refine lv_iconst (v := 4) hx hb dX6_came_1 (by decide) ?_
  refine lv_icmp_eq (tgt := 8) hx hb dX6_came_2 (by decide) (fun c_2 => ?_) (fun c_2 => ?_)
  · have hF := if_t hF c_2
    refine lv_aload_n hx hb dX6_came_8 rfl (lv_at hl 0 rfl) ?_
    refine va_get (D := G.1) (ci := 8) (v := .ref baw) (C := RX6) (T := TX6) (N := 27) hx hb hts iX6 hown hK.1 hP 0 rfl rfl 15 (by decide) (hts (.fieldLink RX6 37 "RightsStepsModel" "awaited" "[I") (by decide +kernel)) (fun _ h9 => h9) rfl dX6_came_9 ?_
    refine lv_aload_n hx hb dX6_came_12 rfl (lv_at hl 0 rfl) ?_
    refine va_get (D := G.1) (ci := 8) (v := .int hd) (C := RX6) (T := TX6) (N := 27) hx hb hts iX6 hown hK.1 hP 0 rfl rfl 2 (by decide) (hts (.fieldLink RX6 96 "RightsStepsModel" "hand" "I") (by decide +kernel)) (fun _ h9 => h9) rfl dX6_came_13 ?_
    refine va_iald (f := aw) hx hb hK.1 hP 5 0 rfl rfl hh dX6_came_16 ?_
    refine lv_iload_n hx hb dX6_came_17 rfl (lv_at hl 1 rfl) ?_
    refine lv_icmp_eq (tgt := 24) hx hb dX6_came_18 (by decide) (fun c_18 => ?_) (fun c_18 => ?_)
    · have hF := if_t hF c_18
      refine lv_aload_n hx hb dX6_came_24 rfl (lv_at hl 0 rfl) ?_
      refine va_get (D := G.1) (ci := 8) (v := .ref baw) (C := RX6) (T := TX6) (N := 27) hx hb hts iX6 hown hK.1 hP 0 rfl rfl 15 (by decide) (hts (.fieldLink RX6 37 "RightsStepsModel" "awaited" "[I") (by decide +kernel)) (fun _ h9 => h9) rfl dX6_came_25 ?_
      refine lv_aload_n hx hb dX6_came_28 rfl (lv_at hl 0 rfl) ?_
      refine va_get (D := G.1) (ci := 8) (v := .int hd) (C := RX6) (T := TX6) (N := 27) hx hb hts iX6 hown hK.1 hP 0 rfl rfl 2 (by decide) (hts (.fieldLink RX6 96 "RightsStepsModel" "hand" "I") (by decide +kernel)) (fun _ h9 => h9) rfl dX6_came_29 ?_
      refine lv_iconst (v := 0) hx hb dX6_came_32 (by decide) ?_
      refine va_iast (f := aw) hx hb hK.1 hP hD hS 5 0 rfl rfl hh dX6_came_33 (fun H locs hP hD hS => ?_)
      have hP : va_P G.1 vwCl [(m0, .inr (8, [.int cod, .long mt, .int hd, .int mmd, .ref bkd, .ref btr, .ref bdl, .int typ, .int rd, .ref btp, .int giv, .ref bgv, .ref bse, .ref bro, .ref bop, .ref baw, .ref bsd, .ref bot, .ref bct, .ref bcr, .ref bud, .ref blo, .ref bwl, .int us, .ref bub, .ref bul, .ref bua])), (bkd, .inl (G.2 0, 21, .inl mkd)), (btr, .inl (G.2 0, 21, .inl mtr)), (bdl, .inl (G.2 1, 21, .inr (.inl mdl))), (bop, .inl (G.2 0, 4, .inl opv)), (baw, .inl (G.2 0, 4, .inl (upd aw (hd : Int32).toNatClampNeg 0))), (bsd, .inl (G.2 0, 4, .inl sd)), (bud, .inl (G.2 0, 84, .inl ud)), (blo, .inl (G.2 1, 84, .inr (.inl lo))), (bwl, .inl (G.2 2, 84, .inl wl))] H := hP
      have hD : va_D A [(m0, .inr (8, [.int cod, .long mt, .int hd, .int mmd, .ref bkd, .ref btr, .ref bdl, .int typ, .int rd, .ref btp, .int giv, .ref bgv, .ref bse, .ref bro, .ref bop, .ref baw, .ref bsd, .ref bot, .ref bct, .ref bcr, .ref bud, .ref blo, .ref bwl, .int us, .ref bub, .ref bul, .ref bua])), (bkd, .inl (G.2 0, 21, .inl mkd)), (btr, .inl (G.2 0, 21, .inl mtr)), (bdl, .inl (G.2 1, 21, .inr (.inl mdl))), (bop, .inl (G.2 0, 4, .inl opv)), (baw, .inl (G.2 0, 4, .inl (upd aw (hd : Int32).toNatClampNeg 0))), (bsd, .inl (G.2 0, 4, .inl sd)), (bud, .inl (G.2 0, 84, .inl ud)), (blo, .inl (G.2 1, 84, .inr (.inl lo))), (bwl, .inl (G.2 2, 84, .inl wl))] := hD
      refine lv_bipush (v := 21) hx hb dX6_came_34 (by decide) ?_
      refine lv_aload_n hx hb dX6_came_36 rfl (lv_at hl 0 rfl) ?_
      refine va_get (D := G.1) (ci := 8) (v := .int hd) (C := RX6) (T := TX6) (N := 27) hx hb hts iX6 hown hK.1 hP 0 rfl rfl 2 (by decide) (hts (.fieldLink RX6 96 "RightsStepsModel" "hand" "I") (by decide +kernel)) (fun _ h9 => h9) rfl dX6_came_37 ?_
      refine lv_imul hx hb dX6_came_40 ?_
      refine lv_iload_n hx hb dX6_came_41 rfl (lv_at hl 1 rfl) ?_
      refine lv_iadd hx hb dX6_came_42 ?_
      refine lv_istore (lv' := [(4, .int ((21 * hd) + p1)), (0, .ref m0), (1, .int p1), (2, .int p2), (3, .int p3)]) hx hb dX6_came_43 hl (by decide) rfl (fun ls hl => ?_)
      refine lv_iload_n hx hb dX6_came_45 rfl (lv_at hl 4 rfl) ?_
      refine lv_aload_n hx hb dX6_came_46 rfl (lv_at hl 1 rfl) ?_
      refine lv_iload_n hx hb dX6_came_47 rfl (lv_at hl 2 rfl) ?_
      refine lv_aload_n hx hb dX6_came_48 rfl (lv_at hl 1 rfl) ?_
      refine va_get (D := G.1) (ci := 8) (v := .ref bsd) (C := RX6) (T := TX6) (N := 27) hx hb hts iX6 hown hK.1 hP 0 rfl rfl 16 (by decide) (hts (.fieldLink RX6 40 "RightsStepsModel" "awaitedSeed" "[I") (by decide +kernel)) (fun _ h9 => h9) rfl dX6_came_49 ?_
      refine lv_aload_n hx hb dX6_came_52 rfl (lv_at hl 1 rfl) ?_
      refine va_get (D := G.1) (ci := 8) (v := .int hd) (C := RX6) (T := TX6) (N := 27) hx hb hts iX6 hown hK.1 hP 0 rfl rfl 2 (by decide) (hts (.fieldLink RX6 96 "RightsStepsModel" "hand" "I") (by decide +kernel)) (fun _ h9 => h9) rfl dX6_came_53 ?_
      refine va_iald (f := sd) hx hb hK.1 hP 6 0 rfl rfl hh dX6_came_56 ?_
      have hPc := hP.sub (ws' := [(m0, .inr (8, [.int cod, .long mt, .int hd, .int mmd, .ref bkd, .ref btr, .ref bdl, .int typ, .int rd, .ref btp, .int giv, .ref bgv, .ref bse, .ref bro, .ref bop, .ref baw, .ref bsd, .ref bot, .ref bct, .ref bcr, .ref bud, .ref blo, .ref bwl, .int us, .ref bub, .ref bul, .ref bua])), (bkd, .inl (G.2 0, 21, .inl mkd))]) [0, 1] rfl
      have hDc := hD.sub (ws' := [(m0, .inr (8, [.int cod, .long mt, .int hd, .int mmd, .ref bkd, .ref btr, .ref bdl, .int typ, .int rd, .ref btp, .int giv, .ref bgv, .ref bse, .ref bro, .ref bop, .ref baw, .ref bsd, .ref bot, .ref bct, .ref bcr, .ref bud, .ref blo, .ref bwl, .int us, .ref bub, .ref bul, .ref bua])), (bkd, .inl (G.2 0, 21, .inl mkd))]) [0, 1] (by decide) rfl
      refine pu_call (va_runV (As := [.int p1, .int (sd (hd : Int32).toNatClampNeg)]) (rest := [.int p3]) ⟨hx, hb, hml, hown, hts⟩ (c_X6_keyTo l G m0 bkd btr bdl btp bgv bse bro bop baw bsd bot bct bcr bud blo bwl bub bul bua _ cod mt hd mmd typ rd giv us mkd p1 (sd (hd : Int32).toNatClampNeg) hn) (cwV 2 hts gX6_came_X6_keyTo rfl rfl rfl (by decide +kernel) ⟨Nat.le_of_ble_eq_true rfl, Nat.le_of_ble_eq_true rfl⟩) (pR_V hK hPc hDc (q0 := 0) rfl rfl) rfl rfl hl.1 rfl (lv_room (Nat.le_of_ble_eq_true rfl)) dX6_came_57 ⟨Nat.le_of_ble_eq_true rfl, Nat.le_of_ble_eq_true rfl⟩) ?_
      refine lv_icmp_ne (tgt := 83) hx hb dX6_came_60 (by decide) (fun c_60 => ?_) (fun c_60 => ?_)
      · have hF := if_f hF c_60
        refine lv_aload_n hx hb dX6_came_83 rfl (lv_at hl 1 rfl) ?_
        refine va_get (D := G.1) (ci := 8) (v := .ref bud) (C := RX6) (T := TX6) (N := 27) hx hb hts iX6 hown hK.1 hP 0 rfl rfl 20 (by decide) (hts (.fieldLink RX6 52 "RightsStepsModel" "used" "[I") (by decide +kernel)) (fun _ h9 => h9) rfl dX6_came_84 ?_
        refine lv_iload hx hb dX6_came_87 (lv_at hl 0 rfl) ?_
        refine lv_dup2_11 hx hb dX6_came_89 rfl rfl ?_
        refine va_iald (f := ud) hx hb hK.1 hP 7 0 rfl rfl (in_84 hh hn) dX6_came_90 ?_
        refine lv_iconst (v := 1) hx hb dX6_came_91 (by decide) ?_
        refine lv_iadd hx hb dX6_came_92 ?_
        refine va_iast (f := ud) hx hb hK.1 hP hD hS 7 0 rfl rfl (in_84 hh hn) dX6_came_93 (fun H locs hP hD hS => ?_)
        have hP : va_P G.1 vwCl [(m0, .inr (8, [.int cod, .long mt, .int hd, .int mmd, .ref bkd, .ref btr, .ref bdl, .int typ, .int rd, .ref btp, .int giv, .ref bgv, .ref bse, .ref bro, .ref bop, .ref baw, .ref bsd, .ref bot, .ref bct, .ref bcr, .ref bud, .ref blo, .ref bwl, .int us, .ref bub, .ref bul, .ref bua])), (bkd, .inl (G.2 0, 21, .inl mkd)), (btr, .inl (G.2 0, 21, .inl mtr)), (bdl, .inl (G.2 1, 21, .inr (.inl mdl))), (bop, .inl (G.2 0, 4, .inl opv)), (baw, .inl (G.2 0, 4, .inl (upd aw (hd : Int32).toNatClampNeg 0))), (bsd, .inl (G.2 0, 4, .inl sd)), (bud, .inl (G.2 0, 84, .inl (upd ud (((21 * hd) + p1) : Int32).toNatClampNeg ((ud (((21 * hd) + p1) : Int32).toNatClampNeg) + 1)))), (blo, .inl (G.2 1, 84, .inr (.inl lo))), (bwl, .inl (G.2 2, 84, .inl wl))] H := hP
        have hD : va_D A [(m0, .inr (8, [.int cod, .long mt, .int hd, .int mmd, .ref bkd, .ref btr, .ref bdl, .int typ, .int rd, .ref btp, .int giv, .ref bgv, .ref bse, .ref bro, .ref bop, .ref baw, .ref bsd, .ref bot, .ref bct, .ref bcr, .ref bud, .ref blo, .ref bwl, .int us, .ref bub, .ref bul, .ref bua])), (bkd, .inl (G.2 0, 21, .inl mkd)), (btr, .inl (G.2 0, 21, .inl mtr)), (bdl, .inl (G.2 1, 21, .inr (.inl mdl))), (bop, .inl (G.2 0, 4, .inl opv)), (baw, .inl (G.2 0, 4, .inl (upd aw (hd : Int32).toNatClampNeg 0))), (bsd, .inl (G.2 0, 4, .inl sd)), (bud, .inl (G.2 0, 84, .inl (upd ud (((21 * hd) + p1) : Int32).toNatClampNeg ((ud (((21 * hd) + p1) : Int32).toNatClampNeg) + 1)))), (blo, .inl (G.2 1, 84, .inr (.inl lo))), (bwl, .inl (G.2 2, 84, .inl wl))] := hD
        refine lv_aload_n hx hb dX6_came_94 rfl (lv_at hl 1 rfl) ?_
        refine va_get (D := G.1) (ci := 8) (v := .ref bud) (C := RX6) (T := TX6) (N := 27) hx hb hts iX6 hown hK.1 hP 0 rfl rfl 20 (by decide) (hts (.fieldLink RX6 52 "RightsStepsModel" "used" "[I") (by decide +kernel)) (fun _ h9 => h9) rfl dX6_came_95 ?_
        refine lv_iload hx hb dX6_came_98 (lv_at hl 0 rfl) ?_
        refine va_iald (f := (upd ud (((21 * hd) + p1) : Int32).toNatClampNeg ((ud (((21 * hd) + p1) : Int32).toNatClampNeg) + 1))) hx hb hK.1 hP 7 0 rfl rfl (in_84 hh hn) dX6_came_100 ?_
        refine lv_aload_n hx hb dX6_came_101 rfl (lv_at hl 1 rfl) ?_
        refine va_get (D := G.1) (ci := 8) (v := .ref btr) (C := RX6) (T := TX6) (N := 27) hx hb hts iX6 hown hK.1 hP 0 rfl rfl 5 (by decide) (hts (.fieldLink RX6 13 "RightsStepsModel" "tries" "[I") (by decide +kernel)) (fun _ h9 => h9) rfl dX6_came_102 ?_
        refine lv_iload_n hx hb dX6_came_105 rfl (lv_at hl 2 rfl) ?_
        refine va_iald (f := mtr) hx hb hK.1 hP 2 0 rfl rfl hn dX6_came_106 ?_
        refine lv_icmp_ge (tgt := 113) hx hb dX6_came_107 (by decide) (fun c_107 => ?_) (fun c_107 => ?_)
        · have hF := if_t hF c_107
          refine lv_aload_n hx hb dX6_came_113 rfl (lv_at hl 1 rfl) ?_
          refine va_get (D := G.1) (ci := 8) (v := .ref bud) (C := RX6) (T := TX6) (N := 27) hx hb hts iX6 hown hK.1 hP 0 rfl rfl 20 (by decide) (hts (.fieldLink RX6 52 "RightsStepsModel" "used" "[I") (by decide +kernel)) (fun _ h9 => h9) rfl dX6_came_114 ?_
          refine lv_iload hx hb dX6_came_117 (lv_at hl 0 rfl) ?_
          refine lv_iconst (v := 0) hx hb dX6_came_119 (by decide) ?_
          refine va_iast (f := (upd ud (((21 * hd) + p1) : Int32).toNatClampNeg ((ud (((21 * hd) + p1) : Int32).toNatClampNeg) + 1))) hx hb hK.1 hP hD hS 7 0 rfl rfl (in_84 hh hn) dX6_came_120 (fun H locs hP hD hS => ?_)
          have hP : va_P G.1 vwCl [(m0, .inr (8, [.int cod, .long mt, .int hd, .int mmd, .ref bkd, .ref btr, .ref bdl, .int typ, .int rd, .ref btp, .int giv, .ref bgv, .ref bse, .ref bro, .ref bop, .ref baw, .ref bsd, .ref bot, .ref bct, .ref bcr, .ref bud, .ref blo, .ref bwl, .int us, .ref bub, .ref bul, .ref bua])), (bkd, .inl (G.2 0, 21, .inl mkd)), (btr, .inl (G.2 0, 21, .inl mtr)), (bdl, .inl (G.2 1, 21, .inr (.inl mdl))), (bop, .inl (G.2 0, 4, .inl opv)), (baw, .inl (G.2 0, 4, .inl (upd aw (hd : Int32).toNatClampNeg 0))), (bsd, .inl (G.2 0, 4, .inl sd)), (bud, .inl (G.2 0, 84, .inl (upd (upd ud (((21 * hd) + p1) : Int32).toNatClampNeg ((ud (((21 * hd) + p1) : Int32).toNatClampNeg) + 1)) (((21 * hd) + p1) : Int32).toNatClampNeg 0))), (blo, .inl (G.2 1, 84, .inr (.inl lo))), (bwl, .inl (G.2 2, 84, .inl wl))] H := hP
          have hD : va_D A [(m0, .inr (8, [.int cod, .long mt, .int hd, .int mmd, .ref bkd, .ref btr, .ref bdl, .int typ, .int rd, .ref btp, .int giv, .ref bgv, .ref bse, .ref bro, .ref bop, .ref baw, .ref bsd, .ref bot, .ref bct, .ref bcr, .ref bud, .ref blo, .ref bwl, .int us, .ref bub, .ref bul, .ref bua])), (bkd, .inl (G.2 0, 21, .inl mkd)), (btr, .inl (G.2 0, 21, .inl mtr)), (bdl, .inl (G.2 1, 21, .inr (.inl mdl))), (bop, .inl (G.2 0, 4, .inl opv)), (baw, .inl (G.2 0, 4, .inl (upd aw (hd : Int32).toNatClampNeg 0))), (bsd, .inl (G.2 0, 4, .inl sd)), (bud, .inl (G.2 0, 84, .inl (upd (upd ud (((21 * hd) + p1) : Int32).toNatClampNeg ((ud (((21 * hd) + p1) : Int32).toNatClampNeg) + 1)) (((21 * hd) + p1) : Int32).toNatClampNeg 0))), (blo, .inl (G.2 1, 84, .inr (.inl lo))), (bwl, .inl (G.2 2, 84, .inl wl))] := hD
          refine lv_aload_n hx hb dX6_came_121 rfl (lv_at hl 1 rfl) ?_
          refine va_get (D := G.1) (ci := 8) (v := .ref blo) (C := RX6) (T := TX6) (N := 27) hx hb hts iX6 hown hK.1 hP 0 rfl rfl 21 (by decide) (hts (.fieldLink RX6 55 "RightsStepsModel" "locked" "[J") (by decide +kernel)) (fun _ h9 => h9) rfl dX6_came_122 ?_
          refine lv_iload hx hb dX6_came_125 (lv_at hl 0 rfl) ?_
          refine lv_aload_n hx hb dX6_came_127 rfl (lv_at hl 1 rfl) ?_
          refine va_get (D := G.1) (ci := 8) (v := .long mt) (C := RX6) (T := TX6) (N := 27) hx hb hts iX6 hown hK.1 hP 0 rfl rfl 1 (by decide) (hts (.fieldLink RX6 99 "RightsStepsModel" "time" "J") (by decide +kernel)) (fun _ h9 => h9) rfl dX6_came_128 ?_
          refine lv_aload_n hx hb dX6_came_131 rfl (lv_at hl 1 rfl) ?_
          refine va_get (D := G.1) (ci := 8) (v := .ref bdl) (C := RX6) (T := TX6) (N := 27) hx hb hts iX6 hown hK.1 hP 0 rfl rfl 6 (by decide) (hts (.fieldLink RX6 16 "RightsStepsModel" "delay" "[J") (by decide +kernel)) (fun _ h9 => h9) rfl dX6_came_132 ?_
          refine lv_iload_n hx hb dX6_came_135 rfl (lv_at hl 2 rfl) ?_
          refine va_lald (f := mdl) hx hb hK.1 hP 3 1 rfl rfl hn dX6_came_136 ?_
          refine lv_ladd hx hb dX6_came_137 ?_
          refine va_last (f := lo) hx hb hK.1 hP hD hS 8 1 rfl rfl (in_84 hh hn) dX6_came_138 (fun H locs hP hD hS => ?_)
          have hP : va_P G.1 vwCl [(m0, .inr (8, [.int cod, .long mt, .int hd, .int mmd, .ref bkd, .ref btr, .ref bdl, .int typ, .int rd, .ref btp, .int giv, .ref bgv, .ref bse, .ref bro, .ref bop, .ref baw, .ref bsd, .ref bot, .ref bct, .ref bcr, .ref bud, .ref blo, .ref bwl, .int us, .ref bub, .ref bul, .ref bua])), (bkd, .inl (G.2 0, 21, .inl mkd)), (btr, .inl (G.2 0, 21, .inl mtr)), (bdl, .inl (G.2 1, 21, .inr (.inl mdl))), (bop, .inl (G.2 0, 4, .inl opv)), (baw, .inl (G.2 0, 4, .inl (upd aw (hd : Int32).toNatClampNeg 0))), (bsd, .inl (G.2 0, 4, .inl sd)), (bud, .inl (G.2 0, 84, .inl (upd (upd ud (((21 * hd) + p1) : Int32).toNatClampNeg ((ud (((21 * hd) + p1) : Int32).toNatClampNeg) + 1)) (((21 * hd) + p1) : Int32).toNatClampNeg 0))), (blo, .inl (G.2 1, 84, .inr (.inl (vp_updL lo (((21 * hd) + p1) : Int32).toNatClampNeg (mt + (mdl (p1 : Int32).toNatClampNeg)))))), (bwl, .inl (G.2 2, 84, .inl wl))] H := hP
          have hD : va_D A [(m0, .inr (8, [.int cod, .long mt, .int hd, .int mmd, .ref bkd, .ref btr, .ref bdl, .int typ, .int rd, .ref btp, .int giv, .ref bgv, .ref bse, .ref bro, .ref bop, .ref baw, .ref bsd, .ref bot, .ref bct, .ref bcr, .ref bud, .ref blo, .ref bwl, .int us, .ref bub, .ref bul, .ref bua])), (bkd, .inl (G.2 0, 21, .inl mkd)), (btr, .inl (G.2 0, 21, .inl mtr)), (bdl, .inl (G.2 1, 21, .inr (.inl mdl))), (bop, .inl (G.2 0, 4, .inl opv)), (baw, .inl (G.2 0, 4, .inl (upd aw (hd : Int32).toNatClampNeg 0))), (bsd, .inl (G.2 0, 4, .inl sd)), (bud, .inl (G.2 0, 84, .inl (upd (upd ud (((21 * hd) + p1) : Int32).toNatClampNeg ((ud (((21 * hd) + p1) : Int32).toNatClampNeg) + 1)) (((21 * hd) + p1) : Int32).toNatClampNeg 0))), (blo, .inl (G.2 1, 84, .inr (.inl (vp_updL lo (((21 * hd) + p1) : Int32).toNatClampNeg (mt + (mdl (p1 : Int32).toNatClampNeg)))))), (bwl, .inl (G.2 2, 84, .inl wl))] := hD
          refine lv_aload_n hx hb dX6_came_139 rfl (lv_at hl 1 rfl) ?_
          refine va_get (D := G.1) (ci := 8) (v := .ref bwl) (C := RX6) (T := TX6) (N := 27) hx hb hts iX6 hown hK.1 hP 0 rfl rfl 22 (by decide) (hts (.fieldLink RX6 58 "RightsStepsModel" "wasLocked" "[Z") (by decide +kernel)) (fun _ h9 => h9) rfl dX6_came_140 ?_
          refine lv_iload hx hb dX6_came_143 (lv_at hl 0 rfl) ?_
          refine lv_iconst (v := 1) hx hb dX6_came_145 (by decide) ?_
          refine va_zast (f := wl) hx hb hK.1 hP hD hS 9 2 rfl rfl (in_84 hh hn) dX6_came_146 (fun H locs hP hD hS => ?_)
          have hP : va_P G.1 vwCl [(m0, .inr (8, [.int cod, .long mt, .int hd, .int mmd, .ref bkd, .ref btr, .ref bdl, .int typ, .int rd, .ref btp, .int giv, .ref bgv, .ref bse, .ref bro, .ref bop, .ref baw, .ref bsd, .ref bot, .ref bct, .ref bcr, .ref bud, .ref blo, .ref bwl, .int us, .ref bub, .ref bul, .ref bua])), (bkd, .inl (G.2 0, 21, .inl mkd)), (btr, .inl (G.2 0, 21, .inl mtr)), (bdl, .inl (G.2 1, 21, .inr (.inl mdl))), (bop, .inl (G.2 0, 4, .inl opv)), (baw, .inl (G.2 0, 4, .inl (upd aw (hd : Int32).toNatClampNeg 0))), (bsd, .inl (G.2 0, 4, .inl sd)), (bud, .inl (G.2 0, 84, .inl (upd (upd ud (((21 * hd) + p1) : Int32).toNatClampNeg ((ud (((21 * hd) + p1) : Int32).toNatClampNeg) + 1)) (((21 * hd) + p1) : Int32).toNatClampNeg 0))), (blo, .inl (G.2 1, 84, .inr (.inl (vp_updL lo (((21 * hd) + p1) : Int32).toNatClampNeg (mt + (mdl (p1 : Int32).toNatClampNeg)))))), (bwl, .inl (G.2 2, 84, .inl (upd wl (((21 * hd) + p1) : Int32).toNatClampNeg (vp_nar .boolean 1))))] H := hP
          have hD : va_D A [(m0, .inr (8, [.int cod, .long mt, .int hd, .int mmd, .ref bkd, .ref btr, .ref bdl, .int typ, .int rd, .ref btp, .int giv, .ref bgv, .ref bse, .ref bro, .ref bop, .ref baw, .ref bsd, .ref bot, .ref bct, .ref bcr, .ref bud, .ref blo, .ref bwl, .int us, .ref bub, .ref bul, .ref bua])), (bkd, .inl (G.2 0, 21, .inl mkd)), (btr, .inl (G.2 0, 21, .inl mtr)), (bdl, .inl (G.2 1, 21, .inr (.inl mdl))), (bop, .inl (G.2 0, 4, .inl opv)), (baw, .inl (G.2 0, 4, .inl (upd aw (hd : Int32).toNatClampNeg 0))), (bsd, .inl (G.2 0, 4, .inl sd)), (bud, .inl (G.2 0, 84, .inl (upd (upd ud (((21 * hd) + p1) : Int32).toNatClampNeg ((ud (((21 * hd) + p1) : Int32).toNatClampNeg) + 1)) (((21 * hd) + p1) : Int32).toNatClampNeg 0))), (blo, .inl (G.2 1, 84, .inr (.inl (vp_updL lo (((21 * hd) + p1) : Int32).toNatClampNeg (mt + (mdl (p1 : Int32).toNatClampNeg)))))), (bwl, .inl (G.2 2, 84, .inl (upd wl (((21 * hd) + p1) : Int32).toNatClampNeg (vp_nar .boolean 1))))] := hD
          refine lv_bipush (v := (-54)) hx hb dX6_came_147 (by decide) ?_
          exact W.iret (v := (-54)) hx hb hr (fun t ht hW => ⟨⟨(-54), (opv, (upd aw (hd : Int32).toNatClampNeg 0), (upd (upd ud (((21 * hd) + p1) : Int32).toNatClampNeg ((ud (((21 * hd) + p1) : Int32).toNatClampNeg) + 1)) (((21 * hd) + p1) : Int32).toNatClampNeg 0), (vp_updL lo (((21 * hd) + p1) : Int32).toNatClampNeg (mt + (mdl (p1 : Int32).toNatClampNeg))), (upd wl (((21 * hd) + p1) : Int32).toNatClampNeg (vp_nar .boolean 1))), rfl, hF.symm, by rw [ht]; exact hP.sub [0, 1, 2, 3, 4, 5, 6, 7, 8, 9] rfl, hD.sub [0, 1, 2, 3, 4, 5, 6, 7, 8, 9] (by decide) rfl⟩, hS.F ht⟩) hS.2.2 dX6_came_149
        · have hF := if_f hF c_107
          refine lv_bipush (v := (-53)) hx hb dX6_came_110 (by decide) ?_
          exact W.iret (v := (-53)) hx hb hr (fun t ht hW => ⟨⟨(-53), (opv, (upd aw (hd : Int32).toNatClampNeg 0), (upd ud (((21 * hd) + p1) : Int32).toNatClampNeg ((ud (((21 * hd) + p1) : Int32).toNatClampNeg) + 1)), lo, wl), rfl, hF.symm, by rw [ht]; exact hP.sub [0, 1, 2, 3, 4, 5, 6, 7, 8, 9] rfl, hD.sub [0, 1, 2, 3, 4, 5, 6, 7, 8, 9] (by decide) rfl⟩, hS.F ht⟩) hS.2.2 dX6_came_112
      · have hF := if_t hF c_60
        refine lv_aload_n hx hb dX6_came_63 rfl (lv_at hl 1 rfl) ?_
        refine va_get (D := G.1) (ci := 8) (v := .ref bop) (C := RX6) (T := TX6) (N := 27) hx hb hts iX6 hown hK.1 hP 0 rfl rfl 14 (by decide) (hts (.fieldLink RX6 34 "RightsStepsModel" "open" "[I") (by decide +kernel)) (fun _ h9 => h9) rfl dX6_came_64 ?_
        refine lv_aload_n hx hb dX6_came_67 rfl (lv_at hl 1 rfl) ?_
        refine va_get (D := G.1) (ci := 8) (v := .int hd) (C := RX6) (T := TX6) (N := 27) hx hb hts iX6 hown hK.1 hP 0 rfl rfl 2 (by decide) (hts (.fieldLink RX6 96 "RightsStepsModel" "hand" "I") (by decide +kernel)) (fun _ h9 => h9) rfl dX6_came_68 ?_
        refine lv_iload_n hx hb dX6_came_71 rfl (lv_at hl 2 rfl) ?_
        refine va_iast (f := opv) hx hb hK.1 hP hD hS 4 0 rfl rfl hh dX6_came_72 (fun H locs hP hD hS => ?_)
        have hP : va_P G.1 vwCl [(m0, .inr (8, [.int cod, .long mt, .int hd, .int mmd, .ref bkd, .ref btr, .ref bdl, .int typ, .int rd, .ref btp, .int giv, .ref bgv, .ref bse, .ref bro, .ref bop, .ref baw, .ref bsd, .ref bot, .ref bct, .ref bcr, .ref bud, .ref blo, .ref bwl, .int us, .ref bub, .ref bul, .ref bua])), (bkd, .inl (G.2 0, 21, .inl mkd)), (btr, .inl (G.2 0, 21, .inl mtr)), (bdl, .inl (G.2 1, 21, .inr (.inl mdl))), (bop, .inl (G.2 0, 4, .inl (upd opv (hd : Int32).toNatClampNeg p1))), (baw, .inl (G.2 0, 4, .inl (upd aw (hd : Int32).toNatClampNeg 0))), (bsd, .inl (G.2 0, 4, .inl sd)), (bud, .inl (G.2 0, 84, .inl ud)), (blo, .inl (G.2 1, 84, .inr (.inl lo))), (bwl, .inl (G.2 2, 84, .inl wl))] H := hP
        have hD : va_D A [(m0, .inr (8, [.int cod, .long mt, .int hd, .int mmd, .ref bkd, .ref btr, .ref bdl, .int typ, .int rd, .ref btp, .int giv, .ref bgv, .ref bse, .ref bro, .ref bop, .ref baw, .ref bsd, .ref bot, .ref bct, .ref bcr, .ref bud, .ref blo, .ref bwl, .int us, .ref bub, .ref bul, .ref bua])), (bkd, .inl (G.2 0, 21, .inl mkd)), (btr, .inl (G.2 0, 21, .inl mtr)), (bdl, .inl (G.2 1, 21, .inr (.inl mdl))), (bop, .inl (G.2 0, 4, .inl (upd opv (hd : Int32).toNatClampNeg p1))), (baw, .inl (G.2 0, 4, .inl (upd aw (hd : Int32).toNatClampNeg 0))), (bsd, .inl (G.2 0, 4, .inl sd)), (bud, .inl (G.2 0, 84, .inl ud)), (blo, .inl (G.2 1, 84, .inr (.inl lo))), (bwl, .inl (G.2 2, 84, .inl wl))] := hD
        refine lv_aload_n hx hb dX6_came_73 rfl (lv_at hl 1 rfl) ?_
        refine va_get (D := G.1) (ci := 8) (v := .ref bud) (C := RX6) (T := TX6) (N := 27) hx hb hts iX6 hown hK.1 hP 0 rfl rfl 20 (by decide) (hts (.fieldLink RX6 52 "RightsStepsModel" "used" "[I") (by decide +kernel)) (fun _ h9 => h9) rfl dX6_came_74 ?_
        refine lv_iload hx hb dX6_came_77 (lv_at hl 0 rfl) ?_
        refine lv_iconst (v := 0) hx hb dX6_came_79 (by decide) ?_
        refine va_iast (f := ud) hx hb hK.1 hP hD hS 7 0 rfl rfl (in_84 hh hn) dX6_came_80 (fun H locs hP hD hS => ?_)
        have hP : va_P G.1 vwCl [(m0, .inr (8, [.int cod, .long mt, .int hd, .int mmd, .ref bkd, .ref btr, .ref bdl, .int typ, .int rd, .ref btp, .int giv, .ref bgv, .ref bse, .ref bro, .ref bop, .ref baw, .ref bsd, .ref bot, .ref bct, .ref bcr, .ref bud, .ref blo, .ref bwl, .int us, .ref bub, .ref bul, .ref bua])), (bkd, .inl (G.2 0, 21, .inl mkd)), (btr, .inl (G.2 0, 21, .inl mtr)), (bdl, .inl (G.2 1, 21, .inr (.inl mdl))), (bop, .inl (G.2 0, 4, .inl (upd opv (hd : Int32).toNatClampNeg p1))), (baw, .inl (G.2 0, 4, .inl (upd aw (hd : Int32).toNatClampNeg 0))), (bsd, .inl (G.2 0, 4, .inl sd)), (bud, .inl (G.2 0, 84, .inl (upd ud (((21 * hd) + p1) : Int32).toNatClampNeg 0))), (blo, .inl (G.2 1, 84, .inr (.inl lo))), (bwl, .inl (G.2 2, 84, .inl wl))] H := hP
        have hD : va_D A [(m0, .inr (8, [.int cod, .long mt, .int hd, .int mmd, .ref bkd, .ref btr, .ref bdl, .int typ, .int rd, .ref btp, .int giv, .ref bgv, .ref bse, .ref bro, .ref bop, .ref baw, .ref bsd, .ref bot, .ref bct, .ref bcr, .ref bud, .ref blo, .ref bwl, .int us, .ref bub, .ref bul, .ref bua])), (bkd, .inl (G.2 0, 21, .inl mkd)), (btr, .inl (G.2 0, 21, .inl mtr)), (bdl, .inl (G.2 1, 21, .inr (.inl mdl))), (bop, .inl (G.2 0, 4, .inl (upd opv (hd : Int32).toNatClampNeg p1))), (baw, .inl (G.2 0, 4, .inl (upd aw (hd : Int32).toNatClampNeg 0))), (bsd, .inl (G.2 0, 4, .inl sd)), (bud, .inl (G.2 0, 84, .inl (upd ud (((21 * hd) + p1) : Int32).toNatClampNeg 0))), (blo, .inl (G.2 1, 84, .inr (.inl lo))), (bwl, .inl (G.2 2, 84, .inl wl))] := hD
        refine lv_iconst (v := 1) hx hb dX6_came_81 (by decide) ?_
        exact W.iret (v := 1) hx hb hr (fun t ht hW => ⟨⟨1, ((upd opv (hd : Int32).toNatClampNeg p1), (upd aw (hd : Int32).toNatClampNeg 0), (upd ud (((21 * hd) + p1) : Int32).toNatClampNeg 0), lo, wl), rfl, hF.symm, by rw [ht]; exact hP.sub [0, 1, 2, 3, 4, 5, 6, 7, 8, 9] rfl, hD.sub [0, 1, 2, 3, 4, 5, 6, 7, 8, 9] (by decide) rfl⟩, hS.F ht⟩) hS.2.2 dX6_came_82
    · have hF := if_f hF c_18
      refine lv_bipush (v := (-36)) hx hb dX6_came_21 (by decide) ?_
      exact W.iret (v := (-36)) hx hb hr (fun t ht hW => ⟨⟨(-36), (opv, aw, ud, lo, wl), rfl, hF.symm, by rw [ht]; exact hP.sub [0, 1, 2, 3, 4, 5, 6, 7, 8, 9] rfl, hD.sub [0, 1, 2, 3, 4, 5, 6, 7, 8, 9] (by decide) rfl⟩, hS.F ht⟩) hS.2.2 dX6_came_23
  · have hF := if_f hF c_2
    refine lv_bipush (v := (-19)) hx hb dX6_came_5 (by decide) ?_
    exact W.iret (v := (-19)) hx hb hr (fun t ht hW => ⟨⟨(-19), (opv, aw, ud, lo, wl), rfl, hF.symm, by rw [ht]; exact hP.sub [0, 1, 2, 3, 4, 5, 6, 7, 8, 9] rfl, hD.sub [0, 1, 2, 3, 4, 5, 6, 7, 8, 9] (by decide) rfl⟩, hS.F ht⟩) hS.2.2 dX6_came_7

def F_X6_seed (cod : Int32) (mt : Int64) (hd : Int32) (mmd : Int32) (typ : Int32) (rd : Int32) (giv : Int32) (us : Int32) (mtr : Nat → Int32) (tp : Nat → Int32) (gv : Nat → Int32) (se : Nat → Int32) (ro : Nat → Int64) (opv : Nat → Int32) (aw : Nat → Int32) (sd : Nat → Int32) (ot : Nat → Int32) (lo : Nat → Int64) (ub : Nat → Int32) (ul : Nat → Int32) (ua : Nat → Int32) (p1 : Int32) (p2 : Int64) : Int32 × Int32 × Int64 × Int32 × Int32 × Int32 × (Nat → Int32) × (Nat → Int32) × (Nat → Int32) × (Nat → Int32) × (Nat → Int32) × (Nat → Int32) × (Nat → Int32) :=
  (if (F_X6_isMade 0 mt hd mmd typ rd giv us mtr p1) = 0 then ((-1), (0, mt, rd, giv, us, gv, aw, sd, ot, ub, ul, ua)) else (if (lg_cmp p2 mt) < 0 then ((-2), (0, mt, rd, giv, us, gv, aw, sd, ot, ub, ul, ua)) else (if (lg_cmp p2 1152921504606846976) ≤ 0 then (lz2 (F_X6_asked 0 p2 hd mmd typ rd giv us tp gv se ro opv aw sd ot lo p1) (fun r1 u1 => (lz2 (F_X6_note 0 p2 hd mmd typ u1.1 u1.2.1 us ub ul ua p1 r1) (fun r2 u2 => (r2, (0, p2, u1.1, u1.2.1, u2.1, u1.2.2.1, u1.2.2.2.1, u1.2.2.2.2.1, u1.2.2.2.2.2, u2.2.1, u2.2.2.1, u2.2.2.2)))))) else ((-2), (0, mt, rd, giv, us, gv, aw, sd, ot, ub, ul, ua)))))
set_option maxHeartbeats 4000000 in
set_option maxRecDepth 100000 in
theorem c_X6_seed (l : Launch) (G : gG) (m0 btr btp bgv bse bro bop baw bsd bot blo bub bul bua bkd bdl bct bcr bud bwl : Nat) (sz : Nat) (cod : Int32) (mt : Int64) (hd : Int32) (mmd : Int32) (typ : Int32) (rd : Int32) (giv : Int32) (us : Int32) (mtr : Nat → Int32) (tp : Nat → Int32) (gv : Nat → Int32) (se : Nat → Int32) (ro : Nat → Int64) (opv : Nat → Int32) (aw : Nat → Int32) (sd : Nat → Int32) (ot : Nat → Int32) (lo : Nat → Int64) (ub : Nat → Int32) (ul : Nat → Int32) (ua : Nat → Int32) (p1 : Int32) (p2 : Int64) (hh : vp_in hd 4) (ht : vp_in typ 2000) (hrd : vp_in rd (typ.toNatClampNeg + 1)) (hg : vp_in giv 2000) (hu : ¬ us < 0) : Met l yX6_seed wsX6_seed ({ frames := 2, cells := 0, slots := 0, locals := 45 }) (va_Pc [.ref m0, .int p1, .long p2] (pR G [(m0, .inr (8, [.int cod, .long mt, .int hd, .int mmd, .ref bkd, .ref btr, .ref bdl, .int typ, .int rd, .ref btp, .int giv, .ref bgv, .ref bse, .ref bro, .ref bop, .ref baw, .ref bsd, .ref bot, .ref bct, .ref bcr, .ref bud, .ref blo, .ref bwl, .int us, .ref bub, .ref bul, .ref bua])), (btr, .inl (G.2 0, 21, .inl mtr)), (btp, .inl (G.2 0, 2000, .inl tp)), (bgv, .inl (G.2 0, 2000, .inl gv)), (bse, .inl (G.2 0, 4, .inl se)), (bro, .inl (G.2 1, 4, .inr (.inl ro))), (bop, .inl (G.2 0, 4, .inl opv)), (baw, .inl (G.2 0, 4, .inl aw)), (bsd, .inl (G.2 0, 4, .inl sd)), (bot, .inl (G.2 0, 4, .inl ot)), (blo, .inl (G.2 1, 84, .inr (.inl lo))), (bub, .inl (G.2 0, 300, .inl ub)), (bul, .inl (G.2 0, 300, .inl ul)), (bua, .inl (G.2 0, 300, .inl ua))] sz)) (va_Qi (fun (r : Int32) (u : Int32 × Int64 × Int32 × Int32 × Int32 × (Nat → Int32) × (Nat → Int32) × (Nat → Int32) × (Nat → Int32) × (Nat → Int32) × (Nat → Int32) × (Nat → Int32)) => (r, u) = F_X6_seed cod mt hd mmd typ rd giv us mtr tp gv se ro opv aw sd ot lo ub ul ua p1 p2) (fun u t => pO G [(m0, .inr (8, [.int u.1, .long u.2.1, .int hd, .int mmd, .ref bkd, .ref btr, .ref bdl, .int typ, .int u.2.2.1, .ref btp, .int u.2.2.2.1, .ref bgv, .ref bse, .ref bro, .ref bop, .ref baw, .ref bsd, .ref bot, .ref bct, .ref bcr, .ref bud, .ref blo, .ref bwl, .int u.2.2.2.2.1, .ref bub, .ref bul, .ref bua])), (btr, .inl (G.2 0, 21, .inl mtr)), (btp, .inl (G.2 0, 2000, .inl tp)), (bgv, .inl (G.2 0, 2000, .inl u.2.2.2.2.2.1)), (bse, .inl (G.2 0, 4, .inl se)), (bro, .inl (G.2 1, 4, .inr (.inl ro))), (bop, .inl (G.2 0, 4, .inl opv)), (baw, .inl (G.2 0, 4, .inl u.2.2.2.2.2.2.1)), (bsd, .inl (G.2 0, 4, .inl u.2.2.2.2.2.2.2.1)), (bot, .inl (G.2 0, 4, .inl u.2.2.2.2.2.2.2.2.1)), (blo, .inl (G.2 1, 84, .inr (.inl lo))), (bub, .inl (G.2 0, 300, .inl u.2.2.2.2.2.2.2.2.2.1)), (bul, .inl (G.2 0, 300, .inl u.2.2.2.2.2.2.2.2.2.2.1)), (bua, .inl (G.2 0, 300, .inl u.2.2.2.2.2.2.2.2.2.2.2))] (va_A [(m0, .inr (8, [.int cod, .long mt, .int hd, .int mmd, .ref bkd, .ref btr, .ref bdl, .int typ, .int rd, .ref btp, .int giv, .ref bgv, .ref bse, .ref bro, .ref bop, .ref baw, .ref bsd, .ref bot, .ref bct, .ref bcr, .ref bud, .ref blo, .ref bwl, .int us, .ref bub, .ref bul, .ref bua])), (btr, .inl (G.2 0, 21, .inl mtr)), (btp, .inl (G.2 0, 2000, .inl tp)), (bgv, .inl (G.2 0, 2000, .inl gv)), (bse, .inl (G.2 0, 4, .inl se)), (bro, .inl (G.2 1, 4, .inr (.inl ro))), (bop, .inl (G.2 0, 4, .inl opv)), (baw, .inl (G.2 0, 4, .inl aw)), (bsd, .inl (G.2 0, 4, .inl sd)), (bot, .inl (G.2 0, 4, .inl ot)), (blo, .inl (G.2 1, 84, .inr (.inl lo))), (bub, .inl (G.2 0, 300, .inl ub)), (bul, .inl (G.2 0, 300, .inl ul)), (bua, .inl (G.2 0, 300, .inl ua))] sz) t) (va_A [(m0, .inr (8, [.int cod, .long mt, .int hd, .int mmd, .ref bkd, .ref btr, .ref bdl, .int typ, .int rd, .ref btp, .int giv, .ref bgv, .ref bse, .ref bro, .ref bop, .ref baw, .ref bsd, .ref bot, .ref bct, .ref bcr, .ref bud, .ref blo, .ref bwl, .int us, .ref bub, .ref bul, .ref bua])), (btr, .inl (G.2 0, 21, .inl mtr)), (btp, .inl (G.2 0, 2000, .inl tp)), (bgv, .inl (G.2 0, 2000, .inl gv)), (bse, .inl (G.2 0, 4, .inl se)), (bro, .inl (G.2 1, 4, .inr (.inl ro))), (bop, .inl (G.2 0, 4, .inl opv)), (baw, .inl (G.2 0, 4, .inl aw)), (bsd, .inl (G.2 0, 4, .inl sd)), (bot, .inl (G.2 0, 4, .inl ot)), (blo, .inl (G.2 1, 84, .inr (.inl lo))), (bub, .inl (G.2 0, 300, .inl ub)), (bul, .inl (G.2 0, 300, .inl ul)), (bua, .inl (G.2 0, 300, .inl ua))] sz)) 0 0 (va_A [(m0, .inr (8, [.int cod, .long mt, .int hd, .int mmd, .ref bkd, .ref btr, .ref bdl, .int typ, .int rd, .ref btp, .int giv, .ref bgv, .ref bse, .ref bro, .ref bop, .ref baw, .ref bsd, .ref bot, .ref bct, .ref bcr, .ref bud, .ref blo, .ref bwl, .int us, .ref bub, .ref bul, .ref bua])), (btr, .inl (G.2 0, 21, .inl mtr)), (btp, .inl (G.2 0, 2000, .inl tp)), (bgv, .inl (G.2 0, 2000, .inl gv)), (bse, .inl (G.2 0, 4, .inl se)), (bro, .inl (G.2 1, 4, .inr (.inl ro))), (bop, .inl (G.2 0, 4, .inl opv)), (baw, .inl (G.2 0, 4, .inl aw)), (bsd, .inl (G.2 0, 4, .inl sd)), (bot, .inl (G.2 0, 4, .inl ot)), (blo, .inl (G.2 1, 84, .inr (.inl lo))), (bub, .inl (G.2 0, 300, .inl ub)), (bul, .inl (G.2 0, 300, .inl ul)), (bua, .inl (G.2 0, 300, .inl ua))] sz) := by
  refine Met.ofW (cc := cX6_seed) (maxL := 4) (ret := (some .int)) (by decide) rfl ?_
  intro p e s m args below meth c s₁ B hml hv
  obtain ⟨rfl, hsz, hP, hK, hD0⟩ := hv
  have hx := B.exec
  have hb := B.bytes
  have hr := B.returns
  have hts := atoms_spec (ws := wsX6_seed) B.pre
  have hown : s.vm.findClass RX6 = some m.cls := findClass_of_methodNamed B.named
  have hlocks := B.notSynchronized
  subst hsz
  have iX6 : ∀ w ∈ wsX60, w ∈ wsX6_seed := by decide +kernel
  have hD := hD0.self (sz := s.heap.size)
  generalize hAe : va_A [(m0, .inr (8, [.int cod, .long mt, .int hd, .int mmd, .ref bkd, .ref btr, .ref bdl, .int typ, .int rd, .ref btp, .int giv, .ref bgv, .ref bse, .ref bro, .ref bop, .ref baw, .ref bsd, .ref bot, .ref bct, .ref bcr, .ref bud, .ref blo, .ref bwl, .int us, .ref bub, .ref bul, .ref bua])), (btr, .inl (G.2 0, 21, .inl mtr)), (btp, .inl (G.2 0, 2000, .inl tp)), (bgv, .inl (G.2 0, 2000, .inl gv)), (bse, .inl (G.2 0, 4, .inl se)), (bro, .inl (G.2 1, 4, .inr (.inl ro))), (bop, .inl (G.2 0, 4, .inl opv)), (baw, .inl (G.2 0, 4, .inl aw)), (bsd, .inl (G.2 0, 4, .inl sd)), (bot, .inl (G.2 0, 4, .inl ot)), (blo, .inl (G.2 1, 84, .inr (.inl lo))), (bub, .inl (G.2 0, 300, .inl ub)), (bul, .inl (G.2 0, 300, .inl ul)), (bua, .inl (G.2 0, 300, .inl ua))] s.heap.size = A at hD ⊢
  have hA : ∀ q : Nat, s.heap.size ≤ q → A q := fun q h => by rw [← hAe]; exact Or.inr h
  have hS : va_S A s.heap s.heap [] := va_S.rf
  have hP : va_P G.1 vwCl [(m0, .inr (8, [.int cod, .long mt, .int hd, .int mmd, .ref bkd, .ref btr, .ref bdl, .int typ, .int rd, .ref btp, .int giv, .ref bgv, .ref bse, .ref bro, .ref bop, .ref baw, .ref bsd, .ref bot, .ref bct, .ref bcr, .ref bud, .ref blo, .ref bwl, .int us, .ref bub, .ref bul, .ref bua])), (btr, .inl (G.2 0, 21, .inl mtr)), (btp, .inl (G.2 0, 2000, .inl tp)), (bgv, .inl (G.2 0, 2000, .inl gv)), (bse, .inl (G.2 0, 4, .inl se)), (bro, .inl (G.2 1, 4, .inr (.inl ro))), (bop, .inl (G.2 0, 4, .inl opv)), (baw, .inl (G.2 0, 4, .inl aw)), (bsd, .inl (G.2 0, 4, .inl sd)), (bot, .inl (G.2 0, 4, .inl ot)), (blo, .inl (G.2 1, 84, .inr (.inl lo))), (bub, .inl (G.2 0, 300, .inl ub)), (bul, .inl (G.2 0, 300, .inl ul)), (bua, .inl (G.2 0, 300, .inl ua))] s.heap := hP
  have hl := lv_entry ([.ref m0, .int p1, .long p2]) (n := 4) (Nat.le_of_ble_eq_true rfl)
  rw [lg_entry_eq]
  generalize (lg_sl ([.ref m0, .int p1, .long p2]) ++ List.replicate (4 - (lg_sl ([.ref m0, .int p1, .long p2])).length) Slot.unset).toArray = ls at hl ⊢
  have hl : lv_has ls 4 [(0, .ref m0), (1, .int p1), (2, .long p2)] := hl
  have hF : F_X6_seed cod mt hd mmd typ rd giv us mtr tp gv se ro opv aw sd ot lo ub ul ua p1 p2 = F_X6_seed cod mt hd mmd typ rd giv us mtr tp gv se ro opv aw sd ot lo ub ul ua p1 p2 := rfl
  refine lv_aload_n hx hb dX6_seed_0 rfl (lv_at hl 0 rfl) ?_
  refine lv_iconst (v := 0) hx hb dX6_seed_1 (by decide) ?_
  refine va_put (D := G.1) (ci := 8) (v := .int 0) (ty := .int) (C := RX6) (T := TX6) (N := 27) hx hb hts iX6 tyX6 tyX6_ok nmX6 hown hK.1 hP hD hS 0 rfl rfl 0 (by decide) (hts (.fieldLink RX6 71 "RightsStepsModel" "code" "I") (by decide +kernel)) (fun _ h9 => h9) rfl (by decide +kernel) rfl rfl (Nat.le_of_ble_eq_true rfl) dX6_seed_2 (fun H locs hP hD hS => ?_)
  have hP : va_P G.1 vwCl [(m0, .inr (8, [.int 0, .long mt, .int hd, .int mmd, .ref bkd, .ref btr, .ref bdl, .int typ, .int rd, .ref btp, .int giv, .ref bgv, .ref bse, .ref bro, .ref bop, .ref baw, .ref bsd, .ref bot, .ref bct, .ref bcr, .ref bud, .ref blo, .ref bwl, .int us, .ref bub, .ref bul, .ref bua])), (btr, .inl (G.2 0, 21, .inl mtr)), (btp, .inl (G.2 0, 2000, .inl tp)), (bgv, .inl (G.2 0, 2000, .inl gv)), (bse, .inl (G.2 0, 4, .inl se)), (bro, .inl (G.2 1, 4, .inr (.inl ro))), (bop, .inl (G.2 0, 4, .inl opv)), (baw, .inl (G.2 0, 4, .inl aw)), (bsd, .inl (G.2 0, 4, .inl sd)), (bot, .inl (G.2 0, 4, .inl ot)), (blo, .inl (G.2 1, 84, .inr (.inl lo))), (bub, .inl (G.2 0, 300, .inl ub)), (bul, .inl (G.2 0, 300, .inl ul)), (bua, .inl (G.2 0, 300, .inl ua))] H := hP
  have hD : va_D A [(m0, .inr (8, [.int 0, .long mt, .int hd, .int mmd, .ref bkd, .ref btr, .ref bdl, .int typ, .int rd, .ref btp, .int giv, .ref bgv, .ref bse, .ref bro, .ref bop, .ref baw, .ref bsd, .ref bot, .ref bct, .ref bcr, .ref bud, .ref blo, .ref bwl, .int us, .ref bub, .ref bul, .ref bua])), (btr, .inl (G.2 0, 21, .inl mtr)), (btp, .inl (G.2 0, 2000, .inl tp)), (bgv, .inl (G.2 0, 2000, .inl gv)), (bse, .inl (G.2 0, 4, .inl se)), (bro, .inl (G.2 1, 4, .inr (.inl ro))), (bop, .inl (G.2 0, 4, .inl opv)), (baw, .inl (G.2 0, 4, .inl aw)), (bsd, .inl (G.2 0, 4, .inl sd)), (bot, .inl (G.2 0, 4, .inl ot)), (blo, .inl (G.2 1, 84, .inr (.inl lo))), (bub, .inl (G.2 0, 300, .inl ub)), (bul, .inl (G.2 0, 300, .inl ul)), (bua, .inl (G.2 0, 300, .inl ua))] := hD
  refine lv_aload_n hx hb dX6_seed_5 rfl (lv_at hl 0 rfl) ?_
  refine lv_iload_n hx hb dX6_seed_6 rfl (lv_at hl 1 rfl) ?_
  have hPc := hP.sub (ws' := [(m0, .inr (8, [.int 0, .long mt, .int hd, .int mmd, .ref bkd, .ref btr, .ref bdl, .int typ, .int rd, .ref btp, .int giv, .ref bgv, .ref bse, .ref bro, .ref bop, .ref baw, .ref bsd, .ref bot, .ref bct, .ref bcr, .ref bud, .ref blo, .ref bwl, .int us, .ref bub, .ref bul, .ref bua])), (btr, .inl (G.2 0, 21, .inl mtr))]) [0, 1] rfl
  have hDc := hD.sub (ws' := [(m0, .inr (8, [.int 0, .long mt, .int hd, .int mmd, .ref bkd, .ref btr, .ref bdl, .int typ, .int rd, .ref btp, .int giv, .ref bgv, .ref bse, .ref bro, .ref bop, .ref baw, .ref bsd, .ref bot, .ref bct, .ref bcr, .ref bud, .ref blo, .ref bwl, .int us, .ref bub, .ref bul, .ref bua])), (btr, .inl (G.2 0, 21, .inl mtr))]) [0, 1] (by decide) rfl
  refine pu_call (va_runV (As := [.int p1]) (rest := []) ⟨hx, hb, hml, hown, hts⟩ (c_X6_isMade l G m0 btr bkd bdl btp bgv bse bro bop baw bsd bot bct bcr bud blo bwl bub bul bua _ 0 mt hd mmd typ rd giv us mtr p1) (cwV 1 hts gX6_seed_X6_isMade rfl rfl rfl (by decide +kernel) ⟨Nat.le_of_ble_eq_true rfl, Nat.le_of_ble_eq_true rfl⟩) (pR_V hK hPc hDc (q0 := 0) rfl rfl) rfl rfl hl.1 rfl (lv_room (Nat.le_of_ble_eq_true rfl)) dX6_seed_7 ⟨Nat.le_of_ble_eq_true rfl, Nat.le_of_ble_eq_true rfl⟩) ?_
  refine lv_if_ne (tgt := 15) hx hb dX6_seed_10 (by decide) (fun c_10 => ?_) (fun c_10 => ?_)
  · have hF := if_f hF c_10
    refine lv_lload_n hx hb dX6_seed_15 rfl (lv_at hl 2 rfl) ?_
    refine lv_aload_n hx hb dX6_seed_16 rfl (lv_at hl 0 rfl) ?_
    refine va_get (D := G.1) (ci := 8) (v := .long mt) (C := RX6) (T := TX6) (N := 27) hx hb hts iX6 hown hK.1 hP 0 rfl rfl 1 (by decide) (hts (.fieldLink RX6 99 "RightsStepsModel" "time" "J") (by decide +kernel)) (fun _ h9 => h9) rfl dX6_seed_17 ?_
    refine W.lcmp hx hb dX6_seed_20 ?_
    refine lv_if_lt (tgt := 32) hx hb dX6_seed_21 (by decide) (fun c_21 => ?_) (fun c_21 => ?_)
    · have hF := if_t hF c_21
      refine lv_bipush (v := (-2)) hx hb dX6_seed_32 (by decide) ?_
      exact W.iret (v := (-2)) hx hb hr (fun t ht hW => ⟨⟨(-2), (0, mt, rd, giv, us, gv, aw, sd, ot, ub, ul, ua), rfl, hF.symm, by rw [ht]; exact hP.sub [0, 1, 2, 3, 4, 5, 6, 7, 8, 9, 10, 11, 12, 13] rfl, hD.sub [0, 1, 2, 3, 4, 5, 6, 7, 8, 9, 10, 11, 12, 13] (by decide) rfl⟩, hS.F ht⟩) hS.2.2 dX6_seed_34
    · have hF := if_f hF c_21
      refine lv_lload_n hx hb dX6_seed_24 rfl (lv_at hl 2 rfl) ?_
      refine lv_ldc2 (v := 1152921504606846976) hx hb hown (hts (.constantLong RX6 109 (1152921504606846976)) (by decide +kernel)) dX6_seed_25 ?_
      refine W.lcmp hx hb dX6_seed_28 ?_
      refine lv_if_le (tgt := 35) hx hb dX6_seed_29 (by decide) (fun c_29 => ?_) (fun c_29 => ?_)
      · have hF := if_t hF c_29
        refine lv_aload_n hx hb dX6_seed_35 rfl (lv_at hl 0 rfl) ?_
        refine lv_lload_n hx hb dX6_seed_36 rfl (lv_at hl 2 rfl) ?_
        refine va_put (D := G.1) (ci := 8) (v := .long p2) (ty := .long) (C := RX6) (T := TX6) (N := 27) hx hb hts iX6 tyX6 tyX6_ok nmX6 hown hK.1 hP hD hS 0 rfl rfl 1 (by decide) (hts (.fieldLink RX6 99 "RightsStepsModel" "time" "J") (by decide +kernel)) (fun _ h9 => h9) rfl (by decide +kernel) rfl rfl (Nat.le_of_ble_eq_true rfl) dX6_seed_37 (fun H locs hP hD hS => ?_)
        have hP : va_P G.1 vwCl [(m0, .inr (8, [.int 0, .long p2, .int hd, .int mmd, .ref bkd, .ref btr, .ref bdl, .int typ, .int rd, .ref btp, .int giv, .ref bgv, .ref bse, .ref bro, .ref bop, .ref baw, .ref bsd, .ref bot, .ref bct, .ref bcr, .ref bud, .ref blo, .ref bwl, .int us, .ref bub, .ref bul, .ref bua])), (btr, .inl (G.2 0, 21, .inl mtr)), (btp, .inl (G.2 0, 2000, .inl tp)), (bgv, .inl (G.2 0, 2000, .inl gv)), (bse, .inl (G.2 0, 4, .inl se)), (bro, .inl (G.2 1, 4, .inr (.inl ro))), (bop, .inl (G.2 0, 4, .inl opv)), (baw, .inl (G.2 0, 4, .inl aw)), (bsd, .inl (G.2 0, 4, .inl sd)), (bot, .inl (G.2 0, 4, .inl ot)), (blo, .inl (G.2 1, 84, .inr (.inl lo))), (bub, .inl (G.2 0, 300, .inl ub)), (bul, .inl (G.2 0, 300, .inl ul)), (bua, .inl (G.2 0, 300, .inl ua))] H := hP
        have hD : va_D A [(m0, .inr (8, [.int 0, .long p2, .int hd, .int mmd, .ref bkd, .ref btr, .ref bdl, .int typ, .int rd, .ref btp, .int giv, .ref bgv, .ref bse, .ref bro, .ref bop, .ref baw, .ref bsd, .ref bot, .ref bct, .ref bcr, .ref bud, .ref blo, .ref bwl, .int us, .ref bub, .ref bul, .ref bua])), (btr, .inl (G.2 0, 21, .inl mtr)), (btp, .inl (G.2 0, 2000, .inl tp)), (bgv, .inl (G.2 0, 2000, .inl gv)), (bse, .inl (G.2 0, 4, .inl se)), (bro, .inl (G.2 1, 4, .inr (.inl ro))), (bop, .inl (G.2 0, 4, .inl opv)), (baw, .inl (G.2 0, 4, .inl aw)), (bsd, .inl (G.2 0, 4, .inl sd)), (bot, .inl (G.2 0, 4, .inl ot)), (blo, .inl (G.2 1, 84, .inr (.inl lo))), (bub, .inl (G.2 0, 300, .inl ub)), (bul, .inl (G.2 0, 300, .inl ul)), (bua, .inl (G.2 0, 300, .inl ua))] := hD
        refine lv_aload_n hx hb dX6_seed_40 rfl (lv_at hl 0 rfl) ?_
        refine lv_iload_n hx hb dX6_seed_41 rfl (lv_at hl 1 rfl) ?_
        refine lv_aload_n hx hb dX6_seed_42 rfl (lv_at hl 0 rfl) ?_
        refine lv_iload_n hx hb dX6_seed_43 rfl (lv_at hl 1 rfl) ?_
        have hPc := hP.sub (ws' := [(m0, .inr (8, [.int 0, .long p2, .int hd, .int mmd, .ref bkd, .ref btr, .ref bdl, .int typ, .int rd, .ref btp, .int giv, .ref bgv, .ref bse, .ref bro, .ref bop, .ref baw, .ref bsd, .ref bot, .ref bct, .ref bcr, .ref bud, .ref blo, .ref bwl, .int us, .ref bub, .ref bul, .ref bua])), (btp, .inl (G.2 0, 2000, .inl tp)), (bgv, .inl (G.2 0, 2000, .inl gv)), (bse, .inl (G.2 0, 4, .inl se)), (bro, .inl (G.2 1, 4, .inr (.inl ro))), (bop, .inl (G.2 0, 4, .inl opv)), (baw, .inl (G.2 0, 4, .inl aw)), (bsd, .inl (G.2 0, 4, .inl sd)), (bot, .inl (G.2 0, 4, .inl ot)), (blo, .inl (G.2 1, 84, .inr (.inl lo)))]) [0, 2, 3, 4, 5, 6, 7, 8, 9, 10] rfl
        have hDc := hD.sub (ws' := [(m0, .inr (8, [.int 0, .long p2, .int hd, .int mmd, .ref bkd, .ref btr, .ref bdl, .int typ, .int rd, .ref btp, .int giv, .ref bgv, .ref bse, .ref bro, .ref bop, .ref baw, .ref bsd, .ref bot, .ref bct, .ref bcr, .ref bud, .ref blo, .ref bwl, .int us, .ref bub, .ref bul, .ref bua])), (btp, .inl (G.2 0, 2000, .inl tp)), (bgv, .inl (G.2 0, 2000, .inl gv)), (bse, .inl (G.2 0, 4, .inl se)), (bro, .inl (G.2 1, 4, .inr (.inl ro))), (bop, .inl (G.2 0, 4, .inl opv)), (baw, .inl (G.2 0, 4, .inl aw)), (bsd, .inl (G.2 0, 4, .inl sd)), (bot, .inl (G.2 0, 4, .inl ot)), (blo, .inl (G.2 1, 84, .inr (.inl lo)))]) [0, 2, 3, 4, 5, 6, 7, 8, 9, 10] (by decide) rfl
        refine cl_i (wr := [(btr, .inl (G.2 0, 21, .inl mtr)), (bub, .inl (G.2 0, 300, .inl ub)), (bul, .inl (G.2 0, 300, .inl ul)), (bua, .inl (G.2 0, 300, .inl ua))]) (va_runV (As := [.int p1]) (rest := [.int p1, .ref m0]) ⟨hx, hb, hml, hown, hts⟩ (c_X6_asked l G m0 btp bgv bse bro bop baw bsd bot blo bkd btr bdl bct bcr bud bwl bub bul bua _ 0 p2 hd mmd typ rd giv us tp gv se ro opv aw sd ot lo p1 hh (made_in c_10) ht hrd hg) (cwV 1 hts gX6_seed_X6_asked rfl rfl rfl (by decide +kernel) ⟨Nat.le_of_ble_eq_true rfl, Nat.le_of_ble_eq_true rfl⟩) (pR_V hK hPc hDc (q0 := 0) rfl rfl) rfl rfl hl.1 rfl (lv_room (Nat.le_of_ble_eq_true rfl)) dX6_seed_44 ⟨Nat.le_of_ble_eq_true rfl, Nat.le_of_ble_eq_true rfl⟩) hP hD hS hA [0, 2, 3, 4, 5, 6, 7, 8, 9, 10] [1, 11, 12, 13] rfl rfl (by decide) (by decide) (fun r1 u1 ez1 H locs hP hD hS => ?_)
        have hP : va_P G.1 vwCl [(btr, .inl (G.2 0, 21, .inl mtr)), (bub, .inl (G.2 0, 300, .inl ub)), (bul, .inl (G.2 0, 300, .inl ul)), (bua, .inl (G.2 0, 300, .inl ua)), (m0, .inr (8, [.int 0, .long p2, .int hd, .int mmd, .ref bkd, .ref btr, .ref bdl, .int typ, .int u1.1, .ref btp, .int u1.2.1, .ref bgv, .ref bse, .ref bro, .ref bop, .ref baw, .ref bsd, .ref bot, .ref bct, .ref bcr, .ref bud, .ref blo, .ref bwl, .int us, .ref bub, .ref bul, .ref bua])), (btp, .inl (G.2 0, 2000, .inl tp)), (bgv, .inl (G.2 0, 2000, .inl u1.2.2.1)), (bse, .inl (G.2 0, 4, .inl se)), (bro, .inl (G.2 1, 4, .inr (.inl ro))), (bop, .inl (G.2 0, 4, .inl opv)), (baw, .inl (G.2 0, 4, .inl u1.2.2.2.1)), (bsd, .inl (G.2 0, 4, .inl u1.2.2.2.2.1)), (bot, .inl (G.2 0, 4, .inl u1.2.2.2.2.2)), (blo, .inl (G.2 1, 84, .inr (.inl lo)))] H := hP
        have hD : va_D A [(btr, .inl (G.2 0, 21, .inl mtr)), (bub, .inl (G.2 0, 300, .inl ub)), (bul, .inl (G.2 0, 300, .inl ul)), (bua, .inl (G.2 0, 300, .inl ua)), (m0, .inr (8, [.int 0, .long p2, .int hd, .int mmd, .ref bkd, .ref btr, .ref bdl, .int typ, .int u1.1, .ref btp, .int u1.2.1, .ref bgv, .ref bse, .ref bro, .ref bop, .ref baw, .ref bsd, .ref bot, .ref bct, .ref bcr, .ref bud, .ref blo, .ref bwl, .int us, .ref bub, .ref bul, .ref bua])), (btp, .inl (G.2 0, 2000, .inl tp)), (bgv, .inl (G.2 0, 2000, .inl u1.2.2.1)), (bse, .inl (G.2 0, 4, .inl se)), (bro, .inl (G.2 1, 4, .inr (.inl ro))), (bop, .inl (G.2 0, 4, .inl opv)), (baw, .inl (G.2 0, 4, .inl u1.2.2.2.1)), (bsd, .inl (G.2 0, 4, .inl u1.2.2.2.2.1)), (bot, .inl (G.2 0, 4, .inl u1.2.2.2.2.2)), (blo, .inl (G.2 1, 84, .inr (.inl lo)))] := hD
        have hF := lz2_e hF ez1
        have hPc := hP.sub (ws' := [(m0, .inr (8, [.int 0, .long p2, .int hd, .int mmd, .ref bkd, .ref btr, .ref bdl, .int typ, .int u1.1, .ref btp, .int u1.2.1, .ref bgv, .ref bse, .ref bro, .ref bop, .ref baw, .ref bsd, .ref bot, .ref bct, .ref bcr, .ref bud, .ref blo, .ref bwl, .int us, .ref bub, .ref bul, .ref bua])), (bub, .inl (G.2 0, 300, .inl ub)), (bul, .inl (G.2 0, 300, .inl ul)), (bua, .inl (G.2 0, 300, .inl ua))]) [4, 1, 2, 3] rfl
        have hDc := hD.sub (ws' := [(m0, .inr (8, [.int 0, .long p2, .int hd, .int mmd, .ref bkd, .ref btr, .ref bdl, .int typ, .int u1.1, .ref btp, .int u1.2.1, .ref bgv, .ref bse, .ref bro, .ref bop, .ref baw, .ref bsd, .ref bot, .ref bct, .ref bcr, .ref bud, .ref blo, .ref bwl, .int us, .ref bub, .ref bul, .ref bua])), (bub, .inl (G.2 0, 300, .inl ub)), (bul, .inl (G.2 0, 300, .inl ul)), (bua, .inl (G.2 0, 300, .inl ua))]) [4, 1, 2, 3] (by decide) rfl
        refine cl_i (wr := [(btr, .inl (G.2 0, 21, .inl mtr)), (btp, .inl (G.2 0, 2000, .inl tp)), (bgv, .inl (G.2 0, 2000, .inl u1.2.2.1)), (bse, .inl (G.2 0, 4, .inl se)), (bro, .inl (G.2 1, 4, .inr (.inl ro))), (bop, .inl (G.2 0, 4, .inl opv)), (baw, .inl (G.2 0, 4, .inl u1.2.2.2.1)), (bsd, .inl (G.2 0, 4, .inl u1.2.2.2.2.1)), (bot, .inl (G.2 0, 4, .inl u1.2.2.2.2.2)), (blo, .inl (G.2 1, 84, .inr (.inl lo)))]) (va_runV (As := [.int p1, .int r1]) (rest := []) ⟨hx, hb, hml, hown, hts⟩ (c_X6_note l G m0 bub bul bua bkd btr bdl btp bgv bse bro bop baw bsd bot bct bcr bud blo bwl _ 0 p2 hd mmd typ u1.1 u1.2.1 us ub ul ua p1 r1 hu) (cwV 2 hts gX6_seed_X6_note rfl rfl rfl (by decide +kernel) ⟨Nat.le_of_ble_eq_true rfl, Nat.le_of_ble_eq_true rfl⟩) (pR_V hK hPc hDc (q0 := 0) rfl rfl) rfl rfl hl.1 rfl (lv_room (Nat.le_of_ble_eq_true rfl)) dX6_seed_47 ⟨Nat.le_of_ble_eq_true rfl, Nat.le_of_ble_eq_true rfl⟩) hP hD hS hA [4, 1, 2, 3] [0, 5, 6, 7, 8, 9, 10, 11, 12, 13] rfl rfl (by decide) (by decide) (fun r2 u2 ez2 H locs hP hD hS => ?_)
        have hP : va_P G.1 vwCl [(btr, .inl (G.2 0, 21, .inl mtr)), (btp, .inl (G.2 0, 2000, .inl tp)), (bgv, .inl (G.2 0, 2000, .inl u1.2.2.1)), (bse, .inl (G.2 0, 4, .inl se)), (bro, .inl (G.2 1, 4, .inr (.inl ro))), (bop, .inl (G.2 0, 4, .inl opv)), (baw, .inl (G.2 0, 4, .inl u1.2.2.2.1)), (bsd, .inl (G.2 0, 4, .inl u1.2.2.2.2.1)), (bot, .inl (G.2 0, 4, .inl u1.2.2.2.2.2)), (blo, .inl (G.2 1, 84, .inr (.inl lo))), (m0, .inr (8, [.int 0, .long p2, .int hd, .int mmd, .ref bkd, .ref btr, .ref bdl, .int typ, .int u1.1, .ref btp, .int u1.2.1, .ref bgv, .ref bse, .ref bro, .ref bop, .ref baw, .ref bsd, .ref bot, .ref bct, .ref bcr, .ref bud, .ref blo, .ref bwl, .int u2.1, .ref bub, .ref bul, .ref bua])), (bub, .inl (G.2 0, 300, .inl u2.2.1)), (bul, .inl (G.2 0, 300, .inl u2.2.2.1)), (bua, .inl (G.2 0, 300, .inl u2.2.2.2))] H := hP
        have hD : va_D A [(btr, .inl (G.2 0, 21, .inl mtr)), (btp, .inl (G.2 0, 2000, .inl tp)), (bgv, .inl (G.2 0, 2000, .inl u1.2.2.1)), (bse, .inl (G.2 0, 4, .inl se)), (bro, .inl (G.2 1, 4, .inr (.inl ro))), (bop, .inl (G.2 0, 4, .inl opv)), (baw, .inl (G.2 0, 4, .inl u1.2.2.2.1)), (bsd, .inl (G.2 0, 4, .inl u1.2.2.2.2.1)), (bot, .inl (G.2 0, 4, .inl u1.2.2.2.2.2)), (blo, .inl (G.2 1, 84, .inr (.inl lo))), (m0, .inr (8, [.int 0, .long p2, .int hd, .int mmd, .ref bkd, .ref btr, .ref bdl, .int typ, .int u1.1, .ref btp, .int u1.2.1, .ref bgv, .ref bse, .ref bro, .ref bop, .ref baw, .ref bsd, .ref bot, .ref bct, .ref bcr, .ref bud, .ref blo, .ref bwl, .int u2.1, .ref bub, .ref bul, .ref bua])), (bub, .inl (G.2 0, 300, .inl u2.2.1)), (bul, .inl (G.2 0, 300, .inl u2.2.2.1)), (bua, .inl (G.2 0, 300, .inl u2.2.2.2))] := hD
        have hF := lz2_e hF ez2
        exact W.iret (v := r2) hx hb hr (fun t ht hW => ⟨⟨r2, (0, p2, u1.1, u1.2.1, u2.1, u1.2.2.1, u1.2.2.2.1, u1.2.2.2.2.1, u1.2.2.2.2.2, u2.2.1, u2.2.2.1, u2.2.2.2), rfl, hF.symm, by rw [ht]; exact hP.sub [10, 0, 1, 2, 3, 4, 5, 6, 7, 8, 9, 11, 12, 13] rfl, hD.sub [10, 0, 1, 2, 3, 4, 5, 6, 7, 8, 9, 11, 12, 13] (by decide) rfl⟩, hS.F ht⟩) hS.2.2 dX6_seed_50
      · have hF := if_f hF c_29
        refine lv_bipush (v := (-2)) hx hb dX6_seed_32 (by decide) ?_
        exact W.iret (v := (-2)) hx hb hr (fun t ht hW => ⟨⟨(-2), (0, mt, rd, giv, us, gv, aw, sd, ot, ub, ul, ua), rfl, hF.symm, by rw [ht]; exact hP.sub [0, 1, 2, 3, 4, 5, 6, 7, 8, 9, 10, 11, 12, 13] rfl, hD.sub [0, 1, 2, 3, 4, 5, 6, 7, 8, 9, 10, 11, 12, 13] (by decide) rfl⟩, hS.F ht⟩) hS.2.2 dX6_seed_34
  · have hF := if_t hF c_10
    refine lv_iconst (v := (-1)) hx hb dX6_seed_13 (by decide) ?_
    exact W.iret (v := (-1)) hx hb hr (fun t ht hW => ⟨⟨(-1), (0, mt, rd, giv, us, gv, aw, sd, ot, ub, ul, ua), rfl, hF.symm, by rw [ht]; exact hP.sub [0, 1, 2, 3, 4, 5, 6, 7, 8, 9, 10, 11, 12, 13] rfl, hD.sub [0, 1, 2, 3, 4, 5, 6, 7, 8, 9, 10, 11, 12, 13] (by decide) rfl⟩, hS.F ht⟩) hS.2.2 dX6_seed_14

def F_X6_key (cod : Int32) (mt : Int64) (hd : Int32) (mmd : Int32) (typ : Int32) (rd : Int32) (giv : Int32) (us : Int32) (mkd : Nat → Int32) (mtr : Nat → Int32) (mdl : Nat → Int64) (opv : Nat → Int32) (aw : Nat → Int32) (sd : Nat → Int32) (ct : Nat → Int32) (cr : Nat → Int32) (ud : Nat → Int32) (lo : Nat → Int64) (wl : Nat → Int32) (ub : Nat → Int32) (ul : Nat → Int32) (ua : Nat → Int32) (p1 : Int32) (p2 : Int32) (p3 : Int32) : Int32 × Int32 × Int32 × (Nat → Int32) × (Nat → Int32) × (Nat → Int32) × (Nat → Int32) × (Nat → Int32) × (Nat → Int64) × (Nat → Int32) × (Nat → Int32) × (Nat → Int32) × (Nat → Int32) :=
  (if p3 = 0 then (0, (0, us, opv, aw, (upd ct (hd : Int32).toNatClampNeg ((ct (hd : Int32).toNatClampNeg) + 1)), (upd cr (hd : Int32).toNatClampNeg (((cr (hd : Int32).toNatClampNeg) <<< (8 &&& 31)) ||| (p2 &&& 255))), ud, lo, wl, ub, ul, ua)) else (if (F_X6_isMade 0 mt hd mmd typ rd giv us mtr p1) = 0 then ((-1), (0, us, opv, aw, (upd (upd ct (hd : Int32).toNatClampNeg ((ct (hd : Int32).toNatClampNeg) + 1)) (hd : Int32).toNatClampNeg 0), (upd (upd cr (hd : Int32).toNatClampNeg (((cr (hd : Int32).toNatClampNeg) <<< (8 &&& 31)) ||| (p2 &&& 255))) (hd : Int32).toNatClampNeg 0), ud, lo, wl, ub, ul, ua)) else (lz2 (F_X6_came 0 mt hd mmd typ rd giv us mkd mtr mdl opv aw sd ud lo wl p1 ((upd ct (hd : Int32).toNatClampNeg ((ct (hd : Int32).toNatClampNeg) + 1)) (hd : Int32).toNatClampNeg) ((upd cr (hd : Int32).toNatClampNeg (((cr (hd : Int32).toNatClampNeg) <<< (8 &&& 31)) ||| (p2 &&& 255))) (hd : Int32).toNatClampNeg)) (fun r1 u1 => (lz2 (F_X6_note 0 mt hd mmd typ rd giv us ub ul ua p1 r1) (fun r2 u2 => (r2, (0, u2.1, u1.1, u1.2.1, (upd (upd ct (hd : Int32).toNatClampNeg ((ct (hd : Int32).toNatClampNeg) + 1)) (hd : Int32).toNatClampNeg 0), (upd (upd cr (hd : Int32).toNatClampNeg (((cr (hd : Int32).toNatClampNeg) <<< (8 &&& 31)) ||| (p2 &&& 255))) (hd : Int32).toNatClampNeg 0), u1.2.2.1, u1.2.2.2.1, u1.2.2.2.2, u2.2.1, u2.2.2.1, u2.2.2.2))))))))
set_option maxHeartbeats 4000000 in
set_option maxRecDepth 100000 in
theorem c_X6_key (l : Launch) (G : gG) (m0 bkd btr bdl bop baw bsd bct bcr bud blo bwl bub bul bua btp bgv bse bro bot : Nat) (sz : Nat) (cod : Int32) (mt : Int64) (hd : Int32) (mmd : Int32) (typ : Int32) (rd : Int32) (giv : Int32) (us : Int32) (mkd : Nat → Int32) (mtr : Nat → Int32) (mdl : Nat → Int64) (opv : Nat → Int32) (aw : Nat → Int32) (sd : Nat → Int32) (ct : Nat → Int32) (cr : Nat → Int32) (ud : Nat → Int32) (lo : Nat → Int64) (wl : Nat → Int32) (ub : Nat → Int32) (ul : Nat → Int32) (ua : Nat → Int32) (p1 : Int32) (p2 : Int32) (p3 : Int32) (hh : vp_in hd 4) (hu : ¬ us < 0) : Met l yX6_key wsX6_key ({ frames := 2, cells := 0, slots := 0, locals := 48 }) (va_Pc [.ref m0, .int p1, .int p2, .int p3] (pR G [(m0, .inr (8, [.int cod, .long mt, .int hd, .int mmd, .ref bkd, .ref btr, .ref bdl, .int typ, .int rd, .ref btp, .int giv, .ref bgv, .ref bse, .ref bro, .ref bop, .ref baw, .ref bsd, .ref bot, .ref bct, .ref bcr, .ref bud, .ref blo, .ref bwl, .int us, .ref bub, .ref bul, .ref bua])), (bkd, .inl (G.2 0, 21, .inl mkd)), (btr, .inl (G.2 0, 21, .inl mtr)), (bdl, .inl (G.2 1, 21, .inr (.inl mdl))), (bop, .inl (G.2 0, 4, .inl opv)), (baw, .inl (G.2 0, 4, .inl aw)), (bsd, .inl (G.2 0, 4, .inl sd)), (bct, .inl (G.2 0, 4, .inl ct)), (bcr, .inl (G.2 0, 4, .inl cr)), (bud, .inl (G.2 0, 84, .inl ud)), (blo, .inl (G.2 1, 84, .inr (.inl lo))), (bwl, .inl (G.2 2, 84, .inl wl)), (bub, .inl (G.2 0, 300, .inl ub)), (bul, .inl (G.2 0, 300, .inl ul)), (bua, .inl (G.2 0, 300, .inl ua))] sz)) (va_Qi (fun (r : Int32) (u : Int32 × Int32 × (Nat → Int32) × (Nat → Int32) × (Nat → Int32) × (Nat → Int32) × (Nat → Int32) × (Nat → Int64) × (Nat → Int32) × (Nat → Int32) × (Nat → Int32) × (Nat → Int32)) => (r, u) = F_X6_key cod mt hd mmd typ rd giv us mkd mtr mdl opv aw sd ct cr ud lo wl ub ul ua p1 p2 p3) (fun u t => pO G [(m0, .inr (8, [.int u.1, .long mt, .int hd, .int mmd, .ref bkd, .ref btr, .ref bdl, .int typ, .int rd, .ref btp, .int giv, .ref bgv, .ref bse, .ref bro, .ref bop, .ref baw, .ref bsd, .ref bot, .ref bct, .ref bcr, .ref bud, .ref blo, .ref bwl, .int u.2.1, .ref bub, .ref bul, .ref bua])), (bkd, .inl (G.2 0, 21, .inl mkd)), (btr, .inl (G.2 0, 21, .inl mtr)), (bdl, .inl (G.2 1, 21, .inr (.inl mdl))), (bop, .inl (G.2 0, 4, .inl u.2.2.1)), (baw, .inl (G.2 0, 4, .inl u.2.2.2.1)), (bsd, .inl (G.2 0, 4, .inl sd)), (bct, .inl (G.2 0, 4, .inl u.2.2.2.2.1)), (bcr, .inl (G.2 0, 4, .inl u.2.2.2.2.2.1)), (bud, .inl (G.2 0, 84, .inl u.2.2.2.2.2.2.1)), (blo, .inl (G.2 1, 84, .inr (.inl u.2.2.2.2.2.2.2.1))), (bwl, .inl (G.2 2, 84, .inl u.2.2.2.2.2.2.2.2.1)), (bub, .inl (G.2 0, 300, .inl u.2.2.2.2.2.2.2.2.2.1)), (bul, .inl (G.2 0, 300, .inl u.2.2.2.2.2.2.2.2.2.2.1)), (bua, .inl (G.2 0, 300, .inl u.2.2.2.2.2.2.2.2.2.2.2))] (va_A [(m0, .inr (8, [.int cod, .long mt, .int hd, .int mmd, .ref bkd, .ref btr, .ref bdl, .int typ, .int rd, .ref btp, .int giv, .ref bgv, .ref bse, .ref bro, .ref bop, .ref baw, .ref bsd, .ref bot, .ref bct, .ref bcr, .ref bud, .ref blo, .ref bwl, .int us, .ref bub, .ref bul, .ref bua])), (bkd, .inl (G.2 0, 21, .inl mkd)), (btr, .inl (G.2 0, 21, .inl mtr)), (bdl, .inl (G.2 1, 21, .inr (.inl mdl))), (bop, .inl (G.2 0, 4, .inl opv)), (baw, .inl (G.2 0, 4, .inl aw)), (bsd, .inl (G.2 0, 4, .inl sd)), (bct, .inl (G.2 0, 4, .inl ct)), (bcr, .inl (G.2 0, 4, .inl cr)), (bud, .inl (G.2 0, 84, .inl ud)), (blo, .inl (G.2 1, 84, .inr (.inl lo))), (bwl, .inl (G.2 2, 84, .inl wl)), (bub, .inl (G.2 0, 300, .inl ub)), (bul, .inl (G.2 0, 300, .inl ul)), (bua, .inl (G.2 0, 300, .inl ua))] sz) t) (va_A [(m0, .inr (8, [.int cod, .long mt, .int hd, .int mmd, .ref bkd, .ref btr, .ref bdl, .int typ, .int rd, .ref btp, .int giv, .ref bgv, .ref bse, .ref bro, .ref bop, .ref baw, .ref bsd, .ref bot, .ref bct, .ref bcr, .ref bud, .ref blo, .ref bwl, .int us, .ref bub, .ref bul, .ref bua])), (bkd, .inl (G.2 0, 21, .inl mkd)), (btr, .inl (G.2 0, 21, .inl mtr)), (bdl, .inl (G.2 1, 21, .inr (.inl mdl))), (bop, .inl (G.2 0, 4, .inl opv)), (baw, .inl (G.2 0, 4, .inl aw)), (bsd, .inl (G.2 0, 4, .inl sd)), (bct, .inl (G.2 0, 4, .inl ct)), (bcr, .inl (G.2 0, 4, .inl cr)), (bud, .inl (G.2 0, 84, .inl ud)), (blo, .inl (G.2 1, 84, .inr (.inl lo))), (bwl, .inl (G.2 2, 84, .inl wl)), (bub, .inl (G.2 0, 300, .inl ub)), (bul, .inl (G.2 0, 300, .inl ul)), (bua, .inl (G.2 0, 300, .inl ua))] sz)) 0 0 (va_A [(m0, .inr (8, [.int cod, .long mt, .int hd, .int mmd, .ref bkd, .ref btr, .ref bdl, .int typ, .int rd, .ref btp, .int giv, .ref bgv, .ref bse, .ref bro, .ref bop, .ref baw, .ref bsd, .ref bot, .ref bct, .ref bcr, .ref bud, .ref blo, .ref bwl, .int us, .ref bub, .ref bul, .ref bua])), (bkd, .inl (G.2 0, 21, .inl mkd)), (btr, .inl (G.2 0, 21, .inl mtr)), (bdl, .inl (G.2 1, 21, .inr (.inl mdl))), (bop, .inl (G.2 0, 4, .inl opv)), (baw, .inl (G.2 0, 4, .inl aw)), (bsd, .inl (G.2 0, 4, .inl sd)), (bct, .inl (G.2 0, 4, .inl ct)), (bcr, .inl (G.2 0, 4, .inl cr)), (bud, .inl (G.2 0, 84, .inl ud)), (blo, .inl (G.2 1, 84, .inr (.inl lo))), (bwl, .inl (G.2 2, 84, .inl wl)), (bub, .inl (G.2 0, 300, .inl ub)), (bul, .inl (G.2 0, 300, .inl ul)), (bua, .inl (G.2 0, 300, .inl ua))] sz) := by
  refine Met.ofW (cc := cX6_key) (maxL := 6) (ret := (some .int)) (by decide) rfl ?_
  intro p e s m args below meth c s₁ B hml hv
  obtain ⟨rfl, hsz, hP, hK, hD0⟩ := hv
  have hx := B.exec
  have hb := B.bytes
  have hr := B.returns
  have hts := atoms_spec (ws := wsX6_key) B.pre
  have hown : s.vm.findClass RX6 = some m.cls := findClass_of_methodNamed B.named
  have hlocks := B.notSynchronized
  subst hsz
  have iX6 : ∀ w ∈ wsX60, w ∈ wsX6_key := by decide +kernel
  have hD := hD0.self (sz := s.heap.size)
  generalize hAe : va_A [(m0, .inr (8, [.int cod, .long mt, .int hd, .int mmd, .ref bkd, .ref btr, .ref bdl, .int typ, .int rd, .ref btp, .int giv, .ref bgv, .ref bse, .ref bro, .ref bop, .ref baw, .ref bsd, .ref bot, .ref bct, .ref bcr, .ref bud, .ref blo, .ref bwl, .int us, .ref bub, .ref bul, .ref bua])), (bkd, .inl (G.2 0, 21, .inl mkd)), (btr, .inl (G.2 0, 21, .inl mtr)), (bdl, .inl (G.2 1, 21, .inr (.inl mdl))), (bop, .inl (G.2 0, 4, .inl opv)), (baw, .inl (G.2 0, 4, .inl aw)), (bsd, .inl (G.2 0, 4, .inl sd)), (bct, .inl (G.2 0, 4, .inl ct)), (bcr, .inl (G.2 0, 4, .inl cr)), (bud, .inl (G.2 0, 84, .inl ud)), (blo, .inl (G.2 1, 84, .inr (.inl lo))), (bwl, .inl (G.2 2, 84, .inl wl)), (bub, .inl (G.2 0, 300, .inl ub)), (bul, .inl (G.2 0, 300, .inl ul)), (bua, .inl (G.2 0, 300, .inl ua))] s.heap.size = A at hD ⊢
  have hA : ∀ q : Nat, s.heap.size ≤ q → A q := fun q h => by rw [← hAe]; exact Or.inr h
  have hS : va_S A s.heap s.heap [] := va_S.rf
  have hP : va_P G.1 vwCl [(m0, .inr (8, [.int cod, .long mt, .int hd, .int mmd, .ref bkd, .ref btr, .ref bdl, .int typ, .int rd, .ref btp, .int giv, .ref bgv, .ref bse, .ref bro, .ref bop, .ref baw, .ref bsd, .ref bot, .ref bct, .ref bcr, .ref bud, .ref blo, .ref bwl, .int us, .ref bub, .ref bul, .ref bua])), (bkd, .inl (G.2 0, 21, .inl mkd)), (btr, .inl (G.2 0, 21, .inl mtr)), (bdl, .inl (G.2 1, 21, .inr (.inl mdl))), (bop, .inl (G.2 0, 4, .inl opv)), (baw, .inl (G.2 0, 4, .inl aw)), (bsd, .inl (G.2 0, 4, .inl sd)), (bct, .inl (G.2 0, 4, .inl ct)), (bcr, .inl (G.2 0, 4, .inl cr)), (bud, .inl (G.2 0, 84, .inl ud)), (blo, .inl (G.2 1, 84, .inr (.inl lo))), (bwl, .inl (G.2 2, 84, .inl wl)), (bub, .inl (G.2 0, 300, .inl ub)), (bul, .inl (G.2 0, 300, .inl ul)), (bua, .inl (G.2 0, 300, .inl ua))] s.heap := hP
  have hl := lv_entry ([.ref m0, .int p1, .int p2, .int p3]) (n := 6) (Nat.le_of_ble_eq_true rfl)
  rw [lg_entry_eq]
  generalize (lg_sl ([.ref m0, .int p1, .int p2, .int p3]) ++ List.replicate (6 - (lg_sl ([.ref m0, .int p1, .int p2, .int p3])).length) Slot.unset).toArray = ls at hl ⊢
  have hl : lv_has ls 6 [(0, .ref m0), (1, .int p1), (2, .int p2), (3, .int p3)] := hl
  have hF : F_X6_key cod mt hd mmd typ rd giv us mkd mtr mdl opv aw sd ct cr ud lo wl ub ul ua p1 p2 p3 = F_X6_key cod mt hd mmd typ rd giv us mkd mtr mdl opv aw sd ct cr ud lo wl ub ul ua p1 p2 p3 := rfl
  refine lv_aload_n hx hb dX6_key_0 rfl (lv_at hl 0 rfl) ?_
  refine lv_iconst (v := 0) hx hb dX6_key_1 (by decide) ?_
  refine va_put (D := G.1) (ci := 8) (v := .int 0) (ty := .int) (C := RX6) (T := TX6) (N := 27) hx hb hts iX6 tyX6 tyX6_ok nmX6 hown hK.1 hP hD hS 0 rfl rfl 0 (by decide) (hts (.fieldLink RX6 71 "RightsStepsModel" "code" "I") (by decide +kernel)) (fun _ h9 => h9) rfl (by decide +kernel) rfl rfl (Nat.le_of_ble_eq_true rfl) dX6_key_2 (fun H locs hP hD hS => ?_)
  have hP : va_P G.1 vwCl [(m0, .inr (8, [.int 0, .long mt, .int hd, .int mmd, .ref bkd, .ref btr, .ref bdl, .int typ, .int rd, .ref btp, .int giv, .ref bgv, .ref bse, .ref bro, .ref bop, .ref baw, .ref bsd, .ref bot, .ref bct, .ref bcr, .ref bud, .ref blo, .ref bwl, .int us, .ref bub, .ref bul, .ref bua])), (bkd, .inl (G.2 0, 21, .inl mkd)), (btr, .inl (G.2 0, 21, .inl mtr)), (bdl, .inl (G.2 1, 21, .inr (.inl mdl))), (bop, .inl (G.2 0, 4, .inl opv)), (baw, .inl (G.2 0, 4, .inl aw)), (bsd, .inl (G.2 0, 4, .inl sd)), (bct, .inl (G.2 0, 4, .inl ct)), (bcr, .inl (G.2 0, 4, .inl cr)), (bud, .inl (G.2 0, 84, .inl ud)), (blo, .inl (G.2 1, 84, .inr (.inl lo))), (bwl, .inl (G.2 2, 84, .inl wl)), (bub, .inl (G.2 0, 300, .inl ub)), (bul, .inl (G.2 0, 300, .inl ul)), (bua, .inl (G.2 0, 300, .inl ua))] H := hP
  have hD : va_D A [(m0, .inr (8, [.int 0, .long mt, .int hd, .int mmd, .ref bkd, .ref btr, .ref bdl, .int typ, .int rd, .ref btp, .int giv, .ref bgv, .ref bse, .ref bro, .ref bop, .ref baw, .ref bsd, .ref bot, .ref bct, .ref bcr, .ref bud, .ref blo, .ref bwl, .int us, .ref bub, .ref bul, .ref bua])), (bkd, .inl (G.2 0, 21, .inl mkd)), (btr, .inl (G.2 0, 21, .inl mtr)), (bdl, .inl (G.2 1, 21, .inr (.inl mdl))), (bop, .inl (G.2 0, 4, .inl opv)), (baw, .inl (G.2 0, 4, .inl aw)), (bsd, .inl (G.2 0, 4, .inl sd)), (bct, .inl (G.2 0, 4, .inl ct)), (bcr, .inl (G.2 0, 4, .inl cr)), (bud, .inl (G.2 0, 84, .inl ud)), (blo, .inl (G.2 1, 84, .inr (.inl lo))), (bwl, .inl (G.2 2, 84, .inl wl)), (bub, .inl (G.2 0, 300, .inl ub)), (bul, .inl (G.2 0, 300, .inl ul)), (bua, .inl (G.2 0, 300, .inl ua))] := hD
  refine lv_aload_n hx hb dX6_key_5 rfl (lv_at hl 0 rfl) ?_
  refine va_get (D := G.1) (ci := 8) (v := .ref bcr) (C := RX6) (T := TX6) (N := 27) hx hb hts iX6 hown hK.1 hP 0 rfl rfl 19 (by decide) (hts (.fieldLink RX6 49 "RightsStepsModel" "octetRow" "[I") (by decide +kernel)) (fun _ h9 => h9) rfl dX6_key_6 ?_
  refine lv_aload_n hx hb dX6_key_9 rfl (lv_at hl 0 rfl) ?_
  refine va_get (D := G.1) (ci := 8) (v := .int hd) (C := RX6) (T := TX6) (N := 27) hx hb hts iX6 hown hK.1 hP 0 rfl rfl 2 (by decide) (hts (.fieldLink RX6 96 "RightsStepsModel" "hand" "I") (by decide +kernel)) (fun _ h9 => h9) rfl dX6_key_10 ?_
  refine lv_aload_n hx hb dX6_key_13 rfl (lv_at hl 0 rfl) ?_
  refine va_get (D := G.1) (ci := 8) (v := .ref bcr) (C := RX6) (T := TX6) (N := 27) hx hb hts iX6 hown hK.1 hP 0 rfl rfl 19 (by decide) (hts (.fieldLink RX6 49 "RightsStepsModel" "octetRow" "[I") (by decide +kernel)) (fun _ h9 => h9) rfl dX6_key_14 ?_
  refine lv_aload_n hx hb dX6_key_17 rfl (lv_at hl 0 rfl) ?_
  refine va_get (D := G.1) (ci := 8) (v := .int hd) (C := RX6) (T := TX6) (N := 27) hx hb hts iX6 hown hK.1 hP 0 rfl rfl 2 (by decide) (hts (.fieldLink RX6 96 "RightsStepsModel" "hand" "I") (by decide +kernel)) (fun _ h9 => h9) rfl dX6_key_18 ?_
  refine va_iald (f := cr) hx hb hK.1 hP 8 0 rfl rfl hh dX6_key_21 ?_
  refine lv_bipush (v := 8) hx hb dX6_key_22 (by decide) ?_
  refine lv_ishl hx hb dX6_key_24 ?_
  refine lv_iload_n hx hb dX6_key_25 rfl (lv_at hl 2 rfl) ?_
  refine lv_sipush (v := 255) hx hb dX6_key_26 (by decide) ?_
  refine lv_iand hx hb dX6_key_29 ?_
  refine lv_ior hx hb dX6_key_30 ?_
  refine va_iast (f := cr) hx hb hK.1 hP hD hS 8 0 rfl rfl hh dX6_key_31 (fun H locs hP hD hS => ?_)
  have hP : va_P G.1 vwCl [(m0, .inr (8, [.int 0, .long mt, .int hd, .int mmd, .ref bkd, .ref btr, .ref bdl, .int typ, .int rd, .ref btp, .int giv, .ref bgv, .ref bse, .ref bro, .ref bop, .ref baw, .ref bsd, .ref bot, .ref bct, .ref bcr, .ref bud, .ref blo, .ref bwl, .int us, .ref bub, .ref bul, .ref bua])), (bkd, .inl (G.2 0, 21, .inl mkd)), (btr, .inl (G.2 0, 21, .inl mtr)), (bdl, .inl (G.2 1, 21, .inr (.inl mdl))), (bop, .inl (G.2 0, 4, .inl opv)), (baw, .inl (G.2 0, 4, .inl aw)), (bsd, .inl (G.2 0, 4, .inl sd)), (bct, .inl (G.2 0, 4, .inl ct)), (bcr, .inl (G.2 0, 4, .inl (upd cr (hd : Int32).toNatClampNeg (((cr (hd : Int32).toNatClampNeg) <<< (8 &&& 31)) ||| (p2 &&& 255))))), (bud, .inl (G.2 0, 84, .inl ud)), (blo, .inl (G.2 1, 84, .inr (.inl lo))), (bwl, .inl (G.2 2, 84, .inl wl)), (bub, .inl (G.2 0, 300, .inl ub)), (bul, .inl (G.2 0, 300, .inl ul)), (bua, .inl (G.2 0, 300, .inl ua))] H := hP
  have hD : va_D A [(m0, .inr (8, [.int 0, .long mt, .int hd, .int mmd, .ref bkd, .ref btr, .ref bdl, .int typ, .int rd, .ref btp, .int giv, .ref bgv, .ref bse, .ref bro, .ref bop, .ref baw, .ref bsd, .ref bot, .ref bct, .ref bcr, .ref bud, .ref blo, .ref bwl, .int us, .ref bub, .ref bul, .ref bua])), (bkd, .inl (G.2 0, 21, .inl mkd)), (btr, .inl (G.2 0, 21, .inl mtr)), (bdl, .inl (G.2 1, 21, .inr (.inl mdl))), (bop, .inl (G.2 0, 4, .inl opv)), (baw, .inl (G.2 0, 4, .inl aw)), (bsd, .inl (G.2 0, 4, .inl sd)), (bct, .inl (G.2 0, 4, .inl ct)), (bcr, .inl (G.2 0, 4, .inl (upd cr (hd : Int32).toNatClampNeg (((cr (hd : Int32).toNatClampNeg) <<< (8 &&& 31)) ||| (p2 &&& 255))))), (bud, .inl (G.2 0, 84, .inl ud)), (blo, .inl (G.2 1, 84, .inr (.inl lo))), (bwl, .inl (G.2 2, 84, .inl wl)), (bub, .inl (G.2 0, 300, .inl ub)), (bul, .inl (G.2 0, 300, .inl ul)), (bua, .inl (G.2 0, 300, .inl ua))] := hD
  refine lv_aload_n hx hb dX6_key_32 rfl (lv_at hl 0 rfl) ?_
  refine va_get (D := G.1) (ci := 8) (v := .ref bct) (C := RX6) (T := TX6) (N := 27) hx hb hts iX6 hown hK.1 hP 0 rfl rfl 18 (by decide) (hts (.fieldLink RX6 46 "RightsStepsModel" "octets" "[I") (by decide +kernel)) (fun _ h9 => h9) rfl dX6_key_33 ?_
  refine lv_aload_n hx hb dX6_key_36 rfl (lv_at hl 0 rfl) ?_
  refine va_get (D := G.1) (ci := 8) (v := .int hd) (C := RX6) (T := TX6) (N := 27) hx hb hts iX6 hown hK.1 hP 0 rfl rfl 2 (by decide) (hts (.fieldLink RX6 96 "RightsStepsModel" "hand" "I") (by decide +kernel)) (fun _ h9 => h9) rfl dX6_key_37 ?_
  refine lv_dup2_11 hx hb dX6_key_40 rfl rfl ?_
  refine va_iald (f := ct) hx hb hK.1 hP 7 0 rfl rfl hh dX6_key_41 ?_
  refine lv_iconst (v := 1) hx hb dX6_key_42 (by decide) ?_
  refine lv_iadd hx hb dX6_key_43 ?_
  refine va_iast (f := ct) hx hb hK.1 hP hD hS 7 0 rfl rfl hh dX6_key_44 (fun H locs hP hD hS => ?_)
  have hP : va_P G.1 vwCl [(m0, .inr (8, [.int 0, .long mt, .int hd, .int mmd, .ref bkd, .ref btr, .ref bdl, .int typ, .int rd, .ref btp, .int giv, .ref bgv, .ref bse, .ref bro, .ref bop, .ref baw, .ref bsd, .ref bot, .ref bct, .ref bcr, .ref bud, .ref blo, .ref bwl, .int us, .ref bub, .ref bul, .ref bua])), (bkd, .inl (G.2 0, 21, .inl mkd)), (btr, .inl (G.2 0, 21, .inl mtr)), (bdl, .inl (G.2 1, 21, .inr (.inl mdl))), (bop, .inl (G.2 0, 4, .inl opv)), (baw, .inl (G.2 0, 4, .inl aw)), (bsd, .inl (G.2 0, 4, .inl sd)), (bct, .inl (G.2 0, 4, .inl (upd ct (hd : Int32).toNatClampNeg ((ct (hd : Int32).toNatClampNeg) + 1)))), (bcr, .inl (G.2 0, 4, .inl (upd cr (hd : Int32).toNatClampNeg (((cr (hd : Int32).toNatClampNeg) <<< (8 &&& 31)) ||| (p2 &&& 255))))), (bud, .inl (G.2 0, 84, .inl ud)), (blo, .inl (G.2 1, 84, .inr (.inl lo))), (bwl, .inl (G.2 2, 84, .inl wl)), (bub, .inl (G.2 0, 300, .inl ub)), (bul, .inl (G.2 0, 300, .inl ul)), (bua, .inl (G.2 0, 300, .inl ua))] H := hP
  have hD : va_D A [(m0, .inr (8, [.int 0, .long mt, .int hd, .int mmd, .ref bkd, .ref btr, .ref bdl, .int typ, .int rd, .ref btp, .int giv, .ref bgv, .ref bse, .ref bro, .ref bop, .ref baw, .ref bsd, .ref bot, .ref bct, .ref bcr, .ref bud, .ref blo, .ref bwl, .int us, .ref bub, .ref bul, .ref bua])), (bkd, .inl (G.2 0, 21, .inl mkd)), (btr, .inl (G.2 0, 21, .inl mtr)), (bdl, .inl (G.2 1, 21, .inr (.inl mdl))), (bop, .inl (G.2 0, 4, .inl opv)), (baw, .inl (G.2 0, 4, .inl aw)), (bsd, .inl (G.2 0, 4, .inl sd)), (bct, .inl (G.2 0, 4, .inl (upd ct (hd : Int32).toNatClampNeg ((ct (hd : Int32).toNatClampNeg) + 1)))), (bcr, .inl (G.2 0, 4, .inl (upd cr (hd : Int32).toNatClampNeg (((cr (hd : Int32).toNatClampNeg) <<< (8 &&& 31)) ||| (p2 &&& 255))))), (bud, .inl (G.2 0, 84, .inl ud)), (blo, .inl (G.2 1, 84, .inr (.inl lo))), (bwl, .inl (G.2 2, 84, .inl wl)), (bub, .inl (G.2 0, 300, .inl ub)), (bul, .inl (G.2 0, 300, .inl ul)), (bua, .inl (G.2 0, 300, .inl ua))] := hD
  refine lv_iload_n hx hb dX6_key_45 rfl (lv_at hl 3 rfl) ?_
  refine lv_if_ne (tgt := 51) hx hb dX6_key_46 (by decide) (fun c_46 => ?_) (fun c_46 => ?_)
  · have hF := if_f hF c_46
    refine lv_aload_n hx hb dX6_key_51 rfl (lv_at hl 0 rfl) ?_
    refine va_get (D := G.1) (ci := 8) (v := .ref bct) (C := RX6) (T := TX6) (N := 27) hx hb hts iX6 hown hK.1 hP 0 rfl rfl 18 (by decide) (hts (.fieldLink RX6 46 "RightsStepsModel" "octets" "[I") (by decide +kernel)) (fun _ h9 => h9) rfl dX6_key_52 ?_
    refine lv_aload_n hx hb dX6_key_55 rfl (lv_at hl 0 rfl) ?_
    refine va_get (D := G.1) (ci := 8) (v := .int hd) (C := RX6) (T := TX6) (N := 27) hx hb hts iX6 hown hK.1 hP 0 rfl rfl 2 (by decide) (hts (.fieldLink RX6 96 "RightsStepsModel" "hand" "I") (by decide +kernel)) (fun _ h9 => h9) rfl dX6_key_56 ?_
    refine va_iald (f := (upd ct (hd : Int32).toNatClampNeg ((ct (hd : Int32).toNatClampNeg) + 1))) hx hb hK.1 hP 7 0 rfl rfl hh dX6_key_59 ?_
    refine lv_istore (lv' := [(4, .int ((upd ct (hd : Int32).toNatClampNeg ((ct (hd : Int32).toNatClampNeg) + 1)) (hd : Int32).toNatClampNeg)), (0, .ref m0), (1, .int p1), (2, .int p2), (3, .int p3)]) hx hb dX6_key_60 hl (by decide) rfl (fun ls hl => ?_)
    refine lv_aload_n hx hb dX6_key_62 rfl (lv_at hl 1 rfl) ?_
    refine va_get (D := G.1) (ci := 8) (v := .ref bcr) (C := RX6) (T := TX6) (N := 27) hx hb hts iX6 hown hK.1 hP 0 rfl rfl 19 (by decide) (hts (.fieldLink RX6 49 "RightsStepsModel" "octetRow" "[I") (by decide +kernel)) (fun _ h9 => h9) rfl dX6_key_63 ?_
    refine lv_aload_n hx hb dX6_key_66 rfl (lv_at hl 1 rfl) ?_
    refine va_get (D := G.1) (ci := 8) (v := .int hd) (C := RX6) (T := TX6) (N := 27) hx hb hts iX6 hown hK.1 hP 0 rfl rfl 2 (by decide) (hts (.fieldLink RX6 96 "RightsStepsModel" "hand" "I") (by decide +kernel)) (fun _ h9 => h9) rfl dX6_key_67 ?_
    refine va_iald (f := (upd cr (hd : Int32).toNatClampNeg (((cr (hd : Int32).toNatClampNeg) <<< (8 &&& 31)) ||| (p2 &&& 255)))) hx hb hK.1 hP 8 0 rfl rfl hh dX6_key_70 ?_
    refine lv_istore (lv' := [(5, .int ((upd cr (hd : Int32).toNatClampNeg (((cr (hd : Int32).toNatClampNeg) <<< (8 &&& 31)) ||| (p2 &&& 255))) (hd : Int32).toNatClampNeg)), (4, .int ((upd ct (hd : Int32).toNatClampNeg ((ct (hd : Int32).toNatClampNeg) + 1)) (hd : Int32).toNatClampNeg)), (0, .ref m0), (1, .int p1), (2, .int p2), (3, .int p3)]) hx hb dX6_key_71 hl (by decide) rfl (fun ls hl => ?_)
    refine lv_aload_n hx hb dX6_key_73 rfl (lv_at hl 2 rfl) ?_
    refine va_get (D := G.1) (ci := 8) (v := .ref bct) (C := RX6) (T := TX6) (N := 27) hx hb hts iX6 hown hK.1 hP 0 rfl rfl 18 (by decide) (hts (.fieldLink RX6 46 "RightsStepsModel" "octets" "[I") (by decide +kernel)) (fun _ h9 => h9) rfl dX6_key_74 ?_
    refine lv_aload_n hx hb dX6_key_77 rfl (lv_at hl 2 rfl) ?_
    refine va_get (D := G.1) (ci := 8) (v := .int hd) (C := RX6) (T := TX6) (N := 27) hx hb hts iX6 hown hK.1 hP 0 rfl rfl 2 (by decide) (hts (.fieldLink RX6 96 "RightsStepsModel" "hand" "I") (by decide +kernel)) (fun _ h9 => h9) rfl dX6_key_78 ?_
    refine lv_iconst (v := 0) hx hb dX6_key_81 (by decide) ?_
    refine va_iast (f := (upd ct (hd : Int32).toNatClampNeg ((ct (hd : Int32).toNatClampNeg) + 1))) hx hb hK.1 hP hD hS 7 0 rfl rfl hh dX6_key_82 (fun H locs hP hD hS => ?_)
    have hP : va_P G.1 vwCl [(m0, .inr (8, [.int 0, .long mt, .int hd, .int mmd, .ref bkd, .ref btr, .ref bdl, .int typ, .int rd, .ref btp, .int giv, .ref bgv, .ref bse, .ref bro, .ref bop, .ref baw, .ref bsd, .ref bot, .ref bct, .ref bcr, .ref bud, .ref blo, .ref bwl, .int us, .ref bub, .ref bul, .ref bua])), (bkd, .inl (G.2 0, 21, .inl mkd)), (btr, .inl (G.2 0, 21, .inl mtr)), (bdl, .inl (G.2 1, 21, .inr (.inl mdl))), (bop, .inl (G.2 0, 4, .inl opv)), (baw, .inl (G.2 0, 4, .inl aw)), (bsd, .inl (G.2 0, 4, .inl sd)), (bct, .inl (G.2 0, 4, .inl (upd (upd ct (hd : Int32).toNatClampNeg ((ct (hd : Int32).toNatClampNeg) + 1)) (hd : Int32).toNatClampNeg 0))), (bcr, .inl (G.2 0, 4, .inl (upd cr (hd : Int32).toNatClampNeg (((cr (hd : Int32).toNatClampNeg) <<< (8 &&& 31)) ||| (p2 &&& 255))))), (bud, .inl (G.2 0, 84, .inl ud)), (blo, .inl (G.2 1, 84, .inr (.inl lo))), (bwl, .inl (G.2 2, 84, .inl wl)), (bub, .inl (G.2 0, 300, .inl ub)), (bul, .inl (G.2 0, 300, .inl ul)), (bua, .inl (G.2 0, 300, .inl ua))] H := hP
    have hD : va_D A [(m0, .inr (8, [.int 0, .long mt, .int hd, .int mmd, .ref bkd, .ref btr, .ref bdl, .int typ, .int rd, .ref btp, .int giv, .ref bgv, .ref bse, .ref bro, .ref bop, .ref baw, .ref bsd, .ref bot, .ref bct, .ref bcr, .ref bud, .ref blo, .ref bwl, .int us, .ref bub, .ref bul, .ref bua])), (bkd, .inl (G.2 0, 21, .inl mkd)), (btr, .inl (G.2 0, 21, .inl mtr)), (bdl, .inl (G.2 1, 21, .inr (.inl mdl))), (bop, .inl (G.2 0, 4, .inl opv)), (baw, .inl (G.2 0, 4, .inl aw)), (bsd, .inl (G.2 0, 4, .inl sd)), (bct, .inl (G.2 0, 4, .inl (upd (upd ct (hd : Int32).toNatClampNeg ((ct (hd : Int32).toNatClampNeg) + 1)) (hd : Int32).toNatClampNeg 0))), (bcr, .inl (G.2 0, 4, .inl (upd cr (hd : Int32).toNatClampNeg (((cr (hd : Int32).toNatClampNeg) <<< (8 &&& 31)) ||| (p2 &&& 255))))), (bud, .inl (G.2 0, 84, .inl ud)), (blo, .inl (G.2 1, 84, .inr (.inl lo))), (bwl, .inl (G.2 2, 84, .inl wl)), (bub, .inl (G.2 0, 300, .inl ub)), (bul, .inl (G.2 0, 300, .inl ul)), (bua, .inl (G.2 0, 300, .inl ua))] := hD
    refine lv_aload_n hx hb dX6_key_83 rfl (lv_at hl 2 rfl) ?_
    refine va_get (D := G.1) (ci := 8) (v := .ref bcr) (C := RX6) (T := TX6) (N := 27) hx hb hts iX6 hown hK.1 hP 0 rfl rfl 19 (by decide) (hts (.fieldLink RX6 49 "RightsStepsModel" "octetRow" "[I") (by decide +kernel)) (fun _ h9 => h9) rfl dX6_key_84 ?_
    refine lv_aload_n hx hb dX6_key_87 rfl (lv_at hl 2 rfl) ?_
    refine va_get (D := G.1) (ci := 8) (v := .int hd) (C := RX6) (T := TX6) (N := 27) hx hb hts iX6 hown hK.1 hP 0 rfl rfl 2 (by decide) (hts (.fieldLink RX6 96 "RightsStepsModel" "hand" "I") (by decide +kernel)) (fun _ h9 => h9) rfl dX6_key_88 ?_
    refine lv_iconst (v := 0) hx hb dX6_key_91 (by decide) ?_
    refine va_iast (f := (upd cr (hd : Int32).toNatClampNeg (((cr (hd : Int32).toNatClampNeg) <<< (8 &&& 31)) ||| (p2 &&& 255)))) hx hb hK.1 hP hD hS 8 0 rfl rfl hh dX6_key_92 (fun H locs hP hD hS => ?_)
    have hP : va_P G.1 vwCl [(m0, .inr (8, [.int 0, .long mt, .int hd, .int mmd, .ref bkd, .ref btr, .ref bdl, .int typ, .int rd, .ref btp, .int giv, .ref bgv, .ref bse, .ref bro, .ref bop, .ref baw, .ref bsd, .ref bot, .ref bct, .ref bcr, .ref bud, .ref blo, .ref bwl, .int us, .ref bub, .ref bul, .ref bua])), (bkd, .inl (G.2 0, 21, .inl mkd)), (btr, .inl (G.2 0, 21, .inl mtr)), (bdl, .inl (G.2 1, 21, .inr (.inl mdl))), (bop, .inl (G.2 0, 4, .inl opv)), (baw, .inl (G.2 0, 4, .inl aw)), (bsd, .inl (G.2 0, 4, .inl sd)), (bct, .inl (G.2 0, 4, .inl (upd (upd ct (hd : Int32).toNatClampNeg ((ct (hd : Int32).toNatClampNeg) + 1)) (hd : Int32).toNatClampNeg 0))), (bcr, .inl (G.2 0, 4, .inl (upd (upd cr (hd : Int32).toNatClampNeg (((cr (hd : Int32).toNatClampNeg) <<< (8 &&& 31)) ||| (p2 &&& 255))) (hd : Int32).toNatClampNeg 0))), (bud, .inl (G.2 0, 84, .inl ud)), (blo, .inl (G.2 1, 84, .inr (.inl lo))), (bwl, .inl (G.2 2, 84, .inl wl)), (bub, .inl (G.2 0, 300, .inl ub)), (bul, .inl (G.2 0, 300, .inl ul)), (bua, .inl (G.2 0, 300, .inl ua))] H := hP
    have hD : va_D A [(m0, .inr (8, [.int 0, .long mt, .int hd, .int mmd, .ref bkd, .ref btr, .ref bdl, .int typ, .int rd, .ref btp, .int giv, .ref bgv, .ref bse, .ref bro, .ref bop, .ref baw, .ref bsd, .ref bot, .ref bct, .ref bcr, .ref bud, .ref blo, .ref bwl, .int us, .ref bub, .ref bul, .ref bua])), (bkd, .inl (G.2 0, 21, .inl mkd)), (btr, .inl (G.2 0, 21, .inl mtr)), (bdl, .inl (G.2 1, 21, .inr (.inl mdl))), (bop, .inl (G.2 0, 4, .inl opv)), (baw, .inl (G.2 0, 4, .inl aw)), (bsd, .inl (G.2 0, 4, .inl sd)), (bct, .inl (G.2 0, 4, .inl (upd (upd ct (hd : Int32).toNatClampNeg ((ct (hd : Int32).toNatClampNeg) + 1)) (hd : Int32).toNatClampNeg 0))), (bcr, .inl (G.2 0, 4, .inl (upd (upd cr (hd : Int32).toNatClampNeg (((cr (hd : Int32).toNatClampNeg) <<< (8 &&& 31)) ||| (p2 &&& 255))) (hd : Int32).toNatClampNeg 0))), (bud, .inl (G.2 0, 84, .inl ud)), (blo, .inl (G.2 1, 84, .inr (.inl lo))), (bwl, .inl (G.2 2, 84, .inl wl)), (bub, .inl (G.2 0, 300, .inl ub)), (bul, .inl (G.2 0, 300, .inl ul)), (bua, .inl (G.2 0, 300, .inl ua))] := hD
    refine lv_aload_n hx hb dX6_key_93 rfl (lv_at hl 2 rfl) ?_
    refine lv_iload_n hx hb dX6_key_94 rfl (lv_at hl 3 rfl) ?_
    have hPc := hP.sub (ws' := [(m0, .inr (8, [.int 0, .long mt, .int hd, .int mmd, .ref bkd, .ref btr, .ref bdl, .int typ, .int rd, .ref btp, .int giv, .ref bgv, .ref bse, .ref bro, .ref bop, .ref baw, .ref bsd, .ref bot, .ref bct, .ref bcr, .ref bud, .ref blo, .ref bwl, .int us, .ref bub, .ref bul, .ref bua])), (btr, .inl (G.2 0, 21, .inl mtr))]) [0, 2] rfl
    have hDc := hD.sub (ws' := [(m0, .inr (8, [.int 0, .long mt, .int hd, .int mmd, .ref bkd, .ref btr, .ref bdl, .int typ, .int rd, .ref btp, .int giv, .ref bgv, .ref bse, .ref bro, .ref bop, .ref baw, .ref bsd, .ref bot, .ref bct, .ref bcr, .ref bud, .ref blo, .ref bwl, .int us, .ref bub, .ref bul, .ref bua])), (btr, .inl (G.2 0, 21, .inl mtr))]) [0, 2] (by decide) rfl
    refine pu_call (va_runV (As := [.int p1]) (rest := []) ⟨hx, hb, hml, hown, hts⟩ (c_X6_isMade l G m0 btr bkd bdl btp bgv bse bro bop baw bsd bot bct bcr bud blo bwl bub bul bua _ 0 mt hd mmd typ rd giv us mtr p1) (cwV 1 hts gX6_key_X6_isMade rfl rfl rfl (by decide +kernel) ⟨Nat.le_of_ble_eq_true rfl, Nat.le_of_ble_eq_true rfl⟩) (pR_V hK hPc hDc (q0 := 0) rfl rfl) rfl rfl hl.1 rfl (lv_room (Nat.le_of_ble_eq_true rfl)) dX6_key_95 ⟨Nat.le_of_ble_eq_true rfl, Nat.le_of_ble_eq_true rfl⟩) ?_
    refine lv_if_eq (tgt := 118) hx hb dX6_key_98 (by decide) (fun c_98 => ?_) (fun c_98 => ?_)
    · have hF := if_t hF c_98
      refine lv_iconst (v := (-1)) hx hb dX6_key_118 (by decide) ?_
      exact W.iret (v := (-1)) hx hb hr (fun t ht hW => ⟨⟨(-1), (0, us, opv, aw, (upd (upd ct (hd : Int32).toNatClampNeg ((ct (hd : Int32).toNatClampNeg) + 1)) (hd : Int32).toNatClampNeg 0), (upd (upd cr (hd : Int32).toNatClampNeg (((cr (hd : Int32).toNatClampNeg) <<< (8 &&& 31)) ||| (p2 &&& 255))) (hd : Int32).toNatClampNeg 0), ud, lo, wl, ub, ul, ua), rfl, hF.symm, by rw [ht]; exact hP.sub [0, 1, 2, 3, 4, 5, 6, 7, 8, 9, 10, 11, 12, 13, 14] rfl, hD.sub [0, 1, 2, 3, 4, 5, 6, 7, 8, 9, 10, 11, 12, 13, 14] (by decide) rfl⟩, hS.F ht⟩) hS.2.2 dX6_key_119
    · have hF := if_f hF c_98
      refine lv_aload_n hx hb dX6_key_101 rfl (lv_at hl 2 rfl) ?_
      refine lv_iload_n hx hb dX6_key_102 rfl (lv_at hl 3 rfl) ?_
      refine lv_aload_n hx hb dX6_key_103 rfl (lv_at hl 2 rfl) ?_
      refine lv_iload_n hx hb dX6_key_104 rfl (lv_at hl 3 rfl) ?_
      refine lv_iload hx hb dX6_key_105 (lv_at hl 1 rfl) ?_
      refine lv_iload hx hb dX6_key_107 (lv_at hl 0 rfl) ?_
      have hPc := hP.sub (ws' := [(m0, .inr (8, [.int 0, .long mt, .int hd, .int mmd, .ref bkd, .ref btr, .ref bdl, .int typ, .int rd, .ref btp, .int giv, .ref bgv, .ref bse, .ref bro, .ref bop, .ref baw, .ref bsd, .ref bot, .ref bct, .ref bcr, .ref bud, .ref blo, .ref bwl, .int us, .ref bub, .ref bul, .ref bua])), (bkd, .inl (G.2 0, 21, .inl mkd)), (btr, .inl (G.2 0, 21, .inl mtr)), (bdl, .inl (G.2 1, 21, .inr (.inl mdl))), (bop, .inl (G.2 0, 4, .inl opv)), (baw, .inl (G.2 0, 4, .inl aw)), (bsd, .inl (G.2 0, 4, .inl sd)), (bud, .inl (G.2 0, 84, .inl ud)), (blo, .inl (G.2 1, 84, .inr (.inl lo))), (bwl, .inl (G.2 2, 84, .inl wl))]) [0, 1, 2, 3, 4, 5, 6, 9, 10, 11] rfl
      have hDc := hD.sub (ws' := [(m0, .inr (8, [.int 0, .long mt, .int hd, .int mmd, .ref bkd, .ref btr, .ref bdl, .int typ, .int rd, .ref btp, .int giv, .ref bgv, .ref bse, .ref bro, .ref bop, .ref baw, .ref bsd, .ref bot, .ref bct, .ref bcr, .ref bud, .ref blo, .ref bwl, .int us, .ref bub, .ref bul, .ref bua])), (bkd, .inl (G.2 0, 21, .inl mkd)), (btr, .inl (G.2 0, 21, .inl mtr)), (bdl, .inl (G.2 1, 21, .inr (.inl mdl))), (bop, .inl (G.2 0, 4, .inl opv)), (baw, .inl (G.2 0, 4, .inl aw)), (bsd, .inl (G.2 0, 4, .inl sd)), (bud, .inl (G.2 0, 84, .inl ud)), (blo, .inl (G.2 1, 84, .inr (.inl lo))), (bwl, .inl (G.2 2, 84, .inl wl))]) [0, 1, 2, 3, 4, 5, 6, 9, 10, 11] (by decide) rfl
      refine cl_i (wr := [(bct, .inl (G.2 0, 4, .inl (upd (upd ct (hd : Int32).toNatClampNeg ((ct (hd : Int32).toNatClampNeg) + 1)) (hd : Int32).toNatClampNeg 0))), (bcr, .inl (G.2 0, 4, .inl (upd (upd cr (hd : Int32).toNatClampNeg (((cr (hd : Int32).toNatClampNeg) <<< (8 &&& 31)) ||| (p2 &&& 255))) (hd : Int32).toNatClampNeg 0))), (bub, .inl (G.2 0, 300, .inl ub)), (bul, .inl (G.2 0, 300, .inl ul)), (bua, .inl (G.2 0, 300, .inl ua))]) (va_runV (As := [.int p1, .int ((upd ct (hd : Int32).toNatClampNeg ((ct (hd : Int32).toNatClampNeg) + 1)) (hd : Int32).toNatClampNeg), .int ((upd cr (hd : Int32).toNatClampNeg (((cr (hd : Int32).toNatClampNeg) <<< (8 &&& 31)) ||| (p2 &&& 255))) (hd : Int32).toNatClampNeg)]) (rest := [.int p1, .ref m0]) ⟨hx, hb, hml, hown, hts⟩ (c_X6_came l G m0 bkd btr bdl bop baw bsd bud blo bwl btp bgv bse bro bot bct bcr bub bul bua _ 0 mt hd mmd typ rd giv us mkd mtr mdl opv aw sd ud lo wl p1 ((upd ct (hd : Int32).toNatClampNeg ((ct (hd : Int32).toNatClampNeg) + 1)) (hd : Int32).toNatClampNeg) ((upd cr (hd : Int32).toNatClampNeg (((cr (hd : Int32).toNatClampNeg) <<< (8 &&& 31)) ||| (p2 &&& 255))) (hd : Int32).toNatClampNeg) hh (made_in c_98)) (cwV 3 hts gX6_key_X6_came rfl rfl rfl (by decide +kernel) ⟨Nat.le_of_ble_eq_true rfl, Nat.le_of_ble_eq_true rfl⟩) (pR_V hK hPc hDc (q0 := 0) rfl rfl) rfl rfl hl.1 rfl (lv_room (Nat.le_of_ble_eq_true rfl)) dX6_key_109 ⟨Nat.le_of_ble_eq_true rfl, Nat.le_of_ble_eq_true rfl⟩) hP hD hS hA [0, 1, 2, 3, 4, 5, 6, 9, 10, 11] [7, 8, 12, 13, 14] rfl rfl (by decide) (by decide) (fun r1 u1 ez1 H locs hP hD hS => ?_)
      have hP : va_P G.1 vwCl [(bct, .inl (G.2 0, 4, .inl (upd (upd ct (hd : Int32).toNatClampNeg ((ct (hd : Int32).toNatClampNeg) + 1)) (hd : Int32).toNatClampNeg 0))), (bcr, .inl (G.2 0, 4, .inl (upd (upd cr (hd : Int32).toNatClampNeg (((cr (hd : Int32).toNatClampNeg) <<< (8 &&& 31)) ||| (p2 &&& 255))) (hd : Int32).toNatClampNeg 0))), (bub, .inl (G.2 0, 300, .inl ub)), (bul, .inl (G.2 0, 300, .inl ul)), (bua, .inl (G.2 0, 300, .inl ua)), (m0, .inr (8, [.int 0, .long mt, .int hd, .int mmd, .ref bkd, .ref btr, .ref bdl, .int typ, .int rd, .ref btp, .int giv, .ref bgv, .ref bse, .ref bro, .ref bop, .ref baw, .ref bsd, .ref bot, .ref bct, .ref bcr, .ref bud, .ref blo, .ref bwl, .int us, .ref bub, .ref bul, .ref bua])), (bkd, .inl (G.2 0, 21, .inl mkd)), (btr, .inl (G.2 0, 21, .inl mtr)), (bdl, .inl (G.2 1, 21, .inr (.inl mdl))), (bop, .inl (G.2 0, 4, .inl u1.1)), (baw, .inl (G.2 0, 4, .inl u1.2.1)), (bsd, .inl (G.2 0, 4, .inl sd)), (bud, .inl (G.2 0, 84, .inl u1.2.2.1)), (blo, .inl (G.2 1, 84, .inr (.inl u1.2.2.2.1))), (bwl, .inl (G.2 2, 84, .inl u1.2.2.2.2))] H := hP
      have hD : va_D A [(bct, .inl (G.2 0, 4, .inl (upd (upd ct (hd : Int32).toNatClampNeg ((ct (hd : Int32).toNatClampNeg) + 1)) (hd : Int32).toNatClampNeg 0))), (bcr, .inl (G.2 0, 4, .inl (upd (upd cr (hd : Int32).toNatClampNeg (((cr (hd : Int32).toNatClampNeg) <<< (8 &&& 31)) ||| (p2 &&& 255))) (hd : Int32).toNatClampNeg 0))), (bub, .inl (G.2 0, 300, .inl ub)), (bul, .inl (G.2 0, 300, .inl ul)), (bua, .inl (G.2 0, 300, .inl ua)), (m0, .inr (8, [.int 0, .long mt, .int hd, .int mmd, .ref bkd, .ref btr, .ref bdl, .int typ, .int rd, .ref btp, .int giv, .ref bgv, .ref bse, .ref bro, .ref bop, .ref baw, .ref bsd, .ref bot, .ref bct, .ref bcr, .ref bud, .ref blo, .ref bwl, .int us, .ref bub, .ref bul, .ref bua])), (bkd, .inl (G.2 0, 21, .inl mkd)), (btr, .inl (G.2 0, 21, .inl mtr)), (bdl, .inl (G.2 1, 21, .inr (.inl mdl))), (bop, .inl (G.2 0, 4, .inl u1.1)), (baw, .inl (G.2 0, 4, .inl u1.2.1)), (bsd, .inl (G.2 0, 4, .inl sd)), (bud, .inl (G.2 0, 84, .inl u1.2.2.1)), (blo, .inl (G.2 1, 84, .inr (.inl u1.2.2.2.1))), (bwl, .inl (G.2 2, 84, .inl u1.2.2.2.2))] := hD
      have hF := lz2_e hF ez1
      have hPc := hP.sub (ws' := [(m0, .inr (8, [.int 0, .long mt, .int hd, .int mmd, .ref bkd, .ref btr, .ref bdl, .int typ, .int rd, .ref btp, .int giv, .ref bgv, .ref bse, .ref bro, .ref bop, .ref baw, .ref bsd, .ref bot, .ref bct, .ref bcr, .ref bud, .ref blo, .ref bwl, .int us, .ref bub, .ref bul, .ref bua])), (bub, .inl (G.2 0, 300, .inl ub)), (bul, .inl (G.2 0, 300, .inl ul)), (bua, .inl (G.2 0, 300, .inl ua))]) [5, 2, 3, 4] rfl
      have hDc := hD.sub (ws' := [(m0, .inr (8, [.int 0, .long mt, .int hd, .int mmd, .ref bkd, .ref btr, .ref bdl, .int typ, .int rd, .ref btp, .int giv, .ref bgv, .ref bse, .ref bro, .ref bop, .ref baw, .ref bsd, .ref bot, .ref bct, .ref bcr, .ref bud, .ref blo, .ref bwl, .int us, .ref bub, .ref bul, .ref bua])), (bub, .inl (G.2 0, 300, .inl ub)), (bul, .inl (G.2 0, 300, .inl ul)), (bua, .inl (G.2 0, 300, .inl ua))]) [5, 2, 3, 4] (by decide) rfl
      refine cl_i (wr := [(bct, .inl (G.2 0, 4, .inl (upd (upd ct (hd : Int32).toNatClampNeg ((ct (hd : Int32).toNatClampNeg) + 1)) (hd : Int32).toNatClampNeg 0))), (bcr, .inl (G.2 0, 4, .inl (upd (upd cr (hd : Int32).toNatClampNeg (((cr (hd : Int32).toNatClampNeg) <<< (8 &&& 31)) ||| (p2 &&& 255))) (hd : Int32).toNatClampNeg 0))), (bkd, .inl (G.2 0, 21, .inl mkd)), (btr, .inl (G.2 0, 21, .inl mtr)), (bdl, .inl (G.2 1, 21, .inr (.inl mdl))), (bop, .inl (G.2 0, 4, .inl u1.1)), (baw, .inl (G.2 0, 4, .inl u1.2.1)), (bsd, .inl (G.2 0, 4, .inl sd)), (bud, .inl (G.2 0, 84, .inl u1.2.2.1)), (blo, .inl (G.2 1, 84, .inr (.inl u1.2.2.2.1))), (bwl, .inl (G.2 2, 84, .inl u1.2.2.2.2))]) (va_runV (As := [.int p1, .int r1]) (rest := []) ⟨hx, hb, hml, hown, hts⟩ (c_X6_note l G m0 bub bul bua bkd btr bdl btp bgv bse bro bop baw bsd bot bct bcr bud blo bwl _ 0 mt hd mmd typ rd giv us ub ul ua p1 r1 hu) (cwV 2 hts gX6_key_X6_note rfl rfl rfl (by decide +kernel) ⟨Nat.le_of_ble_eq_true rfl, Nat.le_of_ble_eq_true rfl⟩) (pR_V hK hPc hDc (q0 := 0) rfl rfl) rfl rfl hl.1 rfl (lv_room (Nat.le_of_ble_eq_true rfl)) dX6_key_112 ⟨Nat.le_of_ble_eq_true rfl, Nat.le_of_ble_eq_true rfl⟩) hP hD hS hA [5, 2, 3, 4] [0, 1, 6, 7, 8, 9, 10, 11, 12, 13, 14] rfl rfl (by decide) (by decide) (fun r2 u2 ez2 H locs hP hD hS => ?_)
      have hP : va_P G.1 vwCl [(bct, .inl (G.2 0, 4, .inl (upd (upd ct (hd : Int32).toNatClampNeg ((ct (hd : Int32).toNatClampNeg) + 1)) (hd : Int32).toNatClampNeg 0))), (bcr, .inl (G.2 0, 4, .inl (upd (upd cr (hd : Int32).toNatClampNeg (((cr (hd : Int32).toNatClampNeg) <<< (8 &&& 31)) ||| (p2 &&& 255))) (hd : Int32).toNatClampNeg 0))), (bkd, .inl (G.2 0, 21, .inl mkd)), (btr, .inl (G.2 0, 21, .inl mtr)), (bdl, .inl (G.2 1, 21, .inr (.inl mdl))), (bop, .inl (G.2 0, 4, .inl u1.1)), (baw, .inl (G.2 0, 4, .inl u1.2.1)), (bsd, .inl (G.2 0, 4, .inl sd)), (bud, .inl (G.2 0, 84, .inl u1.2.2.1)), (blo, .inl (G.2 1, 84, .inr (.inl u1.2.2.2.1))), (bwl, .inl (G.2 2, 84, .inl u1.2.2.2.2)), (m0, .inr (8, [.int 0, .long mt, .int hd, .int mmd, .ref bkd, .ref btr, .ref bdl, .int typ, .int rd, .ref btp, .int giv, .ref bgv, .ref bse, .ref bro, .ref bop, .ref baw, .ref bsd, .ref bot, .ref bct, .ref bcr, .ref bud, .ref blo, .ref bwl, .int u2.1, .ref bub, .ref bul, .ref bua])), (bub, .inl (G.2 0, 300, .inl u2.2.1)), (bul, .inl (G.2 0, 300, .inl u2.2.2.1)), (bua, .inl (G.2 0, 300, .inl u2.2.2.2))] H := hP
      have hD : va_D A [(bct, .inl (G.2 0, 4, .inl (upd (upd ct (hd : Int32).toNatClampNeg ((ct (hd : Int32).toNatClampNeg) + 1)) (hd : Int32).toNatClampNeg 0))), (bcr, .inl (G.2 0, 4, .inl (upd (upd cr (hd : Int32).toNatClampNeg (((cr (hd : Int32).toNatClampNeg) <<< (8 &&& 31)) ||| (p2 &&& 255))) (hd : Int32).toNatClampNeg 0))), (bkd, .inl (G.2 0, 21, .inl mkd)), (btr, .inl (G.2 0, 21, .inl mtr)), (bdl, .inl (G.2 1, 21, .inr (.inl mdl))), (bop, .inl (G.2 0, 4, .inl u1.1)), (baw, .inl (G.2 0, 4, .inl u1.2.1)), (bsd, .inl (G.2 0, 4, .inl sd)), (bud, .inl (G.2 0, 84, .inl u1.2.2.1)), (blo, .inl (G.2 1, 84, .inr (.inl u1.2.2.2.1))), (bwl, .inl (G.2 2, 84, .inl u1.2.2.2.2)), (m0, .inr (8, [.int 0, .long mt, .int hd, .int mmd, .ref bkd, .ref btr, .ref bdl, .int typ, .int rd, .ref btp, .int giv, .ref bgv, .ref bse, .ref bro, .ref bop, .ref baw, .ref bsd, .ref bot, .ref bct, .ref bcr, .ref bud, .ref blo, .ref bwl, .int u2.1, .ref bub, .ref bul, .ref bua])), (bub, .inl (G.2 0, 300, .inl u2.2.1)), (bul, .inl (G.2 0, 300, .inl u2.2.2.1)), (bua, .inl (G.2 0, 300, .inl u2.2.2.2))] := hD
      have hF := lz2_e hF ez2
      refine lv_goto (tgt := 119) hx hb dX6_key_115 (by decide) ?_
      exact W.iret (v := r2) hx hb hr (fun t ht hW => ⟨⟨r2, (0, u2.1, u1.1, u1.2.1, (upd (upd ct (hd : Int32).toNatClampNeg ((ct (hd : Int32).toNatClampNeg) + 1)) (hd : Int32).toNatClampNeg 0), (upd (upd cr (hd : Int32).toNatClampNeg (((cr (hd : Int32).toNatClampNeg) <<< (8 &&& 31)) ||| (p2 &&& 255))) (hd : Int32).toNatClampNeg 0), u1.2.2.1, u1.2.2.2.1, u1.2.2.2.2, u2.2.1, u2.2.2.1, u2.2.2.2), rfl, hF.symm, by rw [ht]; exact hP.sub [11, 2, 3, 4, 5, 6, 7, 0, 1, 8, 9, 10, 12, 13, 14] rfl, hD.sub [11, 2, 3, 4, 5, 6, 7, 0, 1, 8, 9, 10, 12, 13, 14] (by decide) rfl⟩, hS.F ht⟩) hS.2.2 dX6_key_119
  · have hF := if_t hF c_46
    refine lv_iconst (v := 0) hx hb dX6_key_49 (by decide) ?_
    exact W.iret (v := 0) hx hb hr (fun t ht hW => ⟨⟨0, (0, us, opv, aw, (upd ct (hd : Int32).toNatClampNeg ((ct (hd : Int32).toNatClampNeg) + 1)), (upd cr (hd : Int32).toNatClampNeg (((cr (hd : Int32).toNatClampNeg) <<< (8 &&& 31)) ||| (p2 &&& 255))), ud, lo, wl, ub, ul, ua), rfl, hF.symm, by rw [ht]; exact hP.sub [0, 1, 2, 3, 4, 5, 6, 7, 8, 9, 10, 11, 12, 13, 14] rfl, hD.sub [0, 1, 2, 3, 4, 5, 6, 7, 8, 9, 10, 11, 12, 13, 14] (by decide) rfl⟩, hS.F ht⟩) hS.2.2 dX6_key_50

def F_X6_out (cod : Int32) (mt : Int64) (hd : Int32) (mmd : Int32) (typ : Int32) (rd : Int32) (giv : Int32) (us : Int32) (ot : Nat → Int32) (p1 : Int32) : Int32 × Int32 :=
  (if p1 < 0 then (0, 1) else (if p1 ≤ 3 then (((((ot (hd : Int32).toNatClampNeg) >>> (((24 - (8 * p1)) : Int32) &&& 31)) : Int32).toInt8.toInt32), 0) else (0, 1)))
set_option maxHeartbeats 4000000 in
set_option maxRecDepth 100000 in
theorem c_X6_out (l : Launch) (G : gG) (m0 bot bkd btr bdl btp bgv bse bro bop baw bsd bct bcr bud blo bwl bub bul bua : Nat) (sz : Nat) (cod : Int32) (mt : Int64) (hd : Int32) (mmd : Int32) (typ : Int32) (rd : Int32) (giv : Int32) (us : Int32) (ot : Nat → Int32) (p1 : Int32) (hh : vp_in hd 4) : Met l yX6_out wsX6_out ({ frames := 0, cells := 0, slots := 0, locals := 0 }) (va_Pc [.ref m0, .int p1] (pR G [(m0, .inr (8, [.int cod, .long mt, .int hd, .int mmd, .ref bkd, .ref btr, .ref bdl, .int typ, .int rd, .ref btp, .int giv, .ref bgv, .ref bse, .ref bro, .ref bop, .ref baw, .ref bsd, .ref bot, .ref bct, .ref bcr, .ref bud, .ref blo, .ref bwl, .int us, .ref bub, .ref bul, .ref bua])), (bot, .inl (G.2 0, 4, .inl ot))] sz)) (va_Qi (fun (r : Int32) (u : Int32) => (r, u) = F_X6_out cod mt hd mmd typ rd giv us ot p1) (fun u t => pO G [(m0, .inr (8, [.int u, .long mt, .int hd, .int mmd, .ref bkd, .ref btr, .ref bdl, .int typ, .int rd, .ref btp, .int giv, .ref bgv, .ref bse, .ref bro, .ref bop, .ref baw, .ref bsd, .ref bot, .ref bct, .ref bcr, .ref bud, .ref blo, .ref bwl, .int us, .ref bub, .ref bul, .ref bua])), (bot, .inl (G.2 0, 4, .inl ot))] (va_A [(m0, .inr (8, [.int cod, .long mt, .int hd, .int mmd, .ref bkd, .ref btr, .ref bdl, .int typ, .int rd, .ref btp, .int giv, .ref bgv, .ref bse, .ref bro, .ref bop, .ref baw, .ref bsd, .ref bot, .ref bct, .ref bcr, .ref bud, .ref blo, .ref bwl, .int us, .ref bub, .ref bul, .ref bua])), (bot, .inl (G.2 0, 4, .inl ot))] sz) t) (va_A [(m0, .inr (8, [.int cod, .long mt, .int hd, .int mmd, .ref bkd, .ref btr, .ref bdl, .int typ, .int rd, .ref btp, .int giv, .ref bgv, .ref bse, .ref bro, .ref bop, .ref baw, .ref bsd, .ref bot, .ref bct, .ref bcr, .ref bud, .ref blo, .ref bwl, .int us, .ref bub, .ref bul, .ref bua])), (bot, .inl (G.2 0, 4, .inl ot))] sz)) 0 0 (va_A [(m0, .inr (8, [.int cod, .long mt, .int hd, .int mmd, .ref bkd, .ref btr, .ref bdl, .int typ, .int rd, .ref btp, .int giv, .ref bgv, .ref bse, .ref bro, .ref bop, .ref baw, .ref bsd, .ref bot, .ref bct, .ref bcr, .ref bud, .ref blo, .ref bwl, .int us, .ref bub, .ref bul, .ref bua])), (bot, .inl (G.2 0, 4, .inl ot))] sz) := by
  refine Met.ofW (cc := cX6_out) (maxL := 2) (ret := (some .byte)) (by decide) rfl ?_
  intro p e s m args below meth c s₁ B hml hv
  obtain ⟨rfl, hsz, hP, hK, hD0⟩ := hv
  have hx := B.exec
  have hb := B.bytes
  have hr := B.returns
  have hts := atoms_spec (ws := wsX6_out) B.pre
  have hown : s.vm.findClass RX6 = some m.cls := findClass_of_methodNamed B.named
  have hlocks := B.notSynchronized
  subst hsz
  have iX6 : ∀ w ∈ wsX60, w ∈ wsX6_out := by decide +kernel
  have hD := hD0.self (sz := s.heap.size)
  generalize hAe : va_A [(m0, .inr (8, [.int cod, .long mt, .int hd, .int mmd, .ref bkd, .ref btr, .ref bdl, .int typ, .int rd, .ref btp, .int giv, .ref bgv, .ref bse, .ref bro, .ref bop, .ref baw, .ref bsd, .ref bot, .ref bct, .ref bcr, .ref bud, .ref blo, .ref bwl, .int us, .ref bub, .ref bul, .ref bua])), (bot, .inl (G.2 0, 4, .inl ot))] s.heap.size = A at hD ⊢
  have hA : ∀ q : Nat, s.heap.size ≤ q → A q := fun q h => by rw [← hAe]; exact Or.inr h
  have hS : va_S A s.heap s.heap [] := va_S.rf
  have hP : va_P G.1 vwCl [(m0, .inr (8, [.int cod, .long mt, .int hd, .int mmd, .ref bkd, .ref btr, .ref bdl, .int typ, .int rd, .ref btp, .int giv, .ref bgv, .ref bse, .ref bro, .ref bop, .ref baw, .ref bsd, .ref bot, .ref bct, .ref bcr, .ref bud, .ref blo, .ref bwl, .int us, .ref bub, .ref bul, .ref bua])), (bot, .inl (G.2 0, 4, .inl ot))] s.heap := hP
  have hl := lv_entry ([.ref m0, .int p1]) (n := 2) (Nat.le_of_ble_eq_true rfl)
  rw [lg_entry_eq]
  generalize (lg_sl ([.ref m0, .int p1]) ++ List.replicate (2 - (lg_sl ([.ref m0, .int p1])).length) Slot.unset).toArray = ls at hl ⊢
  have hl : lv_has ls 2 [(0, .ref m0), (1, .int p1)] := hl
  have hF : F_X6_out cod mt hd mmd typ rd giv us ot p1 = F_X6_out cod mt hd mmd typ rd giv us ot p1 := rfl
  refine lv_aload_n hx hb dX6_out_0 rfl (lv_at hl 0 rfl) ?_
  refine lv_iload_n hx hb dX6_out_1 rfl (lv_at hl 1 rfl) ?_
  refine lv_if_lt (tgt := 10) hx hb dX6_out_2 (by decide) (fun c_2 => ?_) (fun c_2 => ?_)
  · have hF := if_t hF c_2
    refine lv_iconst (v := 1) hx hb dX6_out_10 (by decide) ?_
    refine lv_goto (tgt := 15) hx hb dX6_out_11 (by decide) ?_
    refine va_put (D := G.1) (ci := 8) (v := .int 1) (ty := .int) (C := RX6) (T := TX6) (N := 27) hx hb hts iX6 tyX6 tyX6_ok nmX6 hown hK.1 hP hD hS 0 rfl rfl 0 (by decide) (hts (.fieldLink RX6 71 "RightsStepsModel" "code" "I") (by decide +kernel)) (fun _ h9 => h9) rfl (by decide +kernel) rfl rfl (Nat.le_of_ble_eq_true rfl) dX6_out_15 (fun H locs hP hD hS => ?_)
    have hP : va_P G.1 vwCl [(m0, .inr (8, [.int 1, .long mt, .int hd, .int mmd, .ref bkd, .ref btr, .ref bdl, .int typ, .int rd, .ref btp, .int giv, .ref bgv, .ref bse, .ref bro, .ref bop, .ref baw, .ref bsd, .ref bot, .ref bct, .ref bcr, .ref bud, .ref blo, .ref bwl, .int us, .ref bub, .ref bul, .ref bua])), (bot, .inl (G.2 0, 4, .inl ot))] H := hP
    have hD : va_D A [(m0, .inr (8, [.int 1, .long mt, .int hd, .int mmd, .ref bkd, .ref btr, .ref bdl, .int typ, .int rd, .ref btp, .int giv, .ref bgv, .ref bse, .ref bro, .ref bop, .ref baw, .ref bsd, .ref bot, .ref bct, .ref bcr, .ref bud, .ref blo, .ref bwl, .int us, .ref bub, .ref bul, .ref bua])), (bot, .inl (G.2 0, 4, .inl ot))] := hD
    refine lv_aload_n hx hb dX6_out_18 rfl (lv_at hl 0 rfl) ?_
    refine va_get (D := G.1) (ci := 8) (v := .int 1) (C := RX6) (T := TX6) (N := 27) hx hb hts iX6 hown hK.1 hP 0 rfl rfl 0 (by decide) (hts (.fieldLink RX6 71 "RightsStepsModel" "code" "I") (by decide +kernel)) (fun _ h9 => h9) rfl dX6_out_19 ?_
    refine lv_if_le (tgt := 29) hx hb dX6_out_22 (by decide) (fun q => absurd q (by decide)) (fun _ => ?_)
    refine lv_iconst (v := 0) hx hb dX6_out_25 (by decide) ?_
    refine lv_goto (tgt := 47) hx hb dX6_out_26 (by decide) ?_
    exact W.zret (v := 0) (ty := .byte) hx hb hr (by first | rfl | exact pk_nb _) (fun t ht hW => ⟨⟨0, 1, rfl, hF.symm, by rw [ht]; exact hP.sub [0, 1] rfl, hD.sub [0, 1] (by decide) rfl⟩, hS.F ht⟩) hS.2.2 dX6_out_47
  · have hF := if_f hF c_2
    refine lv_iload_n hx hb dX6_out_5 rfl (lv_at hl 1 rfl) ?_
    refine lv_iconst (v := 3) hx hb dX6_out_6 (by decide) ?_
    refine lv_icmp_le (tgt := 14) hx hb dX6_out_7 (by decide) (fun c_7 => ?_) (fun c_7 => ?_)
    · have hF := if_t hF c_7
      refine lv_iconst (v := 0) hx hb dX6_out_14 (by decide) ?_
      refine va_put (D := G.1) (ci := 8) (v := .int 0) (ty := .int) (C := RX6) (T := TX6) (N := 27) hx hb hts iX6 tyX6 tyX6_ok nmX6 hown hK.1 hP hD hS 0 rfl rfl 0 (by decide) (hts (.fieldLink RX6 71 "RightsStepsModel" "code" "I") (by decide +kernel)) (fun _ h9 => h9) rfl (by decide +kernel) rfl rfl (Nat.le_of_ble_eq_true rfl) dX6_out_15 (fun H locs hP hD hS => ?_)
      have hP : va_P G.1 vwCl [(m0, .inr (8, [.int 0, .long mt, .int hd, .int mmd, .ref bkd, .ref btr, .ref bdl, .int typ, .int rd, .ref btp, .int giv, .ref bgv, .ref bse, .ref bro, .ref bop, .ref baw, .ref bsd, .ref bot, .ref bct, .ref bcr, .ref bud, .ref blo, .ref bwl, .int us, .ref bub, .ref bul, .ref bua])), (bot, .inl (G.2 0, 4, .inl ot))] H := hP
      have hD : va_D A [(m0, .inr (8, [.int 0, .long mt, .int hd, .int mmd, .ref bkd, .ref btr, .ref bdl, .int typ, .int rd, .ref btp, .int giv, .ref bgv, .ref bse, .ref bro, .ref bop, .ref baw, .ref bsd, .ref bot, .ref bct, .ref bcr, .ref bud, .ref blo, .ref bwl, .int us, .ref bub, .ref bul, .ref bua])), (bot, .inl (G.2 0, 4, .inl ot))] := hD
      refine lv_aload_n hx hb dX6_out_18 rfl (lv_at hl 0 rfl) ?_
      refine va_get (D := G.1) (ci := 8) (v := .int 0) (C := RX6) (T := TX6) (N := 27) hx hb hts iX6 hown hK.1 hP 0 rfl rfl 0 (by decide) (hts (.fieldLink RX6 71 "RightsStepsModel" "code" "I") (by decide +kernel)) (fun _ h9 => h9) rfl dX6_out_19 ?_
      refine lv_if_le (tgt := 29) hx hb dX6_out_22 (by decide) (fun _ => ?_) (fun q => absurd (by decide) q)
      refine lv_aload_n hx hb dX6_out_29 rfl (lv_at hl 0 rfl) ?_
      refine va_get (D := G.1) (ci := 8) (v := .ref bot) (C := RX6) (T := TX6) (N := 27) hx hb hts iX6 hown hK.1 hP 0 rfl rfl 17 (by decide) (hts (.fieldLink RX6 43 "RightsStepsModel" "out" "[I") (by decide +kernel)) (fun _ h9 => h9) rfl dX6_out_30 ?_
      refine lv_aload_n hx hb dX6_out_33 rfl (lv_at hl 0 rfl) ?_
      refine va_get (D := G.1) (ci := 8) (v := .int hd) (C := RX6) (T := TX6) (N := 27) hx hb hts iX6 hown hK.1 hP 0 rfl rfl 2 (by decide) (hts (.fieldLink RX6 96 "RightsStepsModel" "hand" "I") (by decide +kernel)) (fun _ h9 => h9) rfl dX6_out_34 ?_
      refine va_iald (f := ot) hx hb hK.1 hP 1 0 rfl rfl hh dX6_out_37 ?_
      refine lv_bipush (v := 24) hx hb dX6_out_38 (by decide) ?_
      refine lv_bipush (v := 8) hx hb dX6_out_40 (by decide) ?_
      refine lv_iload_n hx hb dX6_out_42 rfl (lv_at hl 1 rfl) ?_
      refine lv_imul hx hb dX6_out_43 ?_
      refine lv_isub hx hb dX6_out_44 ?_
      refine lv_ishr hx hb dX6_out_45 ?_
      refine lv_i2b (v := ((((ot (hd : Int32).toNatClampNeg) >>> (((24 - (8 * p1)) : Int32) &&& 31)) : Int32).toInt8.toInt32)) hx hb dX6_out_46 rfl ?_
      exact W.zret (v := ((((ot (hd : Int32).toNatClampNeg) >>> (((24 - (8 * p1)) : Int32) &&& 31)) : Int32).toInt8.toInt32)) (ty := .byte) hx hb hr (by first | rfl | exact pk_nb _) (fun t ht hW => ⟨⟨((((ot (hd : Int32).toNatClampNeg) >>> (((24 - (8 * p1)) : Int32) &&& 31)) : Int32).toInt8.toInt32), 0, rfl, hF.symm, by rw [ht]; exact hP.sub [0, 1] rfl, hD.sub [0, 1] (by decide) rfl⟩, hS.F ht⟩) hS.2.2 dX6_out_47
    · have hF := if_f hF c_7
      refine lv_iconst (v := 1) hx hb dX6_out_10 (by decide) ?_
      refine lv_goto (tgt := 15) hx hb dX6_out_11 (by decide) ?_
      refine va_put (D := G.1) (ci := 8) (v := .int 1) (ty := .int) (C := RX6) (T := TX6) (N := 27) hx hb hts iX6 tyX6 tyX6_ok nmX6 hown hK.1 hP hD hS 0 rfl rfl 0 (by decide) (hts (.fieldLink RX6 71 "RightsStepsModel" "code" "I") (by decide +kernel)) (fun _ h9 => h9) rfl (by decide +kernel) rfl rfl (Nat.le_of_ble_eq_true rfl) dX6_out_15 (fun H locs hP hD hS => ?_)
      have hP : va_P G.1 vwCl [(m0, .inr (8, [.int 1, .long mt, .int hd, .int mmd, .ref bkd, .ref btr, .ref bdl, .int typ, .int rd, .ref btp, .int giv, .ref bgv, .ref bse, .ref bro, .ref bop, .ref baw, .ref bsd, .ref bot, .ref bct, .ref bcr, .ref bud, .ref blo, .ref bwl, .int us, .ref bub, .ref bul, .ref bua])), (bot, .inl (G.2 0, 4, .inl ot))] H := hP
      have hD : va_D A [(m0, .inr (8, [.int 1, .long mt, .int hd, .int mmd, .ref bkd, .ref btr, .ref bdl, .int typ, .int rd, .ref btp, .int giv, .ref bgv, .ref bse, .ref bro, .ref bop, .ref baw, .ref bsd, .ref bot, .ref bct, .ref bcr, .ref bud, .ref blo, .ref bwl, .int us, .ref bub, .ref bul, .ref bua])), (bot, .inl (G.2 0, 4, .inl ot))] := hD
      refine lv_aload_n hx hb dX6_out_18 rfl (lv_at hl 0 rfl) ?_
      refine va_get (D := G.1) (ci := 8) (v := .int 1) (C := RX6) (T := TX6) (N := 27) hx hb hts iX6 hown hK.1 hP 0 rfl rfl 0 (by decide) (hts (.fieldLink RX6 71 "RightsStepsModel" "code" "I") (by decide +kernel)) (fun _ h9 => h9) rfl dX6_out_19 ?_
      refine lv_if_le (tgt := 29) hx hb dX6_out_22 (by decide) (fun q => absurd q (by decide)) (fun _ => ?_)
      refine lv_iconst (v := 0) hx hb dX6_out_25 (by decide) ?_
      refine lv_goto (tgt := 47) hx hb dX6_out_26 (by decide) ?_
      exact W.zret (v := 0) (ty := .byte) hx hb hr (by first | rfl | exact pk_nb _) (fun t ht hW => ⟨⟨0, 1, rfl, hF.symm, by rw [ht]; exact hP.sub [0, 1] rfl, hD.sub [0, 1] (by decide) rfl⟩, hS.F ht⟩) hS.2.2 dX6_out_47

def F_X6_open (cod : Int32) (mt : Int64) (hd : Int32) (mmd : Int32) (typ : Int32) (rd : Int32) (giv : Int32) (us : Int32) (mtr : Nat → Int32) (opv : Nat → Int32) (p1 : Int32) : Int32 × Int32 :=
  (if (F_X6_isMade 0 mt hd mmd typ rd giv us mtr p1) = 0 then ((-1), 0) else (if (opv (hd : Int32).toNatClampNeg) = p1 then (1, 0) else (0, 0)))
set_option maxHeartbeats 4000000 in
set_option maxRecDepth 100000 in
theorem c_X6_open (l : Launch) (G : gG) (m0 btr bop bkd bdl btp bgv bse bro baw bsd bot bct bcr bud blo bwl bub bul bua : Nat) (sz : Nat) (cod : Int32) (mt : Int64) (hd : Int32) (mmd : Int32) (typ : Int32) (rd : Int32) (giv : Int32) (us : Int32) (mtr : Nat → Int32) (opv : Nat → Int32) (p1 : Int32) (hh : vp_in hd 4) : Met l yX6_open wsX6_open ({ frames := 1, cells := 0, slots := 0, locals := 21 }) (va_Pc [.ref m0, .int p1] (pR G [(m0, .inr (8, [.int cod, .long mt, .int hd, .int mmd, .ref bkd, .ref btr, .ref bdl, .int typ, .int rd, .ref btp, .int giv, .ref bgv, .ref bse, .ref bro, .ref bop, .ref baw, .ref bsd, .ref bot, .ref bct, .ref bcr, .ref bud, .ref blo, .ref bwl, .int us, .ref bub, .ref bul, .ref bua])), (btr, .inl (G.2 0, 21, .inl mtr)), (bop, .inl (G.2 0, 4, .inl opv))] sz)) (va_Qi (fun (r : Int32) (u : Int32) => (r, u) = F_X6_open cod mt hd mmd typ rd giv us mtr opv p1) (fun u t => pO G [(m0, .inr (8, [.int u, .long mt, .int hd, .int mmd, .ref bkd, .ref btr, .ref bdl, .int typ, .int rd, .ref btp, .int giv, .ref bgv, .ref bse, .ref bro, .ref bop, .ref baw, .ref bsd, .ref bot, .ref bct, .ref bcr, .ref bud, .ref blo, .ref bwl, .int us, .ref bub, .ref bul, .ref bua])), (btr, .inl (G.2 0, 21, .inl mtr)), (bop, .inl (G.2 0, 4, .inl opv))] (va_A [(m0, .inr (8, [.int cod, .long mt, .int hd, .int mmd, .ref bkd, .ref btr, .ref bdl, .int typ, .int rd, .ref btp, .int giv, .ref bgv, .ref bse, .ref bro, .ref bop, .ref baw, .ref bsd, .ref bot, .ref bct, .ref bcr, .ref bud, .ref blo, .ref bwl, .int us, .ref bub, .ref bul, .ref bua])), (btr, .inl (G.2 0, 21, .inl mtr)), (bop, .inl (G.2 0, 4, .inl opv))] sz) t) (va_A [(m0, .inr (8, [.int cod, .long mt, .int hd, .int mmd, .ref bkd, .ref btr, .ref bdl, .int typ, .int rd, .ref btp, .int giv, .ref bgv, .ref bse, .ref bro, .ref bop, .ref baw, .ref bsd, .ref bot, .ref bct, .ref bcr, .ref bud, .ref blo, .ref bwl, .int us, .ref bub, .ref bul, .ref bua])), (btr, .inl (G.2 0, 21, .inl mtr)), (bop, .inl (G.2 0, 4, .inl opv))] sz)) 0 0 (va_A [(m0, .inr (8, [.int cod, .long mt, .int hd, .int mmd, .ref bkd, .ref btr, .ref bdl, .int typ, .int rd, .ref btp, .int giv, .ref bgv, .ref bse, .ref bro, .ref bop, .ref baw, .ref bsd, .ref bot, .ref bct, .ref bcr, .ref bud, .ref blo, .ref bwl, .int us, .ref bub, .ref bul, .ref bua])), (btr, .inl (G.2 0, 21, .inl mtr)), (bop, .inl (G.2 0, 4, .inl opv))] sz) := by
  refine Met.ofW (cc := cX6_open) (maxL := 2) (ret := (some .int)) (by decide) rfl ?_
  intro p e s m args below meth c s₁ B hml hv
  obtain ⟨rfl, hsz, hP, hK, hD0⟩ := hv
  have hx := B.exec
  have hb := B.bytes
  have hr := B.returns
  have hts := atoms_spec (ws := wsX6_open) B.pre
  have hown : s.vm.findClass RX6 = some m.cls := findClass_of_methodNamed B.named
  have hlocks := B.notSynchronized
  subst hsz
  have iX6 : ∀ w ∈ wsX60, w ∈ wsX6_open := by decide +kernel
  have hD := hD0.self (sz := s.heap.size)
  generalize hAe : va_A [(m0, .inr (8, [.int cod, .long mt, .int hd, .int mmd, .ref bkd, .ref btr, .ref bdl, .int typ, .int rd, .ref btp, .int giv, .ref bgv, .ref bse, .ref bro, .ref bop, .ref baw, .ref bsd, .ref bot, .ref bct, .ref bcr, .ref bud, .ref blo, .ref bwl, .int us, .ref bub, .ref bul, .ref bua])), (btr, .inl (G.2 0, 21, .inl mtr)), (bop, .inl (G.2 0, 4, .inl opv))] s.heap.size = A at hD ⊢
  have hA : ∀ q : Nat, s.heap.size ≤ q → A q := fun q h => by rw [← hAe]; exact Or.inr h
  have hS : va_S A s.heap s.heap [] := va_S.rf
  have hP : va_P G.1 vwCl [(m0, .inr (8, [.int cod, .long mt, .int hd, .int mmd, .ref bkd, .ref btr, .ref bdl, .int typ, .int rd, .ref btp, .int giv, .ref bgv, .ref bse, .ref bro, .ref bop, .ref baw, .ref bsd, .ref bot, .ref bct, .ref bcr, .ref bud, .ref blo, .ref bwl, .int us, .ref bub, .ref bul, .ref bua])), (btr, .inl (G.2 0, 21, .inl mtr)), (bop, .inl (G.2 0, 4, .inl opv))] s.heap := hP
  have hl := lv_entry ([.ref m0, .int p1]) (n := 2) (Nat.le_of_ble_eq_true rfl)
  rw [lg_entry_eq]
  generalize (lg_sl ([.ref m0, .int p1]) ++ List.replicate (2 - (lg_sl ([.ref m0, .int p1])).length) Slot.unset).toArray = ls at hl ⊢
  have hl : lv_has ls 2 [(0, .ref m0), (1, .int p1)] := hl
  have hF : F_X6_open cod mt hd mmd typ rd giv us mtr opv p1 = F_X6_open cod mt hd mmd typ rd giv us mtr opv p1 := rfl
  refine lv_aload_n hx hb dX6_open_0 rfl (lv_at hl 0 rfl) ?_
  refine lv_iconst (v := 0) hx hb dX6_open_1 (by decide) ?_
  refine va_put (D := G.1) (ci := 8) (v := .int 0) (ty := .int) (C := RX6) (T := TX6) (N := 27) hx hb hts iX6 tyX6 tyX6_ok nmX6 hown hK.1 hP hD hS 0 rfl rfl 0 (by decide) (hts (.fieldLink RX6 71 "RightsStepsModel" "code" "I") (by decide +kernel)) (fun _ h9 => h9) rfl (by decide +kernel) rfl rfl (Nat.le_of_ble_eq_true rfl) dX6_open_2 (fun H locs hP hD hS => ?_)
  have hP : va_P G.1 vwCl [(m0, .inr (8, [.int 0, .long mt, .int hd, .int mmd, .ref bkd, .ref btr, .ref bdl, .int typ, .int rd, .ref btp, .int giv, .ref bgv, .ref bse, .ref bro, .ref bop, .ref baw, .ref bsd, .ref bot, .ref bct, .ref bcr, .ref bud, .ref blo, .ref bwl, .int us, .ref bub, .ref bul, .ref bua])), (btr, .inl (G.2 0, 21, .inl mtr)), (bop, .inl (G.2 0, 4, .inl opv))] H := hP
  have hD : va_D A [(m0, .inr (8, [.int 0, .long mt, .int hd, .int mmd, .ref bkd, .ref btr, .ref bdl, .int typ, .int rd, .ref btp, .int giv, .ref bgv, .ref bse, .ref bro, .ref bop, .ref baw, .ref bsd, .ref bot, .ref bct, .ref bcr, .ref bud, .ref blo, .ref bwl, .int us, .ref bub, .ref bul, .ref bua])), (btr, .inl (G.2 0, 21, .inl mtr)), (bop, .inl (G.2 0, 4, .inl opv))] := hD
  refine lv_aload_n hx hb dX6_open_5 rfl (lv_at hl 0 rfl) ?_
  refine lv_iload_n hx hb dX6_open_6 rfl (lv_at hl 1 rfl) ?_
  have hPc := hP.sub (ws' := [(m0, .inr (8, [.int 0, .long mt, .int hd, .int mmd, .ref bkd, .ref btr, .ref bdl, .int typ, .int rd, .ref btp, .int giv, .ref bgv, .ref bse, .ref bro, .ref bop, .ref baw, .ref bsd, .ref bot, .ref bct, .ref bcr, .ref bud, .ref blo, .ref bwl, .int us, .ref bub, .ref bul, .ref bua])), (btr, .inl (G.2 0, 21, .inl mtr))]) [0, 1] rfl
  have hDc := hD.sub (ws' := [(m0, .inr (8, [.int 0, .long mt, .int hd, .int mmd, .ref bkd, .ref btr, .ref bdl, .int typ, .int rd, .ref btp, .int giv, .ref bgv, .ref bse, .ref bro, .ref bop, .ref baw, .ref bsd, .ref bot, .ref bct, .ref bcr, .ref bud, .ref blo, .ref bwl, .int us, .ref bub, .ref bul, .ref bua])), (btr, .inl (G.2 0, 21, .inl mtr))]) [0, 1] (by decide) rfl
  refine pu_call (va_runV (As := [.int p1]) (rest := []) ⟨hx, hb, hml, hown, hts⟩ (c_X6_isMade l G m0 btr bkd bdl btp bgv bse bro bop baw bsd bot bct bcr bud blo bwl bub bul bua _ 0 mt hd mmd typ rd giv us mtr p1) (cwV 1 hts gX6_open_X6_isMade rfl rfl rfl (by decide +kernel) ⟨Nat.le_of_ble_eq_true rfl, Nat.le_of_ble_eq_true rfl⟩) (pR_V hK hPc hDc (q0 := 0) rfl rfl) rfl rfl hl.1 rfl (lv_room (Nat.le_of_ble_eq_true rfl)) dX6_open_7 ⟨Nat.le_of_ble_eq_true rfl, Nat.le_of_ble_eq_true rfl⟩) ?_
  refine lv_if_ne (tgt := 17) hx hb dX6_open_10 (by decide) (fun c_10 => ?_) (fun c_10 => ?_)
  · have hF := if_f hF c_10
    refine lv_aload_n hx hb dX6_open_17 rfl (lv_at hl 0 rfl) ?_
    refine va_get (D := G.1) (ci := 8) (v := .ref bop) (C := RX6) (T := TX6) (N := 27) hx hb hts iX6 hown hK.1 hP 0 rfl rfl 14 (by decide) (hts (.fieldLink RX6 34 "RightsStepsModel" "open" "[I") (by decide +kernel)) (fun _ h9 => h9) rfl dX6_open_18 ?_
    refine lv_aload_n hx hb dX6_open_21 rfl (lv_at hl 0 rfl) ?_
    refine va_get (D := G.1) (ci := 8) (v := .int hd) (C := RX6) (T := TX6) (N := 27) hx hb hts iX6 hown hK.1 hP 0 rfl rfl 2 (by decide) (hts (.fieldLink RX6 96 "RightsStepsModel" "hand" "I") (by decide +kernel)) (fun _ h9 => h9) rfl dX6_open_22 ?_
    refine va_iald (f := opv) hx hb hK.1 hP 2 0 rfl rfl hh dX6_open_25 ?_
    refine lv_iload_n hx hb dX6_open_26 rfl (lv_at hl 1 rfl) ?_
    refine lv_icmp_ne (tgt := 34) hx hb dX6_open_27 (by decide) (fun c_27 => ?_) (fun c_27 => ?_)
    · have hF := if_f hF c_27
      refine lv_iconst (v := 0) hx hb dX6_open_34 (by decide) ?_
      exact W.iret (v := 0) hx hb hr (fun t ht hW => ⟨⟨0, 0, rfl, hF.symm, by rw [ht]; exact hP.sub [0, 1, 2] rfl, hD.sub [0, 1, 2] (by decide) rfl⟩, hS.F ht⟩) hS.2.2 dX6_open_35
    · have hF := if_t hF c_27
      refine lv_iconst (v := 1) hx hb dX6_open_30 (by decide) ?_
      refine lv_goto (tgt := 35) hx hb dX6_open_31 (by decide) ?_
      exact W.iret (v := 1) hx hb hr (fun t ht hW => ⟨⟨1, 0, rfl, hF.symm, by rw [ht]; exact hP.sub [0, 1, 2] rfl, hD.sub [0, 1, 2] (by decide) rfl⟩, hS.F ht⟩) hS.2.2 dX6_open_35
  · have hF := if_t hF c_10
    refine lv_iconst (v := (-1)) hx hb dX6_open_13 (by decide) ?_
    refine lv_goto (tgt := 35) hx hb dX6_open_14 (by decide) ?_
    exact W.iret (v := (-1)) hx hb hr (fun t ht hW => ⟨⟨(-1), 0, rfl, hF.symm, by rw [ht]; exact hP.sub [0, 1, 2] rfl, hD.sub [0, 1, 2] (by decide) rfl⟩, hS.F ht⟩) hS.2.2 dX6_open_35

def F_X6_begin (cod : Int32) (mt : Int64) (hd : Int32) (mmd : Int32) (typ : Int32) (rd : Int32) (giv : Int32) (us : Int32) (se : Nat → Int32) (ro : Nat → Int64) (opv : Nat → Int32) (aw : Nat → Int32) (p1 : Int32) (p2 : Int32) : (Nat → Int32) × (Nat → Int64) × (Nat → Int32) × (Nat → Int32) :=
  ((upd se (p1 : Int32).toNatClampNeg p2), (vp_updL ro (p1 : Int32).toNatClampNeg (-1)), (upd opv (p1 : Int32).toNatClampNeg 0), (upd aw (p1 : Int32).toNatClampNeg 0))
set_option maxHeartbeats 4000000 in
set_option maxRecDepth 100000 in
theorem c_X6_begin (l : Launch) (G : gG) (m0 bse bro bop baw bkd btr bdl btp bgv bsd bot bct bcr bud blo bwl bub bul bua : Nat) (sz : Nat) (cod : Int32) (mt : Int64) (hd : Int32) (mmd : Int32) (typ : Int32) (rd : Int32) (giv : Int32) (us : Int32) (se : Nat → Int32) (ro : Nat → Int64) (opv : Nat → Int32) (aw : Nat → Int32) (p1 : Int32) (p2 : Int32) (h1 : vp_in p1 4) : Met l yX6_begin wsX6_begin ({ frames := 0, cells := 0, slots := 0, locals := 0 }) (va_Pc [.ref m0, .int p1, .int p2] (pR G [(m0, .inr (8, [.int cod, .long mt, .int hd, .int mmd, .ref bkd, .ref btr, .ref bdl, .int typ, .int rd, .ref btp, .int giv, .ref bgv, .ref bse, .ref bro, .ref bop, .ref baw, .ref bsd, .ref bot, .ref bct, .ref bcr, .ref bud, .ref blo, .ref bwl, .int us, .ref bub, .ref bul, .ref bua])), (bse, .inl (G.2 0, 4, .inl se)), (bro, .inl (G.2 1, 4, .inr (.inl ro))), (bop, .inl (G.2 0, 4, .inl opv)), (baw, .inl (G.2 0, 4, .inl aw))] sz)) (va_Qv (fun (u : (Nat → Int32) × (Nat → Int64) × (Nat → Int32) × (Nat → Int32)) => u = F_X6_begin cod mt hd mmd typ rd giv us se ro opv aw p1 p2) (fun u t => pO G [(m0, .inr (8, [.int cod, .long mt, .int hd, .int mmd, .ref bkd, .ref btr, .ref bdl, .int typ, .int rd, .ref btp, .int giv, .ref bgv, .ref bse, .ref bro, .ref bop, .ref baw, .ref bsd, .ref bot, .ref bct, .ref bcr, .ref bud, .ref blo, .ref bwl, .int us, .ref bub, .ref bul, .ref bua])), (bse, .inl (G.2 0, 4, .inl u.1)), (bro, .inl (G.2 1, 4, .inr (.inl u.2.1))), (bop, .inl (G.2 0, 4, .inl u.2.2.1)), (baw, .inl (G.2 0, 4, .inl u.2.2.2))] (va_A [(m0, .inr (8, [.int cod, .long mt, .int hd, .int mmd, .ref bkd, .ref btr, .ref bdl, .int typ, .int rd, .ref btp, .int giv, .ref bgv, .ref bse, .ref bro, .ref bop, .ref baw, .ref bsd, .ref bot, .ref bct, .ref bcr, .ref bud, .ref blo, .ref bwl, .int us, .ref bub, .ref bul, .ref bua])), (bse, .inl (G.2 0, 4, .inl se)), (bro, .inl (G.2 1, 4, .inr (.inl ro))), (bop, .inl (G.2 0, 4, .inl opv)), (baw, .inl (G.2 0, 4, .inl aw))] sz) t) (va_A [(m0, .inr (8, [.int cod, .long mt, .int hd, .int mmd, .ref bkd, .ref btr, .ref bdl, .int typ, .int rd, .ref btp, .int giv, .ref bgv, .ref bse, .ref bro, .ref bop, .ref baw, .ref bsd, .ref bot, .ref bct, .ref bcr, .ref bud, .ref blo, .ref bwl, .int us, .ref bub, .ref bul, .ref bua])), (bse, .inl (G.2 0, 4, .inl se)), (bro, .inl (G.2 1, 4, .inr (.inl ro))), (bop, .inl (G.2 0, 4, .inl opv)), (baw, .inl (G.2 0, 4, .inl aw))] sz)) 0 0 (va_A [(m0, .inr (8, [.int cod, .long mt, .int hd, .int mmd, .ref bkd, .ref btr, .ref bdl, .int typ, .int rd, .ref btp, .int giv, .ref bgv, .ref bse, .ref bro, .ref bop, .ref baw, .ref bsd, .ref bot, .ref bct, .ref bcr, .ref bud, .ref blo, .ref bwl, .int us, .ref bub, .ref bul, .ref bua])), (bse, .inl (G.2 0, 4, .inl se)), (bro, .inl (G.2 1, 4, .inr (.inl ro))), (bop, .inl (G.2 0, 4, .inl opv)), (baw, .inl (G.2 0, 4, .inl aw))] sz) := by
  refine Met.ofW (cc := cX6_begin) (maxL := 3) (ret := none) (by decide) rfl ?_
  intro p e s m args below meth c s₁ B hml hv
  obtain ⟨rfl, hsz, hP, hK, hD0⟩ := hv
  have hx := B.exec
  have hb := B.bytes
  have hr := B.returns
  have hts := atoms_spec (ws := wsX6_begin) B.pre
  have hown : s.vm.findClass RX6 = some m.cls := findClass_of_methodNamed B.named
  have hlocks := B.notSynchronized
  subst hsz
  have iX6 : ∀ w ∈ wsX60, w ∈ wsX6_begin := by decide +kernel
  have hD := hD0.self (sz := s.heap.size)
  generalize hAe : va_A [(m0, .inr (8, [.int cod, .long mt, .int hd, .int mmd, .ref bkd, .ref btr, .ref bdl, .int typ, .int rd, .ref btp, .int giv, .ref bgv, .ref bse, .ref bro, .ref bop, .ref baw, .ref bsd, .ref bot, .ref bct, .ref bcr, .ref bud, .ref blo, .ref bwl, .int us, .ref bub, .ref bul, .ref bua])), (bse, .inl (G.2 0, 4, .inl se)), (bro, .inl (G.2 1, 4, .inr (.inl ro))), (bop, .inl (G.2 0, 4, .inl opv)), (baw, .inl (G.2 0, 4, .inl aw))] s.heap.size = A at hD ⊢
  have hA : ∀ q : Nat, s.heap.size ≤ q → A q := fun q h => by rw [← hAe]; exact Or.inr h
  have hS : va_S A s.heap s.heap [] := va_S.rf
  have hP : va_P G.1 vwCl [(m0, .inr (8, [.int cod, .long mt, .int hd, .int mmd, .ref bkd, .ref btr, .ref bdl, .int typ, .int rd, .ref btp, .int giv, .ref bgv, .ref bse, .ref bro, .ref bop, .ref baw, .ref bsd, .ref bot, .ref bct, .ref bcr, .ref bud, .ref blo, .ref bwl, .int us, .ref bub, .ref bul, .ref bua])), (bse, .inl (G.2 0, 4, .inl se)), (bro, .inl (G.2 1, 4, .inr (.inl ro))), (bop, .inl (G.2 0, 4, .inl opv)), (baw, .inl (G.2 0, 4, .inl aw))] s.heap := hP
  have hl := lv_entry ([.ref m0, .int p1, .int p2]) (n := 3) (Nat.le_of_ble_eq_true rfl)
  rw [lg_entry_eq]
  generalize (lg_sl ([.ref m0, .int p1, .int p2]) ++ List.replicate (3 - (lg_sl ([.ref m0, .int p1, .int p2])).length) Slot.unset).toArray = ls at hl ⊢
  have hl : lv_has ls 3 [(0, .ref m0), (1, .int p1), (2, .int p2)] := hl
  have hF : F_X6_begin cod mt hd mmd typ rd giv us se ro opv aw p1 p2 = F_X6_begin cod mt hd mmd typ rd giv us se ro opv aw p1 p2 := rfl
  refine lv_aload_n hx hb dX6_begin_0 rfl (lv_at hl 0 rfl) ?_
  refine va_get (D := G.1) (ci := 8) (v := .ref bse) (C := RX6) (T := TX6) (N := 27) hx hb hts iX6 hown hK.1 hP 0 rfl rfl 12 (by decide) (hts (.fieldLink RX6 26 "RightsStepsModel" "session" "[I") (by decide +kernel)) (fun _ h9 => h9) rfl dX6_begin_1 ?_
  refine lv_iload_n hx hb dX6_begin_4 rfl (lv_at hl 1 rfl) ?_
  refine lv_iload_n hx hb dX6_begin_5 rfl (lv_at hl 2 rfl) ?_
  refine va_iast (f := se) hx hb hK.1 hP hD hS 1 0 rfl rfl h1 dX6_begin_6 (fun H locs hP hD hS => ?_)
  have hP : va_P G.1 vwCl [(m0, .inr (8, [.int cod, .long mt, .int hd, .int mmd, .ref bkd, .ref btr, .ref bdl, .int typ, .int rd, .ref btp, .int giv, .ref bgv, .ref bse, .ref bro, .ref bop, .ref baw, .ref bsd, .ref bot, .ref bct, .ref bcr, .ref bud, .ref blo, .ref bwl, .int us, .ref bub, .ref bul, .ref bua])), (bse, .inl (G.2 0, 4, .inl (upd se (p1 : Int32).toNatClampNeg p2))), (bro, .inl (G.2 1, 4, .inr (.inl ro))), (bop, .inl (G.2 0, 4, .inl opv)), (baw, .inl (G.2 0, 4, .inl aw))] H := hP
  have hD : va_D A [(m0, .inr (8, [.int cod, .long mt, .int hd, .int mmd, .ref bkd, .ref btr, .ref bdl, .int typ, .int rd, .ref btp, .int giv, .ref bgv, .ref bse, .ref bro, .ref bop, .ref baw, .ref bsd, .ref bot, .ref bct, .ref bcr, .ref bud, .ref blo, .ref bwl, .int us, .ref bub, .ref bul, .ref bua])), (bse, .inl (G.2 0, 4, .inl (upd se (p1 : Int32).toNatClampNeg p2))), (bro, .inl (G.2 1, 4, .inr (.inl ro))), (bop, .inl (G.2 0, 4, .inl opv)), (baw, .inl (G.2 0, 4, .inl aw))] := hD
  refine lv_aload_n hx hb dX6_begin_7 rfl (lv_at hl 0 rfl) ?_
  refine va_get (D := G.1) (ci := 8) (v := .ref baw) (C := RX6) (T := TX6) (N := 27) hx hb hts iX6 hown hK.1 hP 0 rfl rfl 15 (by decide) (hts (.fieldLink RX6 37 "RightsStepsModel" "awaited" "[I") (by decide +kernel)) (fun _ h9 => h9) rfl dX6_begin_8 ?_
  refine lv_iload_n hx hb dX6_begin_11 rfl (lv_at hl 1 rfl) ?_
  refine lv_iconst (v := 0) hx hb dX6_begin_12 (by decide) ?_
  refine va_iast (f := aw) hx hb hK.1 hP hD hS 4 0 rfl rfl h1 dX6_begin_13 (fun H locs hP hD hS => ?_)
  have hP : va_P G.1 vwCl [(m0, .inr (8, [.int cod, .long mt, .int hd, .int mmd, .ref bkd, .ref btr, .ref bdl, .int typ, .int rd, .ref btp, .int giv, .ref bgv, .ref bse, .ref bro, .ref bop, .ref baw, .ref bsd, .ref bot, .ref bct, .ref bcr, .ref bud, .ref blo, .ref bwl, .int us, .ref bub, .ref bul, .ref bua])), (bse, .inl (G.2 0, 4, .inl (upd se (p1 : Int32).toNatClampNeg p2))), (bro, .inl (G.2 1, 4, .inr (.inl ro))), (bop, .inl (G.2 0, 4, .inl opv)), (baw, .inl (G.2 0, 4, .inl (upd aw (p1 : Int32).toNatClampNeg 0)))] H := hP
  have hD : va_D A [(m0, .inr (8, [.int cod, .long mt, .int hd, .int mmd, .ref bkd, .ref btr, .ref bdl, .int typ, .int rd, .ref btp, .int giv, .ref bgv, .ref bse, .ref bro, .ref bop, .ref baw, .ref bsd, .ref bot, .ref bct, .ref bcr, .ref bud, .ref blo, .ref bwl, .int us, .ref bub, .ref bul, .ref bua])), (bse, .inl (G.2 0, 4, .inl (upd se (p1 : Int32).toNatClampNeg p2))), (bro, .inl (G.2 1, 4, .inr (.inl ro))), (bop, .inl (G.2 0, 4, .inl opv)), (baw, .inl (G.2 0, 4, .inl (upd aw (p1 : Int32).toNatClampNeg 0)))] := hD
  refine lv_aload_n hx hb dX6_begin_14 rfl (lv_at hl 0 rfl) ?_
  refine va_get (D := G.1) (ci := 8) (v := .ref bop) (C := RX6) (T := TX6) (N := 27) hx hb hts iX6 hown hK.1 hP 0 rfl rfl 14 (by decide) (hts (.fieldLink RX6 34 "RightsStepsModel" "open" "[I") (by decide +kernel)) (fun _ h9 => h9) rfl dX6_begin_15 ?_
  refine lv_iload_n hx hb dX6_begin_18 rfl (lv_at hl 1 rfl) ?_
  refine lv_iconst (v := 0) hx hb dX6_begin_19 (by decide) ?_
  refine va_iast (f := opv) hx hb hK.1 hP hD hS 3 0 rfl rfl h1 dX6_begin_20 (fun H locs hP hD hS => ?_)
  have hP : va_P G.1 vwCl [(m0, .inr (8, [.int cod, .long mt, .int hd, .int mmd, .ref bkd, .ref btr, .ref bdl, .int typ, .int rd, .ref btp, .int giv, .ref bgv, .ref bse, .ref bro, .ref bop, .ref baw, .ref bsd, .ref bot, .ref bct, .ref bcr, .ref bud, .ref blo, .ref bwl, .int us, .ref bub, .ref bul, .ref bua])), (bse, .inl (G.2 0, 4, .inl (upd se (p1 : Int32).toNatClampNeg p2))), (bro, .inl (G.2 1, 4, .inr (.inl ro))), (bop, .inl (G.2 0, 4, .inl (upd opv (p1 : Int32).toNatClampNeg 0))), (baw, .inl (G.2 0, 4, .inl (upd aw (p1 : Int32).toNatClampNeg 0)))] H := hP
  have hD : va_D A [(m0, .inr (8, [.int cod, .long mt, .int hd, .int mmd, .ref bkd, .ref btr, .ref bdl, .int typ, .int rd, .ref btp, .int giv, .ref bgv, .ref bse, .ref bro, .ref bop, .ref baw, .ref bsd, .ref bot, .ref bct, .ref bcr, .ref bud, .ref blo, .ref bwl, .int us, .ref bub, .ref bul, .ref bua])), (bse, .inl (G.2 0, 4, .inl (upd se (p1 : Int32).toNatClampNeg p2))), (bro, .inl (G.2 1, 4, .inr (.inl ro))), (bop, .inl (G.2 0, 4, .inl (upd opv (p1 : Int32).toNatClampNeg 0))), (baw, .inl (G.2 0, 4, .inl (upd aw (p1 : Int32).toNatClampNeg 0)))] := hD
  refine lv_aload_n hx hb dX6_begin_21 rfl (lv_at hl 0 rfl) ?_
  refine va_get (D := G.1) (ci := 8) (v := .ref bro) (C := RX6) (T := TX6) (N := 27) hx hb hts iX6 hown hK.1 hP 0 rfl rfl 13 (by decide) (hts (.fieldLink RX6 31 "RightsStepsModel" "roleUntil" "[J") (by decide +kernel)) (fun _ h9 => h9) rfl dX6_begin_22 ?_
  refine lv_iload_n hx hb dX6_begin_25 rfl (lv_at hl 1 rfl) ?_
  refine lv_ldc2 (v := (-1)) hx hb hown (hts (.constantLong RX6 29 (-1)) (by decide +kernel)) dX6_begin_26 ?_
  refine va_last (f := ro) hx hb hK.1 hP hD hS 2 1 rfl rfl h1 dX6_begin_29 (fun H locs hP hD hS => ?_)
  have hP : va_P G.1 vwCl [(m0, .inr (8, [.int cod, .long mt, .int hd, .int mmd, .ref bkd, .ref btr, .ref bdl, .int typ, .int rd, .ref btp, .int giv, .ref bgv, .ref bse, .ref bro, .ref bop, .ref baw, .ref bsd, .ref bot, .ref bct, .ref bcr, .ref bud, .ref blo, .ref bwl, .int us, .ref bub, .ref bul, .ref bua])), (bse, .inl (G.2 0, 4, .inl (upd se (p1 : Int32).toNatClampNeg p2))), (bro, .inl (G.2 1, 4, .inr (.inl (vp_updL ro (p1 : Int32).toNatClampNeg (-1))))), (bop, .inl (G.2 0, 4, .inl (upd opv (p1 : Int32).toNatClampNeg 0))), (baw, .inl (G.2 0, 4, .inl (upd aw (p1 : Int32).toNatClampNeg 0)))] H := hP
  have hD : va_D A [(m0, .inr (8, [.int cod, .long mt, .int hd, .int mmd, .ref bkd, .ref btr, .ref bdl, .int typ, .int rd, .ref btp, .int giv, .ref bgv, .ref bse, .ref bro, .ref bop, .ref baw, .ref bsd, .ref bot, .ref bct, .ref bcr, .ref bud, .ref blo, .ref bwl, .int us, .ref bub, .ref bul, .ref bua])), (bse, .inl (G.2 0, 4, .inl (upd se (p1 : Int32).toNatClampNeg p2))), (bro, .inl (G.2 1, 4, .inr (.inl (vp_updL ro (p1 : Int32).toNatClampNeg (-1))))), (bop, .inl (G.2 0, 4, .inl (upd opv (p1 : Int32).toNatClampNeg 0))), (baw, .inl (G.2 0, 4, .inl (upd aw (p1 : Int32).toNatClampNeg 0)))] := hD
  exact W.vret hx hb hr (fun t ht hW => ⟨⟨((upd se (p1 : Int32).toNatClampNeg p2), (vp_updL ro (p1 : Int32).toNatClampNeg (-1)), (upd opv (p1 : Int32).toNatClampNeg 0), (upd aw (p1 : Int32).toNatClampNeg 0)), rfl, hF.symm, by rw [ht]; exact hP.sub [0, 1, 2, 3, 4] rfl, hD.sub [0, 1, 2, 3, 4] (by decide) rfl⟩, hS.F ht⟩) hS.2.2 dX6_begin_30

def F_X6_session (cod : Int32) (mt : Int64) (hd : Int32) (mmd : Int32) (typ : Int32) (rd : Int32) (giv : Int32) (us : Int32) (se : Nat → Int32) (ro : Nat → Int64) (opv : Nat → Int32) (aw : Nat → Int32) (p1 : Int32) : Int32 × Int32 × (Nat → Int32) × (Nat → Int64) × (Nat → Int32) × (Nat → Int32) :=
  (if p1 < 1 then ((-2), (0, se, ro, opv, aw)) else (if p1 ≤ 3 then (lz (F_X6_begin 0 mt hd mmd typ rd giv us se ro opv aw hd p1) (fun u1 => ((se (hd : Int32).toNatClampNeg), (0, u1.1, u1.2.1, u1.2.2.1, u1.2.2.2)))) else ((-2), (0, se, ro, opv, aw))))
set_option maxHeartbeats 4000000 in
set_option maxRecDepth 100000 in
theorem c_X6_session (l : Launch) (G : gG) (m0 bse bro bop baw bkd btr bdl btp bgv bsd bot bct bcr bud blo bwl bub bul bua : Nat) (sz : Nat) (cod : Int32) (mt : Int64) (hd : Int32) (mmd : Int32) (typ : Int32) (rd : Int32) (giv : Int32) (us : Int32) (se : Nat → Int32) (ro : Nat → Int64) (opv : Nat → Int32) (aw : Nat → Int32) (p1 : Int32) (hh : vp_in hd 4) : Met l yX6_session wsX6_session ({ frames := 1, cells := 0, slots := 0, locals := 22 }) (va_Pc [.ref m0, .int p1] (pR G [(m0, .inr (8, [.int cod, .long mt, .int hd, .int mmd, .ref bkd, .ref btr, .ref bdl, .int typ, .int rd, .ref btp, .int giv, .ref bgv, .ref bse, .ref bro, .ref bop, .ref baw, .ref bsd, .ref bot, .ref bct, .ref bcr, .ref bud, .ref blo, .ref bwl, .int us, .ref bub, .ref bul, .ref bua])), (bse, .inl (G.2 0, 4, .inl se)), (bro, .inl (G.2 1, 4, .inr (.inl ro))), (bop, .inl (G.2 0, 4, .inl opv)), (baw, .inl (G.2 0, 4, .inl aw))] sz)) (va_Qi (fun (r : Int32) (u : Int32 × (Nat → Int32) × (Nat → Int64) × (Nat → Int32) × (Nat → Int32)) => (r, u) = F_X6_session cod mt hd mmd typ rd giv us se ro opv aw p1) (fun u t => pO G [(m0, .inr (8, [.int u.1, .long mt, .int hd, .int mmd, .ref bkd, .ref btr, .ref bdl, .int typ, .int rd, .ref btp, .int giv, .ref bgv, .ref bse, .ref bro, .ref bop, .ref baw, .ref bsd, .ref bot, .ref bct, .ref bcr, .ref bud, .ref blo, .ref bwl, .int us, .ref bub, .ref bul, .ref bua])), (bse, .inl (G.2 0, 4, .inl u.2.1)), (bro, .inl (G.2 1, 4, .inr (.inl u.2.2.1))), (bop, .inl (G.2 0, 4, .inl u.2.2.2.1)), (baw, .inl (G.2 0, 4, .inl u.2.2.2.2))] (va_A [(m0, .inr (8, [.int cod, .long mt, .int hd, .int mmd, .ref bkd, .ref btr, .ref bdl, .int typ, .int rd, .ref btp, .int giv, .ref bgv, .ref bse, .ref bro, .ref bop, .ref baw, .ref bsd, .ref bot, .ref bct, .ref bcr, .ref bud, .ref blo, .ref bwl, .int us, .ref bub, .ref bul, .ref bua])), (bse, .inl (G.2 0, 4, .inl se)), (bro, .inl (G.2 1, 4, .inr (.inl ro))), (bop, .inl (G.2 0, 4, .inl opv)), (baw, .inl (G.2 0, 4, .inl aw))] sz) t) (va_A [(m0, .inr (8, [.int cod, .long mt, .int hd, .int mmd, .ref bkd, .ref btr, .ref bdl, .int typ, .int rd, .ref btp, .int giv, .ref bgv, .ref bse, .ref bro, .ref bop, .ref baw, .ref bsd, .ref bot, .ref bct, .ref bcr, .ref bud, .ref blo, .ref bwl, .int us, .ref bub, .ref bul, .ref bua])), (bse, .inl (G.2 0, 4, .inl se)), (bro, .inl (G.2 1, 4, .inr (.inl ro))), (bop, .inl (G.2 0, 4, .inl opv)), (baw, .inl (G.2 0, 4, .inl aw))] sz)) 0 0 (va_A [(m0, .inr (8, [.int cod, .long mt, .int hd, .int mmd, .ref bkd, .ref btr, .ref bdl, .int typ, .int rd, .ref btp, .int giv, .ref bgv, .ref bse, .ref bro, .ref bop, .ref baw, .ref bsd, .ref bot, .ref bct, .ref bcr, .ref bud, .ref blo, .ref bwl, .int us, .ref bub, .ref bul, .ref bua])), (bse, .inl (G.2 0, 4, .inl se)), (bro, .inl (G.2 1, 4, .inr (.inl ro))), (bop, .inl (G.2 0, 4, .inl opv)), (baw, .inl (G.2 0, 4, .inl aw))] sz) := by
  refine Met.ofW (cc := cX6_session) (maxL := 3) (ret := (some .int)) (by decide) rfl ?_
  intro p e s m args below meth c s₁ B hml hv
  obtain ⟨rfl, hsz, hP, hK, hD0⟩ := hv
  have hx := B.exec
  have hb := B.bytes
  have hr := B.returns
  have hts := atoms_spec (ws := wsX6_session) B.pre
  have hown : s.vm.findClass RX6 = some m.cls := findClass_of_methodNamed B.named
  have hlocks := B.notSynchronized
  subst hsz
  have iX6 : ∀ w ∈ wsX60, w ∈ wsX6_session := by decide +kernel
  have hD := hD0.self (sz := s.heap.size)
  generalize hAe : va_A [(m0, .inr (8, [.int cod, .long mt, .int hd, .int mmd, .ref bkd, .ref btr, .ref bdl, .int typ, .int rd, .ref btp, .int giv, .ref bgv, .ref bse, .ref bro, .ref bop, .ref baw, .ref bsd, .ref bot, .ref bct, .ref bcr, .ref bud, .ref blo, .ref bwl, .int us, .ref bub, .ref bul, .ref bua])), (bse, .inl (G.2 0, 4, .inl se)), (bro, .inl (G.2 1, 4, .inr (.inl ro))), (bop, .inl (G.2 0, 4, .inl opv)), (baw, .inl (G.2 0, 4, .inl aw))] s.heap.size = A at hD ⊢
  have hA : ∀ q : Nat, s.heap.size ≤ q → A q := fun q h => by rw [← hAe]; exact Or.inr h
  have hS : va_S A s.heap s.heap [] := va_S.rf
  have hP : va_P G.1 vwCl [(m0, .inr (8, [.int cod, .long mt, .int hd, .int mmd, .ref bkd, .ref btr, .ref bdl, .int typ, .int rd, .ref btp, .int giv, .ref bgv, .ref bse, .ref bro, .ref bop, .ref baw, .ref bsd, .ref bot, .ref bct, .ref bcr, .ref bud, .ref blo, .ref bwl, .int us, .ref bub, .ref bul, .ref bua])), (bse, .inl (G.2 0, 4, .inl se)), (bro, .inl (G.2 1, 4, .inr (.inl ro))), (bop, .inl (G.2 0, 4, .inl opv)), (baw, .inl (G.2 0, 4, .inl aw))] s.heap := hP
  have hl := lv_entry ([.ref m0, .int p1]) (n := 3) (Nat.le_of_ble_eq_true rfl)
  rw [lg_entry_eq]
  generalize (lg_sl ([.ref m0, .int p1]) ++ List.replicate (3 - (lg_sl ([.ref m0, .int p1])).length) Slot.unset).toArray = ls at hl ⊢
  have hl : lv_has ls 3 [(0, .ref m0), (1, .int p1)] := hl
  have hF : F_X6_session cod mt hd mmd typ rd giv us se ro opv aw p1 = F_X6_session cod mt hd mmd typ rd giv us se ro opv aw p1 := rfl
  refine lv_aload_n hx hb dX6_session_0 rfl (lv_at hl 0 rfl) ?_
  refine lv_iconst (v := 0) hx hb dX6_session_1 (by decide) ?_
  refine va_put (D := G.1) (ci := 8) (v := .int 0) (ty := .int) (C := RX6) (T := TX6) (N := 27) hx hb hts iX6 tyX6 tyX6_ok nmX6 hown hK.1 hP hD hS 0 rfl rfl 0 (by decide) (hts (.fieldLink RX6 71 "RightsStepsModel" "code" "I") (by decide +kernel)) (fun _ h9 => h9) rfl (by decide +kernel) rfl rfl (Nat.le_of_ble_eq_true rfl) dX6_session_2 (fun H locs hP hD hS => ?_)
  have hP : va_P G.1 vwCl [(m0, .inr (8, [.int 0, .long mt, .int hd, .int mmd, .ref bkd, .ref btr, .ref bdl, .int typ, .int rd, .ref btp, .int giv, .ref bgv, .ref bse, .ref bro, .ref bop, .ref baw, .ref bsd, .ref bot, .ref bct, .ref bcr, .ref bud, .ref blo, .ref bwl, .int us, .ref bub, .ref bul, .ref bua])), (bse, .inl (G.2 0, 4, .inl se)), (bro, .inl (G.2 1, 4, .inr (.inl ro))), (bop, .inl (G.2 0, 4, .inl opv)), (baw, .inl (G.2 0, 4, .inl aw))] H := hP
  have hD : va_D A [(m0, .inr (8, [.int 0, .long mt, .int hd, .int mmd, .ref bkd, .ref btr, .ref bdl, .int typ, .int rd, .ref btp, .int giv, .ref bgv, .ref bse, .ref bro, .ref bop, .ref baw, .ref bsd, .ref bot, .ref bct, .ref bcr, .ref bud, .ref blo, .ref bwl, .int us, .ref bub, .ref bul, .ref bua])), (bse, .inl (G.2 0, 4, .inl se)), (bro, .inl (G.2 1, 4, .inr (.inl ro))), (bop, .inl (G.2 0, 4, .inl opv)), (baw, .inl (G.2 0, 4, .inl aw))] := hD
  refine lv_iload_n hx hb dX6_session_5 rfl (lv_at hl 1 rfl) ?_
  refine lv_iconst (v := 1) hx hb dX6_session_6 (by decide) ?_
  refine lv_icmp_lt (tgt := 15) hx hb dX6_session_7 (by decide) (fun c_7 => ?_) (fun c_7 => ?_)
  · have hF := if_t hF c_7
    refine lv_bipush (v := (-2)) hx hb dX6_session_15 (by decide) ?_
    exact W.iret (v := (-2)) hx hb hr (fun t ht hW => ⟨⟨(-2), (0, se, ro, opv, aw), rfl, hF.symm, by rw [ht]; exact hP.sub [0, 1, 2, 3, 4] rfl, hD.sub [0, 1, 2, 3, 4] (by decide) rfl⟩, hS.F ht⟩) hS.2.2 dX6_session_17
  · have hF := if_f hF c_7
    refine lv_iload_n hx hb dX6_session_10 rfl (lv_at hl 1 rfl) ?_
    refine lv_iconst (v := 3) hx hb dX6_session_11 (by decide) ?_
    refine lv_icmp_le (tgt := 18) hx hb dX6_session_12 (by decide) (fun c_12 => ?_) (fun c_12 => ?_)
    · have hF := if_t hF c_12
      refine lv_aload_n hx hb dX6_session_18 rfl (lv_at hl 0 rfl) ?_
      refine va_get (D := G.1) (ci := 8) (v := .ref bse) (C := RX6) (T := TX6) (N := 27) hx hb hts iX6 hown hK.1 hP 0 rfl rfl 12 (by decide) (hts (.fieldLink RX6 26 "RightsStepsModel" "session" "[I") (by decide +kernel)) (fun _ h9 => h9) rfl dX6_session_19 ?_
      refine lv_aload_n hx hb dX6_session_22 rfl (lv_at hl 0 rfl) ?_
      refine va_get (D := G.1) (ci := 8) (v := .int hd) (C := RX6) (T := TX6) (N := 27) hx hb hts iX6 hown hK.1 hP 0 rfl rfl 2 (by decide) (hts (.fieldLink RX6 96 "RightsStepsModel" "hand" "I") (by decide +kernel)) (fun _ h9 => h9) rfl dX6_session_23 ?_
      refine va_iald (f := se) hx hb hK.1 hP 1 0 rfl rfl hh dX6_session_26 ?_
      refine lv_istore_n (lv' := [(2, .int (se (hd : Int32).toNatClampNeg)), (0, .ref m0), (1, .int p1)]) hx hb dX6_session_27 rfl hl (by decide) rfl (fun ls hl => ?_)
      refine lv_aload_n hx hb dX6_session_28 rfl (lv_at hl 1 rfl) ?_
      refine lv_aload_n hx hb dX6_session_29 rfl (lv_at hl 1 rfl) ?_
      refine va_get (D := G.1) (ci := 8) (v := .int hd) (C := RX6) (T := TX6) (N := 27) hx hb hts iX6 hown hK.1 hP 0 rfl rfl 2 (by decide) (hts (.fieldLink RX6 96 "RightsStepsModel" "hand" "I") (by decide +kernel)) (fun _ h9 => h9) rfl dX6_session_30 ?_
      refine lv_iload_n hx hb dX6_session_33 rfl (lv_at hl 2 rfl) ?_
      have hPc := hP.sub (ws' := [(m0, .inr (8, [.int 0, .long mt, .int hd, .int mmd, .ref bkd, .ref btr, .ref bdl, .int typ, .int rd, .ref btp, .int giv, .ref bgv, .ref bse, .ref bro, .ref bop, .ref baw, .ref bsd, .ref bot, .ref bct, .ref bcr, .ref bud, .ref blo, .ref bwl, .int us, .ref bub, .ref bul, .ref bua])), (bse, .inl (G.2 0, 4, .inl se)), (bro, .inl (G.2 1, 4, .inr (.inl ro))), (bop, .inl (G.2 0, 4, .inl opv)), (baw, .inl (G.2 0, 4, .inl aw))]) [0, 1, 2, 3, 4] rfl
      have hDc := hD.sub (ws' := [(m0, .inr (8, [.int 0, .long mt, .int hd, .int mmd, .ref bkd, .ref btr, .ref bdl, .int typ, .int rd, .ref btp, .int giv, .ref bgv, .ref bse, .ref bro, .ref bop, .ref baw, .ref bsd, .ref bot, .ref bct, .ref bcr, .ref bud, .ref blo, .ref bwl, .int us, .ref bub, .ref bul, .ref bua])), (bse, .inl (G.2 0, 4, .inl se)), (bro, .inl (G.2 1, 4, .inr (.inl ro))), (bop, .inl (G.2 0, 4, .inl opv)), (baw, .inl (G.2 0, 4, .inl aw))]) [0, 1, 2, 3, 4] (by decide) rfl
      refine cl_v (wr := []) (va_runV (As := [.int hd, .int p1]) (rest := []) ⟨hx, hb, hml, hown, hts⟩ (c_X6_begin l G m0 bse bro bop baw bkd btr bdl btp bgv bsd bot bct bcr bud blo bwl bub bul bua _ 0 mt hd mmd typ rd giv us se ro opv aw hd p1 hh) (cwV 2 hts gX6_session_X6_begin rfl rfl rfl (by decide +kernel) ⟨Nat.le_of_ble_eq_true rfl, Nat.le_of_ble_eq_true rfl⟩) (pR_V hK hPc hDc (q0 := 0) rfl rfl) rfl rfl hl.1 rfl (lv_room (Nat.le_of_ble_eq_true rfl)) dX6_session_34 ⟨Nat.le_of_ble_eq_true rfl, Nat.le_of_ble_eq_true rfl⟩) hP hD hS hA [0, 1, 2, 3, 4] [] rfl rfl (by decide) (by decide) (fun u1 ez1 H locs hP hD hS => ?_)
      have hP : va_P G.1 vwCl [(m0, .inr (8, [.int 0, .long mt, .int hd, .int mmd, .ref bkd, .ref btr, .ref bdl, .int typ, .int rd, .ref btp, .int giv, .ref bgv, .ref bse, .ref bro, .ref bop, .ref baw, .ref bsd, .ref bot, .ref bct, .ref bcr, .ref bud, .ref blo, .ref bwl, .int us, .ref bub, .ref bul, .ref bua])), (bse, .inl (G.2 0, 4, .inl u1.1)), (bro, .inl (G.2 1, 4, .inr (.inl u1.2.1))), (bop, .inl (G.2 0, 4, .inl u1.2.2.1)), (baw, .inl (G.2 0, 4, .inl u1.2.2.2))] H := hP
      have hD : va_D A [(m0, .inr (8, [.int 0, .long mt, .int hd, .int mmd, .ref bkd, .ref btr, .ref bdl, .int typ, .int rd, .ref btp, .int giv, .ref bgv, .ref bse, .ref bro, .ref bop, .ref baw, .ref bsd, .ref bot, .ref bct, .ref bcr, .ref bud, .ref blo, .ref bwl, .int us, .ref bub, .ref bul, .ref bua])), (bse, .inl (G.2 0, 4, .inl u1.1)), (bro, .inl (G.2 1, 4, .inr (.inl u1.2.1))), (bop, .inl (G.2 0, 4, .inl u1.2.2.1)), (baw, .inl (G.2 0, 4, .inl u1.2.2.2))] := hD
      have hF := lz_e hF ez1
      refine lv_iload_n hx hb dX6_session_37 rfl (lv_at hl 0 rfl) ?_
      exact W.iret (v := (se (hd : Int32).toNatClampNeg)) hx hb hr (fun t ht hW => ⟨⟨(se (hd : Int32).toNatClampNeg), (0, u1.1, u1.2.1, u1.2.2.1, u1.2.2.2), rfl, hF.symm, by rw [ht]; exact hP.sub [0, 1, 2, 3, 4] rfl, hD.sub [0, 1, 2, 3, 4] (by decide) rfl⟩, hS.F ht⟩) hS.2.2 dX6_session_38
    · have hF := if_f hF c_12
      refine lv_bipush (v := (-2)) hx hb dX6_session_15 (by decide) ?_
      exact W.iret (v := (-2)) hx hb hr (fun t ht hW => ⟨⟨(-2), (0, se, ro, opv, aw), rfl, hF.symm, by rw [ht]; exact hP.sub [0, 1, 2, 3, 4] rfl, hD.sub [0, 1, 2, 3, 4] (by decide) rfl⟩, hS.F ht⟩) hS.2.2 dX6_session_17

def F_X6_reset (cod : Int32) (mt : Int64) (hd : Int32) (mmd : Int32) (typ : Int32) (rd : Int32) (giv : Int32) (us : Int32) (se : Nat → Int32) (ro : Nat → Int64) (opv : Nat → Int32) (aw : Nat → Int32) (ct : Nat → Int32) (cr : Nat → Int32) : Int32 × Int32 × Int32 × (Nat → Int32) × (Nat → Int64) × (Nat → Int32) × (Nat → Int32) × (Nat → Int32) × (Nat → Int32) :=
  (lz (F_X6_begin 0 mt hd mmd typ rd giv us se ro opv aw 0 1) (fun u1 => (lz (F_X6_begin 0 mt hd mmd typ rd giv us u1.1 u1.2.1 u1.2.2.1 u1.2.2.2 1 1) (fun u2 => (lz (F_X6_begin 0 mt hd mmd typ rd giv us u2.1 u2.2.1 u2.2.2.1 u2.2.2.2 2 1) (fun u3 => (lz (F_X6_begin 0 mt hd mmd typ rd giv us u3.1 u3.2.1 u3.2.2.1 u3.2.2.2 3 1) (fun u4 => ((if (u3.2.2.1 (3 : Int32).toNatClampNeg) ≤ 0 then (if (u2.2.2.1 (2 : Int32).toNatClampNeg) ≤ 0 then (if (u1.2.2.1 (1 : Int32).toNatClampNeg) ≤ 0 then (if (opv (0 : Int32).toNatClampNeg) ≤ 0 then 0 else 1) else ((if (opv (0 : Int32).toNatClampNeg) ≤ 0 then 0 else 1) + 1)) else ((if (u1.2.2.1 (1 : Int32).toNatClampNeg) ≤ 0 then (if (opv (0 : Int32).toNatClampNeg) ≤ 0 then 0 else 1) else ((if (opv (0 : Int32).toNatClampNeg) ≤ 0 then 0 else 1) + 1)) + 1)) else ((if (u2.2.2.1 (2 : Int32).toNatClampNeg) ≤ 0 then (if (u1.2.2.1 (1 : Int32).toNatClampNeg) ≤ 0 then (if (opv (0 : Int32).toNatClampNeg) ≤ 0 then 0 else 1) else ((if (opv (0 : Int32).toNatClampNeg) ≤ 0 then 0 else 1) + 1)) else ((if (u1.2.2.1 (1 : Int32).toNatClampNeg) ≤ 0 then (if (opv (0 : Int32).toNatClampNeg) ≤ 0 then 0 else 1) else ((if (opv (0 : Int32).toNatClampNeg) ≤ 0 then 0 else 1) + 1)) + 1)) + 1)), (0, 0, u4.1, u4.2.1, u4.2.2.1, u4.2.2.2, (upd (upd (upd (upd ct (0 : Int32).toNatClampNeg 0) (1 : Int32).toNatClampNeg 0) (2 : Int32).toNatClampNeg 0) (3 : Int32).toNatClampNeg 0), (upd (upd (upd (upd cr (0 : Int32).toNatClampNeg 0) (1 : Int32).toNatClampNeg 0) (2 : Int32).toNatClampNeg 0) (3 : Int32).toNatClampNeg 0)))))))))))
set_option maxHeartbeats 4000000 in
set_option maxRecDepth 100000 in
theorem c_X6_reset (l : Launch) (G : gG) (m0 bse bro bop baw bct bcr bkd btr bdl btp bgv bsd bot bud blo bwl bub bul bua : Nat) (sz : Nat) (cod : Int32) (mt : Int64) (hd : Int32) (mmd : Int32) (typ : Int32) (rd : Int32) (giv : Int32) (us : Int32) (se : Nat → Int32) (ro : Nat → Int64) (opv : Nat → Int32) (aw : Nat → Int32) (ct : Nat → Int32) (cr : Nat → Int32) : Met l yX6_reset wsX6_reset ({ frames := 1, cells := 0, slots := 0, locals := 22 }) (va_Pc [.ref m0] (pR G [(m0, .inr (8, [.int cod, .long mt, .int hd, .int mmd, .ref bkd, .ref btr, .ref bdl, .int typ, .int rd, .ref btp, .int giv, .ref bgv, .ref bse, .ref bro, .ref bop, .ref baw, .ref bsd, .ref bot, .ref bct, .ref bcr, .ref bud, .ref blo, .ref bwl, .int us, .ref bub, .ref bul, .ref bua])), (bse, .inl (G.2 0, 4, .inl se)), (bro, .inl (G.2 1, 4, .inr (.inl ro))), (bop, .inl (G.2 0, 4, .inl opv)), (baw, .inl (G.2 0, 4, .inl aw)), (bct, .inl (G.2 0, 4, .inl ct)), (bcr, .inl (G.2 0, 4, .inl cr))] sz)) (va_Qi (fun (r : Int32) (u : Int32 × Int32 × (Nat → Int32) × (Nat → Int64) × (Nat → Int32) × (Nat → Int32) × (Nat → Int32) × (Nat → Int32)) => (r, u) = F_X6_reset cod mt hd mmd typ rd giv us se ro opv aw ct cr) (fun u t => pO G [(m0, .inr (8, [.int u.1, .long mt, .int hd, .int mmd, .ref bkd, .ref btr, .ref bdl, .int typ, .int rd, .ref btp, .int u.2.1, .ref bgv, .ref bse, .ref bro, .ref bop, .ref baw, .ref bsd, .ref bot, .ref bct, .ref bcr, .ref bud, .ref blo, .ref bwl, .int us, .ref bub, .ref bul, .ref bua])), (bse, .inl (G.2 0, 4, .inl u.2.2.1)), (bro, .inl (G.2 1, 4, .inr (.inl u.2.2.2.1))), (bop, .inl (G.2 0, 4, .inl u.2.2.2.2.1)), (baw, .inl (G.2 0, 4, .inl u.2.2.2.2.2.1)), (bct, .inl (G.2 0, 4, .inl u.2.2.2.2.2.2.1)), (bcr, .inl (G.2 0, 4, .inl u.2.2.2.2.2.2.2))] (va_A [(m0, .inr (8, [.int cod, .long mt, .int hd, .int mmd, .ref bkd, .ref btr, .ref bdl, .int typ, .int rd, .ref btp, .int giv, .ref bgv, .ref bse, .ref bro, .ref bop, .ref baw, .ref bsd, .ref bot, .ref bct, .ref bcr, .ref bud, .ref blo, .ref bwl, .int us, .ref bub, .ref bul, .ref bua])), (bse, .inl (G.2 0, 4, .inl se)), (bro, .inl (G.2 1, 4, .inr (.inl ro))), (bop, .inl (G.2 0, 4, .inl opv)), (baw, .inl (G.2 0, 4, .inl aw)), (bct, .inl (G.2 0, 4, .inl ct)), (bcr, .inl (G.2 0, 4, .inl cr))] sz) t) (va_A [(m0, .inr (8, [.int cod, .long mt, .int hd, .int mmd, .ref bkd, .ref btr, .ref bdl, .int typ, .int rd, .ref btp, .int giv, .ref bgv, .ref bse, .ref bro, .ref bop, .ref baw, .ref bsd, .ref bot, .ref bct, .ref bcr, .ref bud, .ref blo, .ref bwl, .int us, .ref bub, .ref bul, .ref bua])), (bse, .inl (G.2 0, 4, .inl se)), (bro, .inl (G.2 1, 4, .inr (.inl ro))), (bop, .inl (G.2 0, 4, .inl opv)), (baw, .inl (G.2 0, 4, .inl aw)), (bct, .inl (G.2 0, 4, .inl ct)), (bcr, .inl (G.2 0, 4, .inl cr))] sz)) 0 0 (va_A [(m0, .inr (8, [.int cod, .long mt, .int hd, .int mmd, .ref bkd, .ref btr, .ref bdl, .int typ, .int rd, .ref btp, .int giv, .ref bgv, .ref bse, .ref bro, .ref bop, .ref baw, .ref bsd, .ref bot, .ref bct, .ref bcr, .ref bud, .ref blo, .ref bwl, .int us, .ref bub, .ref bul, .ref bua])), (bse, .inl (G.2 0, 4, .inl se)), (bro, .inl (G.2 1, 4, .inr (.inl ro))), (bop, .inl (G.2 0, 4, .inl opv)), (baw, .inl (G.2 0, 4, .inl aw)), (bct, .inl (G.2 0, 4, .inl ct)), (bcr, .inl (G.2 0, 4, .inl cr))] sz) := by
  refine Met.ofW (cc := cX6_reset) (maxL := 3) (ret := (some .int)) (by decide) rfl ?_
  intro p e s m args below meth c s₁ B hml hv
  obtain ⟨rfl, hsz, hP, hK, hD0⟩ := hv
  have hx := B.exec
  have hb := B.bytes
  have hr := B.returns
  have hts := atoms_spec (ws := wsX6_reset) B.pre
  have hown : s.vm.findClass RX6 = some m.cls := findClass_of_methodNamed B.named
  have hlocks := B.notSynchronized
  subst hsz
  have iX6 : ∀ w ∈ wsX60, w ∈ wsX6_reset := by decide +kernel
  have hD := hD0.self (sz := s.heap.size)
  generalize hAe : va_A [(m0, .inr (8, [.int cod, .long mt, .int hd, .int mmd, .ref bkd, .ref btr, .ref bdl, .int typ, .int rd, .ref btp, .int giv, .ref bgv, .ref bse, .ref bro, .ref bop, .ref baw, .ref bsd, .ref bot, .ref bct, .ref bcr, .ref bud, .ref blo, .ref bwl, .int us, .ref bub, .ref bul, .ref bua])), (bse, .inl (G.2 0, 4, .inl se)), (bro, .inl (G.2 1, 4, .inr (.inl ro))), (bop, .inl (G.2 0, 4, .inl opv)), (baw, .inl (G.2 0, 4, .inl aw)), (bct, .inl (G.2 0, 4, .inl ct)), (bcr, .inl (G.2 0, 4, .inl cr))] s.heap.size = A at hD ⊢
  have hA : ∀ q : Nat, s.heap.size ≤ q → A q := fun q h => by rw [← hAe]; exact Or.inr h
  have hS : va_S A s.heap s.heap [] := va_S.rf
  have hP : va_P G.1 vwCl [(m0, .inr (8, [.int cod, .long mt, .int hd, .int mmd, .ref bkd, .ref btr, .ref bdl, .int typ, .int rd, .ref btp, .int giv, .ref bgv, .ref bse, .ref bro, .ref bop, .ref baw, .ref bsd, .ref bot, .ref bct, .ref bcr, .ref bud, .ref blo, .ref bwl, .int us, .ref bub, .ref bul, .ref bua])), (bse, .inl (G.2 0, 4, .inl se)), (bro, .inl (G.2 1, 4, .inr (.inl ro))), (bop, .inl (G.2 0, 4, .inl opv)), (baw, .inl (G.2 0, 4, .inl aw)), (bct, .inl (G.2 0, 4, .inl ct)), (bcr, .inl (G.2 0, 4, .inl cr))] s.heap := hP
  have hl := lv_entry ([.ref m0]) (n := 3) (Nat.le_of_ble_eq_true rfl)
  rw [lg_entry_eq]
  generalize (lg_sl ([.ref m0]) ++ List.replicate (3 - (lg_sl ([.ref m0])).length) Slot.unset).toArray = ls at hl ⊢
  have hl : lv_has ls 3 [(0, .ref m0)] := hl
  have hF : F_X6_reset cod mt hd mmd typ rd giv us se ro opv aw ct cr = F_X6_reset cod mt hd mmd typ rd giv us se ro opv aw ct cr := rfl
  refine lv_aload_n hx hb dX6_reset_0 rfl (lv_at hl 0 rfl) ?_
  refine lv_iconst (v := 0) hx hb dX6_reset_1 (by decide) ?_
  refine va_put (D := G.1) (ci := 8) (v := .int 0) (ty := .int) (C := RX6) (T := TX6) (N := 27) hx hb hts iX6 tyX6 tyX6_ok nmX6 hown hK.1 hP hD hS 0 rfl rfl 0 (by decide) (hts (.fieldLink RX6 71 "RightsStepsModel" "code" "I") (by decide +kernel)) (fun _ h9 => h9) rfl (by decide +kernel) rfl rfl (Nat.le_of_ble_eq_true rfl) dX6_reset_2 (fun H locs hP hD hS => ?_)
  have hP : va_P G.1 vwCl [(m0, .inr (8, [.int 0, .long mt, .int hd, .int mmd, .ref bkd, .ref btr, .ref bdl, .int typ, .int rd, .ref btp, .int giv, .ref bgv, .ref bse, .ref bro, .ref bop, .ref baw, .ref bsd, .ref bot, .ref bct, .ref bcr, .ref bud, .ref blo, .ref bwl, .int us, .ref bub, .ref bul, .ref bua])), (bse, .inl (G.2 0, 4, .inl se)), (bro, .inl (G.2 1, 4, .inr (.inl ro))), (bop, .inl (G.2 0, 4, .inl opv)), (baw, .inl (G.2 0, 4, .inl aw)), (bct, .inl (G.2 0, 4, .inl ct)), (bcr, .inl (G.2 0, 4, .inl cr))] H := hP
  have hD : va_D A [(m0, .inr (8, [.int 0, .long mt, .int hd, .int mmd, .ref bkd, .ref btr, .ref bdl, .int typ, .int rd, .ref btp, .int giv, .ref bgv, .ref bse, .ref bro, .ref bop, .ref baw, .ref bsd, .ref bot, .ref bct, .ref bcr, .ref bud, .ref blo, .ref bwl, .int us, .ref bub, .ref bul, .ref bua])), (bse, .inl (G.2 0, 4, .inl se)), (bro, .inl (G.2 1, 4, .inr (.inl ro))), (bop, .inl (G.2 0, 4, .inl opv)), (baw, .inl (G.2 0, 4, .inl aw)), (bct, .inl (G.2 0, 4, .inl ct)), (bcr, .inl (G.2 0, 4, .inl cr))] := hD
  refine lv_iconst (v := 0) hx hb dX6_reset_5 (by decide) ?_
  refine lv_istore_n (lv' := [(1, .int 0), (0, .ref m0)]) hx hb dX6_reset_6 rfl hl (by decide) rfl (fun ls hl => ?_)
  refine lv_iconst (v := 0) hx hb dX6_reset_7 (by decide) ?_
  refine lv_istore_n (lv' := [(2, .int 0), (1, .int 0), (0, .ref m0)]) hx hb dX6_reset_8 rfl hl (by decide) rfl (fun ls hl => ?_)
  refine lv_iload_n hx hb dX6_reset_9 rfl (lv_at hl 0 rfl) ?_
  refine lv_iconst (v := 4) hx hb dX6_reset_10 (by decide) ?_
  refine lv_icmp_ge (tgt := 57) hx hb dX6_reset_11 (by decide) (fun q => absurd q (by decide)) (fun _ => ?_)
  refine lv_aload_n hx hb dX6_reset_14 rfl (lv_at hl 2 rfl) ?_
  refine va_get (D := G.1) (ci := 8) (v := .ref bop) (C := RX6) (T := TX6) (N := 27) hx hb hts iX6 hown hK.1 hP 0 rfl rfl 14 (by decide) (hts (.fieldLink RX6 34 "RightsStepsModel" "open" "[I") (by decide +kernel)) (fun _ h9 => h9) rfl dX6_reset_15 ?_
  refine lv_iload_n hx hb dX6_reset_18 rfl (lv_at hl 0 rfl) ?_
  refine va_iald (f := opv) hx hb hK.1 hP 3 0 rfl rfl (vp_in_iff.mpr (by decide)) dX6_reset_19 ?_
  refine W.join (J := 30) (nL := 3) (lvm := [(2, .int 0), (1, .int 0), (0, .ref m0)]) (st := .int (if (opv (0 : Int32).toNatClampNeg) ≤ 0 then 0 else 1) :: []) (fun hJ => ?_) (fun ls hl => ?_)
  · refine lv_if_le (tgt := 29) hx hb dX6_reset_20 (by decide) (fun c_20 => ?_) (fun c_20 => ?_)
    · refine lv_iload_n hx hb dX6_reset_29 rfl (lv_at hl 1 rfl) ?_
      refine W.eq (g2 := F0 m 30 ls (.int (if (opv (0 : Int32).toNatClampNeg) ≤ 0 then 0 else 1) :: [])) (by rw [if_pos c_20]) ?_
      exact hJ ls (lv_sub hl [0, 1, 2] rfl)
    · refine lv_iload_n hx hb dX6_reset_23 rfl (lv_at hl 1 rfl) ?_
      refine lv_iconst (v := 1) hx hb dX6_reset_24 (by decide) ?_
      refine lv_iadd hx hb dX6_reset_25 ?_
      refine W.eq (g2 := F0 m 26 ls (.int 1 :: [])) rfl ?_
      refine lv_goto (tgt := 30) hx hb dX6_reset_26 (by decide) ?_
      refine W.eq (g2 := F0 m 30 ls (.int (if (opv (0 : Int32).toNatClampNeg) ≤ 0 then 0 else 1) :: [])) (by rw [if_neg c_20]) ?_
      exact hJ ls (lv_sub hl [0, 1, 2] rfl)
  · refine lv_istore_n (lv' := [(1, .int (if (opv (0 : Int32).toNatClampNeg) ≤ 0 then 0 else 1)), (2, .int 0), (0, .ref m0)]) hx hb dX6_reset_30 rfl hl (by decide) rfl (fun ls hl => ?_)
    refine lv_aload_n hx hb dX6_reset_31 rfl (lv_at hl 2 rfl) ?_
    refine lv_iload_n hx hb dX6_reset_32 rfl (lv_at hl 1 rfl) ?_
    refine lv_iconst (v := 1) hx hb dX6_reset_33 (by decide) ?_
    have hPc := hP.sub (ws' := [(m0, .inr (8, [.int 0, .long mt, .int hd, .int mmd, .ref bkd, .ref btr, .ref bdl, .int typ, .int rd, .ref btp, .int giv, .ref bgv, .ref bse, .ref bro, .ref bop, .ref baw, .ref bsd, .ref bot, .ref bct, .ref bcr, .ref bud, .ref blo, .ref bwl, .int us, .ref bub, .ref bul, .ref bua])), (bse, .inl (G.2 0, 4, .inl se)), (bro, .inl (G.2 1, 4, .inr (.inl ro))), (bop, .inl (G.2 0, 4, .inl opv)), (baw, .inl (G.2 0, 4, .inl aw))]) [0, 1, 2, 3, 4] rfl
    have hDc := hD.sub (ws' := [(m0, .inr (8, [.int 0, .long mt, .int hd, .int mmd, .ref bkd, .ref btr, .ref bdl, .int typ, .int rd, .ref btp, .int giv, .ref bgv, .ref bse, .ref bro, .ref bop, .ref baw, .ref bsd, .ref bot, .ref bct, .ref bcr, .ref bud, .ref blo, .ref bwl, .int us, .ref bub, .ref bul, .ref bua])), (bse, .inl (G.2 0, 4, .inl se)), (bro, .inl (G.2 1, 4, .inr (.inl ro))), (bop, .inl (G.2 0, 4, .inl opv)), (baw, .inl (G.2 0, 4, .inl aw))]) [0, 1, 2, 3, 4] (by decide) rfl
    refine cl_v (wr := [(bct, .inl (G.2 0, 4, .inl ct)), (bcr, .inl (G.2 0, 4, .inl cr))]) (va_runV (As := [.int 0, .int 1]) (rest := []) ⟨hx, hb, hml, hown, hts⟩ (c_X6_begin l G m0 bse bro bop baw bkd btr bdl btp bgv bsd bot bct bcr bud blo bwl bub bul bua _ 0 mt hd mmd typ rd giv us se ro opv aw 0 1 (vp_in_iff.mpr (by decide))) (cwV 2 hts gX6_reset_X6_begin rfl rfl rfl (by decide +kernel) ⟨Nat.le_of_ble_eq_true rfl, Nat.le_of_ble_eq_true rfl⟩) (pR_V hK hPc hDc (q0 := 0) rfl rfl) rfl rfl hl.1 rfl (lv_room (Nat.le_of_ble_eq_true rfl)) dX6_reset_34 ⟨Nat.le_of_ble_eq_true rfl, Nat.le_of_ble_eq_true rfl⟩) hP hD hS hA [0, 1, 2, 3, 4] [5, 6] rfl rfl (by decide) (by decide) (fun u1 ez1 H locs hP hD hS => ?_)
    have hP : va_P G.1 vwCl [(bct, .inl (G.2 0, 4, .inl ct)), (bcr, .inl (G.2 0, 4, .inl cr)), (m0, .inr (8, [.int 0, .long mt, .int hd, .int mmd, .ref bkd, .ref btr, .ref bdl, .int typ, .int rd, .ref btp, .int giv, .ref bgv, .ref bse, .ref bro, .ref bop, .ref baw, .ref bsd, .ref bot, .ref bct, .ref bcr, .ref bud, .ref blo, .ref bwl, .int us, .ref bub, .ref bul, .ref bua])), (bse, .inl (G.2 0, 4, .inl u1.1)), (bro, .inl (G.2 1, 4, .inr (.inl u1.2.1))), (bop, .inl (G.2 0, 4, .inl u1.2.2.1)), (baw, .inl (G.2 0, 4, .inl u1.2.2.2))] H := hP
    have hD : va_D A [(bct, .inl (G.2 0, 4, .inl ct)), (bcr, .inl (G.2 0, 4, .inl cr)), (m0, .inr (8, [.int 0, .long mt, .int hd, .int mmd, .ref bkd, .ref btr, .ref bdl, .int typ, .int rd, .ref btp, .int giv, .ref bgv, .ref bse, .ref bro, .ref bop, .ref baw, .ref bsd, .ref bot, .ref bct, .ref bcr, .ref bud, .ref blo, .ref bwl, .int us, .ref bub, .ref bul, .ref bua])), (bse, .inl (G.2 0, 4, .inl u1.1)), (bro, .inl (G.2 1, 4, .inr (.inl u1.2.1))), (bop, .inl (G.2 0, 4, .inl u1.2.2.1)), (baw, .inl (G.2 0, 4, .inl u1.2.2.2))] := hD
    have hF := lz_e hF ez1
    refine lv_aload_n hx hb dX6_reset_37 rfl (lv_at hl 2 rfl) ?_
    refine va_get (D := G.1) (ci := 8) (v := .ref bct) (C := RX6) (T := TX6) (N := 27) hx hb hts iX6 hown hK.1 hP 2 rfl rfl 18 (by decide) (hts (.fieldLink RX6 46 "RightsStepsModel" "octets" "[I") (by decide +kernel)) (fun _ h9 => h9) rfl dX6_reset_38 ?_
    refine lv_iload_n hx hb dX6_reset_41 rfl (lv_at hl 1 rfl) ?_
    refine lv_iconst (v := 0) hx hb dX6_reset_42 (by decide) ?_
    refine va_iast (f := ct) hx hb hK.1 hP hD hS 0 0 rfl rfl (vp_in_iff.mpr (by decide)) dX6_reset_43 (fun H locs hP hD hS => ?_)
    have hP : va_P G.1 vwCl [(bct, .inl (G.2 0, 4, .inl (upd ct (0 : Int32).toNatClampNeg 0))), (bcr, .inl (G.2 0, 4, .inl cr)), (m0, .inr (8, [.int 0, .long mt, .int hd, .int mmd, .ref bkd, .ref btr, .ref bdl, .int typ, .int rd, .ref btp, .int giv, .ref bgv, .ref bse, .ref bro, .ref bop, .ref baw, .ref bsd, .ref bot, .ref bct, .ref bcr, .ref bud, .ref blo, .ref bwl, .int us, .ref bub, .ref bul, .ref bua])), (bse, .inl (G.2 0, 4, .inl u1.1)), (bro, .inl (G.2 1, 4, .inr (.inl u1.2.1))), (bop, .inl (G.2 0, 4, .inl u1.2.2.1)), (baw, .inl (G.2 0, 4, .inl u1.2.2.2))] H := hP
    have hD : va_D A [(bct, .inl (G.2 0, 4, .inl (upd ct (0 : Int32).toNatClampNeg 0))), (bcr, .inl (G.2 0, 4, .inl cr)), (m0, .inr (8, [.int 0, .long mt, .int hd, .int mmd, .ref bkd, .ref btr, .ref bdl, .int typ, .int rd, .ref btp, .int giv, .ref bgv, .ref bse, .ref bro, .ref bop, .ref baw, .ref bsd, .ref bot, .ref bct, .ref bcr, .ref bud, .ref blo, .ref bwl, .int us, .ref bub, .ref bul, .ref bua])), (bse, .inl (G.2 0, 4, .inl u1.1)), (bro, .inl (G.2 1, 4, .inr (.inl u1.2.1))), (bop, .inl (G.2 0, 4, .inl u1.2.2.1)), (baw, .inl (G.2 0, 4, .inl u1.2.2.2))] := hD
    refine lv_aload_n hx hb dX6_reset_44 rfl (lv_at hl 2 rfl) ?_
    refine va_get (D := G.1) (ci := 8) (v := .ref bcr) (C := RX6) (T := TX6) (N := 27) hx hb hts iX6 hown hK.1 hP 2 rfl rfl 19 (by decide) (hts (.fieldLink RX6 49 "RightsStepsModel" "octetRow" "[I") (by decide +kernel)) (fun _ h9 => h9) rfl dX6_reset_45 ?_
    refine lv_iload_n hx hb dX6_reset_48 rfl (lv_at hl 1 rfl) ?_
    refine lv_iconst (v := 0) hx hb dX6_reset_49 (by decide) ?_
    refine va_iast (f := cr) hx hb hK.1 hP hD hS 1 0 rfl rfl (vp_in_iff.mpr (by decide)) dX6_reset_50 (fun H locs hP hD hS => ?_)
    have hP : va_P G.1 vwCl [(bct, .inl (G.2 0, 4, .inl (upd ct (0 : Int32).toNatClampNeg 0))), (bcr, .inl (G.2 0, 4, .inl (upd cr (0 : Int32).toNatClampNeg 0))), (m0, .inr (8, [.int 0, .long mt, .int hd, .int mmd, .ref bkd, .ref btr, .ref bdl, .int typ, .int rd, .ref btp, .int giv, .ref bgv, .ref bse, .ref bro, .ref bop, .ref baw, .ref bsd, .ref bot, .ref bct, .ref bcr, .ref bud, .ref blo, .ref bwl, .int us, .ref bub, .ref bul, .ref bua])), (bse, .inl (G.2 0, 4, .inl u1.1)), (bro, .inl (G.2 1, 4, .inr (.inl u1.2.1))), (bop, .inl (G.2 0, 4, .inl u1.2.2.1)), (baw, .inl (G.2 0, 4, .inl u1.2.2.2))] H := hP
    have hD : va_D A [(bct, .inl (G.2 0, 4, .inl (upd ct (0 : Int32).toNatClampNeg 0))), (bcr, .inl (G.2 0, 4, .inl (upd cr (0 : Int32).toNatClampNeg 0))), (m0, .inr (8, [.int 0, .long mt, .int hd, .int mmd, .ref bkd, .ref btr, .ref bdl, .int typ, .int rd, .ref btp, .int giv, .ref bgv, .ref bse, .ref bro, .ref bop, .ref baw, .ref bsd, .ref bot, .ref bct, .ref bcr, .ref bud, .ref blo, .ref bwl, .int us, .ref bub, .ref bul, .ref bua])), (bse, .inl (G.2 0, 4, .inl u1.1)), (bro, .inl (G.2 1, 4, .inr (.inl u1.2.1))), (bop, .inl (G.2 0, 4, .inl u1.2.2.1)), (baw, .inl (G.2 0, 4, .inl u1.2.2.2))] := hD
    refine lv_iinc (v := 1) (lv' := [(2, .int 1), (1, .int (if (opv (0 : Int32).toNatClampNeg) ≤ 0 then 0 else 1)), (0, .ref m0)]) hx hb dX6_reset_51 hl (k := 1) rfl (by decide) (by decide) rfl (fun ls hl => ?_)
    refine lv_goto (tgt := 9) hx hb dX6_reset_54 (by decide) ?_
    refine lv_iload_n hx hb dX6_reset_9 rfl (lv_at hl 0 rfl) ?_
    refine lv_iconst (v := 4) hx hb dX6_reset_10 (by decide) ?_
    refine lv_icmp_ge (tgt := 57) hx hb dX6_reset_11 (by decide) (fun q => absurd q (by decide)) (fun _ => ?_)
    refine lv_aload_n hx hb dX6_reset_14 rfl (lv_at hl 2 rfl) ?_
    refine va_get (D := G.1) (ci := 8) (v := .ref bop) (C := RX6) (T := TX6) (N := 27) hx hb hts iX6 hown hK.1 hP 2 rfl rfl 14 (by decide) (hts (.fieldLink RX6 34 "RightsStepsModel" "open" "[I") (by decide +kernel)) (fun _ h9 => h9) rfl dX6_reset_15 ?_
    refine lv_iload_n hx hb dX6_reset_18 rfl (lv_at hl 0 rfl) ?_
    refine va_iald (f := u1.2.2.1) hx hb hK.1 hP 5 0 rfl rfl (vp_in_iff.mpr (by decide)) dX6_reset_19 ?_
    refine W.join (J := 30) (nL := 3) (lvm := [(2, .int 1), (1, .int (if (opv (0 : Int32).toNatClampNeg) ≤ 0 then 0 else 1)), (0, .ref m0)]) (st := .int (if (u1.2.2.1 (1 : Int32).toNatClampNeg) ≤ 0 then (if (opv (0 : Int32).toNatClampNeg) ≤ 0 then 0 else 1) else ((if (opv (0 : Int32).toNatClampNeg) ≤ 0 then 0 else 1) + 1)) :: []) (fun hJ => ?_) (fun ls hl => ?_)
    · refine lv_if_le (tgt := 29) hx hb dX6_reset_20 (by decide) (fun c_20_2 => ?_) (fun c_20_2 => ?_)
      · refine lv_iload_n hx hb dX6_reset_29 rfl (lv_at hl 1 rfl) ?_
        refine W.eq (g2 := F0 m 30 ls (.int (if (u1.2.2.1 (1 : Int32).toNatClampNeg) ≤ 0 then (if (opv (0 : Int32).toNatClampNeg) ≤ 0 then 0 else 1) else ((if (opv (0 : Int32).toNatClampNeg) ≤ 0 then 0 else 1) + 1)) :: [])) (by rw [if_pos c_20_2]) ?_
        exact hJ ls (lv_sub hl [0, 1, 2] rfl)
      · refine lv_iload_n hx hb dX6_reset_23 rfl (lv_at hl 1 rfl) ?_
        refine lv_iconst (v := 1) hx hb dX6_reset_24 (by decide) ?_
        refine lv_iadd hx hb dX6_reset_25 ?_
        refine lv_goto (tgt := 30) hx hb dX6_reset_26 (by decide) ?_
        refine W.eq (g2 := F0 m 30 ls (.int (if (u1.2.2.1 (1 : Int32).toNatClampNeg) ≤ 0 then (if (opv (0 : Int32).toNatClampNeg) ≤ 0 then 0 else 1) else ((if (opv (0 : Int32).toNatClampNeg) ≤ 0 then 0 else 1) + 1)) :: [])) (by rw [if_neg c_20_2]) ?_
        exact hJ ls (lv_sub hl [0, 1, 2] rfl)
    · refine lv_istore_n (lv' := [(1, .int (if (u1.2.2.1 (1 : Int32).toNatClampNeg) ≤ 0 then (if (opv (0 : Int32).toNatClampNeg) ≤ 0 then 0 else 1) else ((if (opv (0 : Int32).toNatClampNeg) ≤ 0 then 0 else 1) + 1))), (2, .int 1), (0, .ref m0)]) hx hb dX6_reset_30 rfl hl (by decide) rfl (fun ls hl => ?_)
      refine lv_aload_n hx hb dX6_reset_31 rfl (lv_at hl 2 rfl) ?_
      refine lv_iload_n hx hb dX6_reset_32 rfl (lv_at hl 1 rfl) ?_
      refine lv_iconst (v := 1) hx hb dX6_reset_33 (by decide) ?_
      have hPc := hP.sub (ws' := [(m0, .inr (8, [.int 0, .long mt, .int hd, .int mmd, .ref bkd, .ref btr, .ref bdl, .int typ, .int rd, .ref btp, .int giv, .ref bgv, .ref bse, .ref bro, .ref bop, .ref baw, .ref bsd, .ref bot, .ref bct, .ref bcr, .ref bud, .ref blo, .ref bwl, .int us, .ref bub, .ref bul, .ref bua])), (bse, .inl (G.2 0, 4, .inl u1.1)), (bro, .inl (G.2 1, 4, .inr (.inl u1.2.1))), (bop, .inl (G.2 0, 4, .inl u1.2.2.1)), (baw, .inl (G.2 0, 4, .inl u1.2.2.2))]) [2, 3, 4, 5, 6] rfl
      have hDc := hD.sub (ws' := [(m0, .inr (8, [.int 0, .long mt, .int hd, .int mmd, .ref bkd, .ref btr, .ref bdl, .int typ, .int rd, .ref btp, .int giv, .ref bgv, .ref bse, .ref bro, .ref bop, .ref baw, .ref bsd, .ref bot, .ref bct, .ref bcr, .ref bud, .ref blo, .ref bwl, .int us, .ref bub, .ref bul, .ref bua])), (bse, .inl (G.2 0, 4, .inl u1.1)), (bro, .inl (G.2 1, 4, .inr (.inl u1.2.1))), (bop, .inl (G.2 0, 4, .inl u1.2.2.1)), (baw, .inl (G.2 0, 4, .inl u1.2.2.2))]) [2, 3, 4, 5, 6] (by decide) rfl
      refine cl_v (wr := [(bct, .inl (G.2 0, 4, .inl (upd ct (0 : Int32).toNatClampNeg 0))), (bcr, .inl (G.2 0, 4, .inl (upd cr (0 : Int32).toNatClampNeg 0)))]) (va_runV (As := [.int 1, .int 1]) (rest := []) ⟨hx, hb, hml, hown, hts⟩ (c_X6_begin l G m0 bse bro bop baw bkd btr bdl btp bgv bsd bot bct bcr bud blo bwl bub bul bua _ 0 mt hd mmd typ rd giv us u1.1 u1.2.1 u1.2.2.1 u1.2.2.2 1 1 (vp_in_iff.mpr (by decide))) (cwV 2 hts gX6_reset_X6_begin rfl rfl rfl (by decide +kernel) ⟨Nat.le_of_ble_eq_true rfl, Nat.le_of_ble_eq_true rfl⟩) (pR_V hK hPc hDc (q0 := 0) rfl rfl) rfl rfl hl.1 rfl (lv_room (Nat.le_of_ble_eq_true rfl)) dX6_reset_34 ⟨Nat.le_of_ble_eq_true rfl, Nat.le_of_ble_eq_true rfl⟩) hP hD hS hA [2, 3, 4, 5, 6] [0, 1] rfl rfl (by decide) (by decide) (fun u2 ez2 H locs hP hD hS => ?_)
      have hP : va_P G.1 vwCl [(bct, .inl (G.2 0, 4, .inl (upd ct (0 : Int32).toNatClampNeg 0))), (bcr, .inl (G.2 0, 4, .inl (upd cr (0 : Int32).toNatClampNeg 0))), (m0, .inr (8, [.int 0, .long mt, .int hd, .int mmd, .ref bkd, .ref btr, .ref bdl, .int typ, .int rd, .ref btp, .int giv, .ref bgv, .ref bse, .ref bro, .ref bop, .ref baw, .ref bsd, .ref bot, .ref bct, .ref bcr, .ref bud, .ref blo, .ref bwl, .int us, .ref bub, .ref bul, .ref bua])), (bse, .inl (G.2 0, 4, .inl u2.1)), (bro, .inl (G.2 1, 4, .inr (.inl u2.2.1))), (bop, .inl (G.2 0, 4, .inl u2.2.2.1)), (baw, .inl (G.2 0, 4, .inl u2.2.2.2))] H := hP
      have hD : va_D A [(bct, .inl (G.2 0, 4, .inl (upd ct (0 : Int32).toNatClampNeg 0))), (bcr, .inl (G.2 0, 4, .inl (upd cr (0 : Int32).toNatClampNeg 0))), (m0, .inr (8, [.int 0, .long mt, .int hd, .int mmd, .ref bkd, .ref btr, .ref bdl, .int typ, .int rd, .ref btp, .int giv, .ref bgv, .ref bse, .ref bro, .ref bop, .ref baw, .ref bsd, .ref bot, .ref bct, .ref bcr, .ref bud, .ref blo, .ref bwl, .int us, .ref bub, .ref bul, .ref bua])), (bse, .inl (G.2 0, 4, .inl u2.1)), (bro, .inl (G.2 1, 4, .inr (.inl u2.2.1))), (bop, .inl (G.2 0, 4, .inl u2.2.2.1)), (baw, .inl (G.2 0, 4, .inl u2.2.2.2))] := hD
      have hF := lz_e hF ez2
      refine lv_aload_n hx hb dX6_reset_37 rfl (lv_at hl 2 rfl) ?_
      refine va_get (D := G.1) (ci := 8) (v := .ref bct) (C := RX6) (T := TX6) (N := 27) hx hb hts iX6 hown hK.1 hP 2 rfl rfl 18 (by decide) (hts (.fieldLink RX6 46 "RightsStepsModel" "octets" "[I") (by decide +kernel)) (fun _ h9 => h9) rfl dX6_reset_38 ?_
      refine lv_iload_n hx hb dX6_reset_41 rfl (lv_at hl 1 rfl) ?_
      refine lv_iconst (v := 0) hx hb dX6_reset_42 (by decide) ?_
      refine va_iast (f := (upd ct (0 : Int32).toNatClampNeg 0)) hx hb hK.1 hP hD hS 0 0 rfl rfl (vp_in_iff.mpr (by decide)) dX6_reset_43 (fun H locs hP hD hS => ?_)
      have hP : va_P G.1 vwCl [(bct, .inl (G.2 0, 4, .inl (upd (upd ct (0 : Int32).toNatClampNeg 0) (1 : Int32).toNatClampNeg 0))), (bcr, .inl (G.2 0, 4, .inl (upd cr (0 : Int32).toNatClampNeg 0))), (m0, .inr (8, [.int 0, .long mt, .int hd, .int mmd, .ref bkd, .ref btr, .ref bdl, .int typ, .int rd, .ref btp, .int giv, .ref bgv, .ref bse, .ref bro, .ref bop, .ref baw, .ref bsd, .ref bot, .ref bct, .ref bcr, .ref bud, .ref blo, .ref bwl, .int us, .ref bub, .ref bul, .ref bua])), (bse, .inl (G.2 0, 4, .inl u2.1)), (bro, .inl (G.2 1, 4, .inr (.inl u2.2.1))), (bop, .inl (G.2 0, 4, .inl u2.2.2.1)), (baw, .inl (G.2 0, 4, .inl u2.2.2.2))] H := hP
      have hD : va_D A [(bct, .inl (G.2 0, 4, .inl (upd (upd ct (0 : Int32).toNatClampNeg 0) (1 : Int32).toNatClampNeg 0))), (bcr, .inl (G.2 0, 4, .inl (upd cr (0 : Int32).toNatClampNeg 0))), (m0, .inr (8, [.int 0, .long mt, .int hd, .int mmd, .ref bkd, .ref btr, .ref bdl, .int typ, .int rd, .ref btp, .int giv, .ref bgv, .ref bse, .ref bro, .ref bop, .ref baw, .ref bsd, .ref bot, .ref bct, .ref bcr, .ref bud, .ref blo, .ref bwl, .int us, .ref bub, .ref bul, .ref bua])), (bse, .inl (G.2 0, 4, .inl u2.1)), (bro, .inl (G.2 1, 4, .inr (.inl u2.2.1))), (bop, .inl (G.2 0, 4, .inl u2.2.2.1)), (baw, .inl (G.2 0, 4, .inl u2.2.2.2))] := hD
      refine lv_aload_n hx hb dX6_reset_44 rfl (lv_at hl 2 rfl) ?_
      refine va_get (D := G.1) (ci := 8) (v := .ref bcr) (C := RX6) (T := TX6) (N := 27) hx hb hts iX6 hown hK.1 hP 2 rfl rfl 19 (by decide) (hts (.fieldLink RX6 49 "RightsStepsModel" "octetRow" "[I") (by decide +kernel)) (fun _ h9 => h9) rfl dX6_reset_45 ?_
      refine lv_iload_n hx hb dX6_reset_48 rfl (lv_at hl 1 rfl) ?_
      refine lv_iconst (v := 0) hx hb dX6_reset_49 (by decide) ?_
      refine va_iast (f := (upd cr (0 : Int32).toNatClampNeg 0)) hx hb hK.1 hP hD hS 1 0 rfl rfl (vp_in_iff.mpr (by decide)) dX6_reset_50 (fun H locs hP hD hS => ?_)
      have hP : va_P G.1 vwCl [(bct, .inl (G.2 0, 4, .inl (upd (upd ct (0 : Int32).toNatClampNeg 0) (1 : Int32).toNatClampNeg 0))), (bcr, .inl (G.2 0, 4, .inl (upd (upd cr (0 : Int32).toNatClampNeg 0) (1 : Int32).toNatClampNeg 0))), (m0, .inr (8, [.int 0, .long mt, .int hd, .int mmd, .ref bkd, .ref btr, .ref bdl, .int typ, .int rd, .ref btp, .int giv, .ref bgv, .ref bse, .ref bro, .ref bop, .ref baw, .ref bsd, .ref bot, .ref bct, .ref bcr, .ref bud, .ref blo, .ref bwl, .int us, .ref bub, .ref bul, .ref bua])), (bse, .inl (G.2 0, 4, .inl u2.1)), (bro, .inl (G.2 1, 4, .inr (.inl u2.2.1))), (bop, .inl (G.2 0, 4, .inl u2.2.2.1)), (baw, .inl (G.2 0, 4, .inl u2.2.2.2))] H := hP
      have hD : va_D A [(bct, .inl (G.2 0, 4, .inl (upd (upd ct (0 : Int32).toNatClampNeg 0) (1 : Int32).toNatClampNeg 0))), (bcr, .inl (G.2 0, 4, .inl (upd (upd cr (0 : Int32).toNatClampNeg 0) (1 : Int32).toNatClampNeg 0))), (m0, .inr (8, [.int 0, .long mt, .int hd, .int mmd, .ref bkd, .ref btr, .ref bdl, .int typ, .int rd, .ref btp, .int giv, .ref bgv, .ref bse, .ref bro, .ref bop, .ref baw, .ref bsd, .ref bot, .ref bct, .ref bcr, .ref bud, .ref blo, .ref bwl, .int us, .ref bub, .ref bul, .ref bua])), (bse, .inl (G.2 0, 4, .inl u2.1)), (bro, .inl (G.2 1, 4, .inr (.inl u2.2.1))), (bop, .inl (G.2 0, 4, .inl u2.2.2.1)), (baw, .inl (G.2 0, 4, .inl u2.2.2.2))] := hD
      refine lv_iinc (v := 2) (lv' := [(2, .int 2), (1, .int (if (u1.2.2.1 (1 : Int32).toNatClampNeg) ≤ 0 then (if (opv (0 : Int32).toNatClampNeg) ≤ 0 then 0 else 1) else ((if (opv (0 : Int32).toNatClampNeg) ≤ 0 then 0 else 1) + 1))), (0, .ref m0)]) hx hb dX6_reset_51 hl (k := 1) rfl (by decide) (by decide) rfl (fun ls hl => ?_)
      refine lv_goto (tgt := 9) hx hb dX6_reset_54 (by decide) ?_
      refine lv_iload_n hx hb dX6_reset_9 rfl (lv_at hl 0 rfl) ?_
      refine lv_iconst (v := 4) hx hb dX6_reset_10 (by decide) ?_
      refine lv_icmp_ge (tgt := 57) hx hb dX6_reset_11 (by decide) (fun q => absurd q (by decide)) (fun _ => ?_)
      refine lv_aload_n hx hb dX6_reset_14 rfl (lv_at hl 2 rfl) ?_
      refine va_get (D := G.1) (ci := 8) (v := .ref bop) (C := RX6) (T := TX6) (N := 27) hx hb hts iX6 hown hK.1 hP 2 rfl rfl 14 (by decide) (hts (.fieldLink RX6 34 "RightsStepsModel" "open" "[I") (by decide +kernel)) (fun _ h9 => h9) rfl dX6_reset_15 ?_
      refine lv_iload_n hx hb dX6_reset_18 rfl (lv_at hl 0 rfl) ?_
      refine va_iald (f := u2.2.2.1) hx hb hK.1 hP 5 0 rfl rfl (vp_in_iff.mpr (by decide)) dX6_reset_19 ?_
      refine W.join (J := 30) (nL := 3) (lvm := [(2, .int 2), (1, .int (if (u1.2.2.1 (1 : Int32).toNatClampNeg) ≤ 0 then (if (opv (0 : Int32).toNatClampNeg) ≤ 0 then 0 else 1) else ((if (opv (0 : Int32).toNatClampNeg) ≤ 0 then 0 else 1) + 1))), (0, .ref m0)]) (st := .int (if (u2.2.2.1 (2 : Int32).toNatClampNeg) ≤ 0 then (if (u1.2.2.1 (1 : Int32).toNatClampNeg) ≤ 0 then (if (opv (0 : Int32).toNatClampNeg) ≤ 0 then 0 else 1) else ((if (opv (0 : Int32).toNatClampNeg) ≤ 0 then 0 else 1) + 1)) else ((if (u1.2.2.1 (1 : Int32).toNatClampNeg) ≤ 0 then (if (opv (0 : Int32).toNatClampNeg) ≤ 0 then 0 else 1) else ((if (opv (0 : Int32).toNatClampNeg) ≤ 0 then 0 else 1) + 1)) + 1)) :: []) (fun hJ => ?_) (fun ls hl => ?_)
      · refine lv_if_le (tgt := 29) hx hb dX6_reset_20 (by decide) (fun c_20_3 => ?_) (fun c_20_3 => ?_)
        · refine lv_iload_n hx hb dX6_reset_29 rfl (lv_at hl 1 rfl) ?_
          refine W.eq (g2 := F0 m 30 ls (.int (if (u2.2.2.1 (2 : Int32).toNatClampNeg) ≤ 0 then (if (u1.2.2.1 (1 : Int32).toNatClampNeg) ≤ 0 then (if (opv (0 : Int32).toNatClampNeg) ≤ 0 then 0 else 1) else ((if (opv (0 : Int32).toNatClampNeg) ≤ 0 then 0 else 1) + 1)) else ((if (u1.2.2.1 (1 : Int32).toNatClampNeg) ≤ 0 then (if (opv (0 : Int32).toNatClampNeg) ≤ 0 then 0 else 1) else ((if (opv (0 : Int32).toNatClampNeg) ≤ 0 then 0 else 1) + 1)) + 1)) :: [])) (by rw [if_pos c_20_3]) ?_
          exact hJ ls (lv_sub hl [0, 1, 2] rfl)
        · refine lv_iload_n hx hb dX6_reset_23 rfl (lv_at hl 1 rfl) ?_
          refine lv_iconst (v := 1) hx hb dX6_reset_24 (by decide) ?_
          refine lv_iadd hx hb dX6_reset_25 ?_
          refine lv_goto (tgt := 30) hx hb dX6_reset_26 (by decide) ?_
          refine W.eq (g2 := F0 m 30 ls (.int (if (u2.2.2.1 (2 : Int32).toNatClampNeg) ≤ 0 then (if (u1.2.2.1 (1 : Int32).toNatClampNeg) ≤ 0 then (if (opv (0 : Int32).toNatClampNeg) ≤ 0 then 0 else 1) else ((if (opv (0 : Int32).toNatClampNeg) ≤ 0 then 0 else 1) + 1)) else ((if (u1.2.2.1 (1 : Int32).toNatClampNeg) ≤ 0 then (if (opv (0 : Int32).toNatClampNeg) ≤ 0 then 0 else 1) else ((if (opv (0 : Int32).toNatClampNeg) ≤ 0 then 0 else 1) + 1)) + 1)) :: [])) (by rw [if_neg c_20_3]) ?_
          exact hJ ls (lv_sub hl [0, 1, 2] rfl)
      · refine lv_istore_n (lv' := [(1, .int (if (u2.2.2.1 (2 : Int32).toNatClampNeg) ≤ 0 then (if (u1.2.2.1 (1 : Int32).toNatClampNeg) ≤ 0 then (if (opv (0 : Int32).toNatClampNeg) ≤ 0 then 0 else 1) else ((if (opv (0 : Int32).toNatClampNeg) ≤ 0 then 0 else 1) + 1)) else ((if (u1.2.2.1 (1 : Int32).toNatClampNeg) ≤ 0 then (if (opv (0 : Int32).toNatClampNeg) ≤ 0 then 0 else 1) else ((if (opv (0 : Int32).toNatClampNeg) ≤ 0 then 0 else 1) + 1)) + 1))), (2, .int 2), (0, .ref m0)]) hx hb dX6_reset_30 rfl hl (by decide) rfl (fun ls hl => ?_)
        refine lv_aload_n hx hb dX6_reset_31 rfl (lv_at hl 2 rfl) ?_
        refine lv_iload_n hx hb dX6_reset_32 rfl (lv_at hl 1 rfl) ?_
        refine lv_iconst (v := 1) hx hb dX6_reset_33 (by decide) ?_
        have hPc := hP.sub (ws' := [(m0, .inr (8, [.int 0, .long mt, .int hd, .int mmd, .ref bkd, .ref btr, .ref bdl, .int typ, .int rd, .ref btp, .int giv, .ref bgv, .ref bse, .ref bro, .ref bop, .ref baw, .ref bsd, .ref bot, .ref bct, .ref bcr, .ref bud, .ref blo, .ref bwl, .int us, .ref bub, .ref bul, .ref bua])), (bse, .inl (G.2 0, 4, .inl u2.1)), (bro, .inl (G.2 1, 4, .inr (.inl u2.2.1))), (bop, .inl (G.2 0, 4, .inl u2.2.2.1)), (baw, .inl (G.2 0, 4, .inl u2.2.2.2))]) [2, 3, 4, 5, 6] rfl
        have hDc := hD.sub (ws' := [(m0, .inr (8, [.int 0, .long mt, .int hd, .int mmd, .ref bkd, .ref btr, .ref bdl, .int typ, .int rd, .ref btp, .int giv, .ref bgv, .ref bse, .ref bro, .ref bop, .ref baw, .ref bsd, .ref bot, .ref bct, .ref bcr, .ref bud, .ref blo, .ref bwl, .int us, .ref bub, .ref bul, .ref bua])), (bse, .inl (G.2 0, 4, .inl u2.1)), (bro, .inl (G.2 1, 4, .inr (.inl u2.2.1))), (bop, .inl (G.2 0, 4, .inl u2.2.2.1)), (baw, .inl (G.2 0, 4, .inl u2.2.2.2))]) [2, 3, 4, 5, 6] (by decide) rfl
        refine cl_v (wr := [(bct, .inl (G.2 0, 4, .inl (upd (upd ct (0 : Int32).toNatClampNeg 0) (1 : Int32).toNatClampNeg 0))), (bcr, .inl (G.2 0, 4, .inl (upd (upd cr (0 : Int32).toNatClampNeg 0) (1 : Int32).toNatClampNeg 0)))]) (va_runV (As := [.int 2, .int 1]) (rest := []) ⟨hx, hb, hml, hown, hts⟩ (c_X6_begin l G m0 bse bro bop baw bkd btr bdl btp bgv bsd bot bct bcr bud blo bwl bub bul bua _ 0 mt hd mmd typ rd giv us u2.1 u2.2.1 u2.2.2.1 u2.2.2.2 2 1 (vp_in_iff.mpr (by decide))) (cwV 2 hts gX6_reset_X6_begin rfl rfl rfl (by decide +kernel) ⟨Nat.le_of_ble_eq_true rfl, Nat.le_of_ble_eq_true rfl⟩) (pR_V hK hPc hDc (q0 := 0) rfl rfl) rfl rfl hl.1 rfl (lv_room (Nat.le_of_ble_eq_true rfl)) dX6_reset_34 ⟨Nat.le_of_ble_eq_true rfl, Nat.le_of_ble_eq_true rfl⟩) hP hD hS hA [2, 3, 4, 5, 6] [0, 1] rfl rfl (by decide) (by decide) (fun u3 ez3 H locs hP hD hS => ?_)
        have hP : va_P G.1 vwCl [(bct, .inl (G.2 0, 4, .inl (upd (upd ct (0 : Int32).toNatClampNeg 0) (1 : Int32).toNatClampNeg 0))), (bcr, .inl (G.2 0, 4, .inl (upd (upd cr (0 : Int32).toNatClampNeg 0) (1 : Int32).toNatClampNeg 0))), (m0, .inr (8, [.int 0, .long mt, .int hd, .int mmd, .ref bkd, .ref btr, .ref bdl, .int typ, .int rd, .ref btp, .int giv, .ref bgv, .ref bse, .ref bro, .ref bop, .ref baw, .ref bsd, .ref bot, .ref bct, .ref bcr, .ref bud, .ref blo, .ref bwl, .int us, .ref bub, .ref bul, .ref bua])), (bse, .inl (G.2 0, 4, .inl u3.1)), (bro, .inl (G.2 1, 4, .inr (.inl u3.2.1))), (bop, .inl (G.2 0, 4, .inl u3.2.2.1)), (baw, .inl (G.2 0, 4, .inl u3.2.2.2))] H := hP
        have hD : va_D A [(bct, .inl (G.2 0, 4, .inl (upd (upd ct (0 : Int32).toNatClampNeg 0) (1 : Int32).toNatClampNeg 0))), (bcr, .inl (G.2 0, 4, .inl (upd (upd cr (0 : Int32).toNatClampNeg 0) (1 : Int32).toNatClampNeg 0))), (m0, .inr (8, [.int 0, .long mt, .int hd, .int mmd, .ref bkd, .ref btr, .ref bdl, .int typ, .int rd, .ref btp, .int giv, .ref bgv, .ref bse, .ref bro, .ref bop, .ref baw, .ref bsd, .ref bot, .ref bct, .ref bcr, .ref bud, .ref blo, .ref bwl, .int us, .ref bub, .ref bul, .ref bua])), (bse, .inl (G.2 0, 4, .inl u3.1)), (bro, .inl (G.2 1, 4, .inr (.inl u3.2.1))), (bop, .inl (G.2 0, 4, .inl u3.2.2.1)), (baw, .inl (G.2 0, 4, .inl u3.2.2.2))] := hD
        have hF := lz_e hF ez3
        refine lv_aload_n hx hb dX6_reset_37 rfl (lv_at hl 2 rfl) ?_
        refine va_get (D := G.1) (ci := 8) (v := .ref bct) (C := RX6) (T := TX6) (N := 27) hx hb hts iX6 hown hK.1 hP 2 rfl rfl 18 (by decide) (hts (.fieldLink RX6 46 "RightsStepsModel" "octets" "[I") (by decide +kernel)) (fun _ h9 => h9) rfl dX6_reset_38 ?_
        refine lv_iload_n hx hb dX6_reset_41 rfl (lv_at hl 1 rfl) ?_
        refine lv_iconst (v := 0) hx hb dX6_reset_42 (by decide) ?_
        refine va_iast (f := (upd (upd ct (0 : Int32).toNatClampNeg 0) (1 : Int32).toNatClampNeg 0)) hx hb hK.1 hP hD hS 0 0 rfl rfl (vp_in_iff.mpr (by decide)) dX6_reset_43 (fun H locs hP hD hS => ?_)
        have hP : va_P G.1 vwCl [(bct, .inl (G.2 0, 4, .inl (upd (upd (upd ct (0 : Int32).toNatClampNeg 0) (1 : Int32).toNatClampNeg 0) (2 : Int32).toNatClampNeg 0))), (bcr, .inl (G.2 0, 4, .inl (upd (upd cr (0 : Int32).toNatClampNeg 0) (1 : Int32).toNatClampNeg 0))), (m0, .inr (8, [.int 0, .long mt, .int hd, .int mmd, .ref bkd, .ref btr, .ref bdl, .int typ, .int rd, .ref btp, .int giv, .ref bgv, .ref bse, .ref bro, .ref bop, .ref baw, .ref bsd, .ref bot, .ref bct, .ref bcr, .ref bud, .ref blo, .ref bwl, .int us, .ref bub, .ref bul, .ref bua])), (bse, .inl (G.2 0, 4, .inl u3.1)), (bro, .inl (G.2 1, 4, .inr (.inl u3.2.1))), (bop, .inl (G.2 0, 4, .inl u3.2.2.1)), (baw, .inl (G.2 0, 4, .inl u3.2.2.2))] H := hP
        have hD : va_D A [(bct, .inl (G.2 0, 4, .inl (upd (upd (upd ct (0 : Int32).toNatClampNeg 0) (1 : Int32).toNatClampNeg 0) (2 : Int32).toNatClampNeg 0))), (bcr, .inl (G.2 0, 4, .inl (upd (upd cr (0 : Int32).toNatClampNeg 0) (1 : Int32).toNatClampNeg 0))), (m0, .inr (8, [.int 0, .long mt, .int hd, .int mmd, .ref bkd, .ref btr, .ref bdl, .int typ, .int rd, .ref btp, .int giv, .ref bgv, .ref bse, .ref bro, .ref bop, .ref baw, .ref bsd, .ref bot, .ref bct, .ref bcr, .ref bud, .ref blo, .ref bwl, .int us, .ref bub, .ref bul, .ref bua])), (bse, .inl (G.2 0, 4, .inl u3.1)), (bro, .inl (G.2 1, 4, .inr (.inl u3.2.1))), (bop, .inl (G.2 0, 4, .inl u3.2.2.1)), (baw, .inl (G.2 0, 4, .inl u3.2.2.2))] := hD
        refine lv_aload_n hx hb dX6_reset_44 rfl (lv_at hl 2 rfl) ?_
        refine va_get (D := G.1) (ci := 8) (v := .ref bcr) (C := RX6) (T := TX6) (N := 27) hx hb hts iX6 hown hK.1 hP 2 rfl rfl 19 (by decide) (hts (.fieldLink RX6 49 "RightsStepsModel" "octetRow" "[I") (by decide +kernel)) (fun _ h9 => h9) rfl dX6_reset_45 ?_
        refine lv_iload_n hx hb dX6_reset_48 rfl (lv_at hl 1 rfl) ?_
        refine lv_iconst (v := 0) hx hb dX6_reset_49 (by decide) ?_
        refine va_iast (f := (upd (upd cr (0 : Int32).toNatClampNeg 0) (1 : Int32).toNatClampNeg 0)) hx hb hK.1 hP hD hS 1 0 rfl rfl (vp_in_iff.mpr (by decide)) dX6_reset_50 (fun H locs hP hD hS => ?_)
        have hP : va_P G.1 vwCl [(bct, .inl (G.2 0, 4, .inl (upd (upd (upd ct (0 : Int32).toNatClampNeg 0) (1 : Int32).toNatClampNeg 0) (2 : Int32).toNatClampNeg 0))), (bcr, .inl (G.2 0, 4, .inl (upd (upd (upd cr (0 : Int32).toNatClampNeg 0) (1 : Int32).toNatClampNeg 0) (2 : Int32).toNatClampNeg 0))), (m0, .inr (8, [.int 0, .long mt, .int hd, .int mmd, .ref bkd, .ref btr, .ref bdl, .int typ, .int rd, .ref btp, .int giv, .ref bgv, .ref bse, .ref bro, .ref bop, .ref baw, .ref bsd, .ref bot, .ref bct, .ref bcr, .ref bud, .ref blo, .ref bwl, .int us, .ref bub, .ref bul, .ref bua])), (bse, .inl (G.2 0, 4, .inl u3.1)), (bro, .inl (G.2 1, 4, .inr (.inl u3.2.1))), (bop, .inl (G.2 0, 4, .inl u3.2.2.1)), (baw, .inl (G.2 0, 4, .inl u3.2.2.2))] H := hP
        have hD : va_D A [(bct, .inl (G.2 0, 4, .inl (upd (upd (upd ct (0 : Int32).toNatClampNeg 0) (1 : Int32).toNatClampNeg 0) (2 : Int32).toNatClampNeg 0))), (bcr, .inl (G.2 0, 4, .inl (upd (upd (upd cr (0 : Int32).toNatClampNeg 0) (1 : Int32).toNatClampNeg 0) (2 : Int32).toNatClampNeg 0))), (m0, .inr (8, [.int 0, .long mt, .int hd, .int mmd, .ref bkd, .ref btr, .ref bdl, .int typ, .int rd, .ref btp, .int giv, .ref bgv, .ref bse, .ref bro, .ref bop, .ref baw, .ref bsd, .ref bot, .ref bct, .ref bcr, .ref bud, .ref blo, .ref bwl, .int us, .ref bub, .ref bul, .ref bua])), (bse, .inl (G.2 0, 4, .inl u3.1)), (bro, .inl (G.2 1, 4, .inr (.inl u3.2.1))), (bop, .inl (G.2 0, 4, .inl u3.2.2.1)), (baw, .inl (G.2 0, 4, .inl u3.2.2.2))] := hD
        refine lv_iinc (v := 3) (lv' := [(2, .int 3), (1, .int (if (u2.2.2.1 (2 : Int32).toNatClampNeg) ≤ 0 then (if (u1.2.2.1 (1 : Int32).toNatClampNeg) ≤ 0 then (if (opv (0 : Int32).toNatClampNeg) ≤ 0 then 0 else 1) else ((if (opv (0 : Int32).toNatClampNeg) ≤ 0 then 0 else 1) + 1)) else ((if (u1.2.2.1 (1 : Int32).toNatClampNeg) ≤ 0 then (if (opv (0 : Int32).toNatClampNeg) ≤ 0 then 0 else 1) else ((if (opv (0 : Int32).toNatClampNeg) ≤ 0 then 0 else 1) + 1)) + 1))), (0, .ref m0)]) hx hb dX6_reset_51 hl (k := 1) rfl (by decide) (by decide) rfl (fun ls hl => ?_)
        refine lv_goto (tgt := 9) hx hb dX6_reset_54 (by decide) ?_
        refine lv_iload_n hx hb dX6_reset_9 rfl (lv_at hl 0 rfl) ?_
        refine lv_iconst (v := 4) hx hb dX6_reset_10 (by decide) ?_
        refine lv_icmp_ge (tgt := 57) hx hb dX6_reset_11 (by decide) (fun q => absurd q (by decide)) (fun _ => ?_)
        refine lv_aload_n hx hb dX6_reset_14 rfl (lv_at hl 2 rfl) ?_
        refine va_get (D := G.1) (ci := 8) (v := .ref bop) (C := RX6) (T := TX6) (N := 27) hx hb hts iX6 hown hK.1 hP 2 rfl rfl 14 (by decide) (hts (.fieldLink RX6 34 "RightsStepsModel" "open" "[I") (by decide +kernel)) (fun _ h9 => h9) rfl dX6_reset_15 ?_
        refine lv_iload_n hx hb dX6_reset_18 rfl (lv_at hl 0 rfl) ?_
        refine va_iald (f := u3.2.2.1) hx hb hK.1 hP 5 0 rfl rfl (vp_in_iff.mpr (by decide)) dX6_reset_19 ?_
        refine W.join (J := 30) (nL := 3) (lvm := [(2, .int 3), (1, .int (if (u2.2.2.1 (2 : Int32).toNatClampNeg) ≤ 0 then (if (u1.2.2.1 (1 : Int32).toNatClampNeg) ≤ 0 then (if (opv (0 : Int32).toNatClampNeg) ≤ 0 then 0 else 1) else ((if (opv (0 : Int32).toNatClampNeg) ≤ 0 then 0 else 1) + 1)) else ((if (u1.2.2.1 (1 : Int32).toNatClampNeg) ≤ 0 then (if (opv (0 : Int32).toNatClampNeg) ≤ 0 then 0 else 1) else ((if (opv (0 : Int32).toNatClampNeg) ≤ 0 then 0 else 1) + 1)) + 1))), (0, .ref m0)]) (st := .int (if (u3.2.2.1 (3 : Int32).toNatClampNeg) ≤ 0 then (if (u2.2.2.1 (2 : Int32).toNatClampNeg) ≤ 0 then (if (u1.2.2.1 (1 : Int32).toNatClampNeg) ≤ 0 then (if (opv (0 : Int32).toNatClampNeg) ≤ 0 then 0 else 1) else ((if (opv (0 : Int32).toNatClampNeg) ≤ 0 then 0 else 1) + 1)) else ((if (u1.2.2.1 (1 : Int32).toNatClampNeg) ≤ 0 then (if (opv (0 : Int32).toNatClampNeg) ≤ 0 then 0 else 1) else ((if (opv (0 : Int32).toNatClampNeg) ≤ 0 then 0 else 1) + 1)) + 1)) else ((if (u2.2.2.1 (2 : Int32).toNatClampNeg) ≤ 0 then (if (u1.2.2.1 (1 : Int32).toNatClampNeg) ≤ 0 then (if (opv (0 : Int32).toNatClampNeg) ≤ 0 then 0 else 1) else ((if (opv (0 : Int32).toNatClampNeg) ≤ 0 then 0 else 1) + 1)) else ((if (u1.2.2.1 (1 : Int32).toNatClampNeg) ≤ 0 then (if (opv (0 : Int32).toNatClampNeg) ≤ 0 then 0 else 1) else ((if (opv (0 : Int32).toNatClampNeg) ≤ 0 then 0 else 1) + 1)) + 1)) + 1)) :: []) (fun hJ => ?_) (fun ls hl => ?_)
        · refine lv_if_le (tgt := 29) hx hb dX6_reset_20 (by decide) (fun c_20_4 => ?_) (fun c_20_4 => ?_)
          · refine lv_iload_n hx hb dX6_reset_29 rfl (lv_at hl 1 rfl) ?_
            refine W.eq (g2 := F0 m 30 ls (.int (if (u3.2.2.1 (3 : Int32).toNatClampNeg) ≤ 0 then (if (u2.2.2.1 (2 : Int32).toNatClampNeg) ≤ 0 then (if (u1.2.2.1 (1 : Int32).toNatClampNeg) ≤ 0 then (if (opv (0 : Int32).toNatClampNeg) ≤ 0 then 0 else 1) else ((if (opv (0 : Int32).toNatClampNeg) ≤ 0 then 0 else 1) + 1)) else ((if (u1.2.2.1 (1 : Int32).toNatClampNeg) ≤ 0 then (if (opv (0 : Int32).toNatClampNeg) ≤ 0 then 0 else 1) else ((if (opv (0 : Int32).toNatClampNeg) ≤ 0 then 0 else 1) + 1)) + 1)) else ((if (u2.2.2.1 (2 : Int32).toNatClampNeg) ≤ 0 then (if (u1.2.2.1 (1 : Int32).toNatClampNeg) ≤ 0 then (if (opv (0 : Int32).toNatClampNeg) ≤ 0 then 0 else 1) else ((if (opv (0 : Int32).toNatClampNeg) ≤ 0 then 0 else 1) + 1)) else ((if (u1.2.2.1 (1 : Int32).toNatClampNeg) ≤ 0 then (if (opv (0 : Int32).toNatClampNeg) ≤ 0 then 0 else 1) else ((if (opv (0 : Int32).toNatClampNeg) ≤ 0 then 0 else 1) + 1)) + 1)) + 1)) :: [])) (by rw [if_pos c_20_4]) ?_
            exact hJ ls (lv_sub hl [0, 1, 2] rfl)
          · refine lv_iload_n hx hb dX6_reset_23 rfl (lv_at hl 1 rfl) ?_
            refine lv_iconst (v := 1) hx hb dX6_reset_24 (by decide) ?_
            refine lv_iadd hx hb dX6_reset_25 ?_
            refine lv_goto (tgt := 30) hx hb dX6_reset_26 (by decide) ?_
            refine W.eq (g2 := F0 m 30 ls (.int (if (u3.2.2.1 (3 : Int32).toNatClampNeg) ≤ 0 then (if (u2.2.2.1 (2 : Int32).toNatClampNeg) ≤ 0 then (if (u1.2.2.1 (1 : Int32).toNatClampNeg) ≤ 0 then (if (opv (0 : Int32).toNatClampNeg) ≤ 0 then 0 else 1) else ((if (opv (0 : Int32).toNatClampNeg) ≤ 0 then 0 else 1) + 1)) else ((if (u1.2.2.1 (1 : Int32).toNatClampNeg) ≤ 0 then (if (opv (0 : Int32).toNatClampNeg) ≤ 0 then 0 else 1) else ((if (opv (0 : Int32).toNatClampNeg) ≤ 0 then 0 else 1) + 1)) + 1)) else ((if (u2.2.2.1 (2 : Int32).toNatClampNeg) ≤ 0 then (if (u1.2.2.1 (1 : Int32).toNatClampNeg) ≤ 0 then (if (opv (0 : Int32).toNatClampNeg) ≤ 0 then 0 else 1) else ((if (opv (0 : Int32).toNatClampNeg) ≤ 0 then 0 else 1) + 1)) else ((if (u1.2.2.1 (1 : Int32).toNatClampNeg) ≤ 0 then (if (opv (0 : Int32).toNatClampNeg) ≤ 0 then 0 else 1) else ((if (opv (0 : Int32).toNatClampNeg) ≤ 0 then 0 else 1) + 1)) + 1)) + 1)) :: [])) (by rw [if_neg c_20_4]) ?_
            exact hJ ls (lv_sub hl [0, 1, 2] rfl)
        · refine lv_istore_n (lv' := [(1, .int (if (u3.2.2.1 (3 : Int32).toNatClampNeg) ≤ 0 then (if (u2.2.2.1 (2 : Int32).toNatClampNeg) ≤ 0 then (if (u1.2.2.1 (1 : Int32).toNatClampNeg) ≤ 0 then (if (opv (0 : Int32).toNatClampNeg) ≤ 0 then 0 else 1) else ((if (opv (0 : Int32).toNatClampNeg) ≤ 0 then 0 else 1) + 1)) else ((if (u1.2.2.1 (1 : Int32).toNatClampNeg) ≤ 0 then (if (opv (0 : Int32).toNatClampNeg) ≤ 0 then 0 else 1) else ((if (opv (0 : Int32).toNatClampNeg) ≤ 0 then 0 else 1) + 1)) + 1)) else ((if (u2.2.2.1 (2 : Int32).toNatClampNeg) ≤ 0 then (if (u1.2.2.1 (1 : Int32).toNatClampNeg) ≤ 0 then (if (opv (0 : Int32).toNatClampNeg) ≤ 0 then 0 else 1) else ((if (opv (0 : Int32).toNatClampNeg) ≤ 0 then 0 else 1) + 1)) else ((if (u1.2.2.1 (1 : Int32).toNatClampNeg) ≤ 0 then (if (opv (0 : Int32).toNatClampNeg) ≤ 0 then 0 else 1) else ((if (opv (0 : Int32).toNatClampNeg) ≤ 0 then 0 else 1) + 1)) + 1)) + 1))), (2, .int 3), (0, .ref m0)]) hx hb dX6_reset_30 rfl hl (by decide) rfl (fun ls hl => ?_)
          refine lv_aload_n hx hb dX6_reset_31 rfl (lv_at hl 2 rfl) ?_
          refine lv_iload_n hx hb dX6_reset_32 rfl (lv_at hl 1 rfl) ?_
          refine lv_iconst (v := 1) hx hb dX6_reset_33 (by decide) ?_
          have hPc := hP.sub (ws' := [(m0, .inr (8, [.int 0, .long mt, .int hd, .int mmd, .ref bkd, .ref btr, .ref bdl, .int typ, .int rd, .ref btp, .int giv, .ref bgv, .ref bse, .ref bro, .ref bop, .ref baw, .ref bsd, .ref bot, .ref bct, .ref bcr, .ref bud, .ref blo, .ref bwl, .int us, .ref bub, .ref bul, .ref bua])), (bse, .inl (G.2 0, 4, .inl u3.1)), (bro, .inl (G.2 1, 4, .inr (.inl u3.2.1))), (bop, .inl (G.2 0, 4, .inl u3.2.2.1)), (baw, .inl (G.2 0, 4, .inl u3.2.2.2))]) [2, 3, 4, 5, 6] rfl
          have hDc := hD.sub (ws' := [(m0, .inr (8, [.int 0, .long mt, .int hd, .int mmd, .ref bkd, .ref btr, .ref bdl, .int typ, .int rd, .ref btp, .int giv, .ref bgv, .ref bse, .ref bro, .ref bop, .ref baw, .ref bsd, .ref bot, .ref bct, .ref bcr, .ref bud, .ref blo, .ref bwl, .int us, .ref bub, .ref bul, .ref bua])), (bse, .inl (G.2 0, 4, .inl u3.1)), (bro, .inl (G.2 1, 4, .inr (.inl u3.2.1))), (bop, .inl (G.2 0, 4, .inl u3.2.2.1)), (baw, .inl (G.2 0, 4, .inl u3.2.2.2))]) [2, 3, 4, 5, 6] (by decide) rfl
          refine cl_v (wr := [(bct, .inl (G.2 0, 4, .inl (upd (upd (upd ct (0 : Int32).toNatClampNeg 0) (1 : Int32).toNatClampNeg 0) (2 : Int32).toNatClampNeg 0))), (bcr, .inl (G.2 0, 4, .inl (upd (upd (upd cr (0 : Int32).toNatClampNeg 0) (1 : Int32).toNatClampNeg 0) (2 : Int32).toNatClampNeg 0)))]) (va_runV (As := [.int 3, .int 1]) (rest := []) ⟨hx, hb, hml, hown, hts⟩ (c_X6_begin l G m0 bse bro bop baw bkd btr bdl btp bgv bsd bot bct bcr bud blo bwl bub bul bua _ 0 mt hd mmd typ rd giv us u3.1 u3.2.1 u3.2.2.1 u3.2.2.2 3 1 (vp_in_iff.mpr (by decide))) (cwV 2 hts gX6_reset_X6_begin rfl rfl rfl (by decide +kernel) ⟨Nat.le_of_ble_eq_true rfl, Nat.le_of_ble_eq_true rfl⟩) (pR_V hK hPc hDc (q0 := 0) rfl rfl) rfl rfl hl.1 rfl (lv_room (Nat.le_of_ble_eq_true rfl)) dX6_reset_34 ⟨Nat.le_of_ble_eq_true rfl, Nat.le_of_ble_eq_true rfl⟩) hP hD hS hA [2, 3, 4, 5, 6] [0, 1] rfl rfl (by decide) (by decide) (fun u4 ez4 H locs hP hD hS => ?_)
          have hP : va_P G.1 vwCl [(bct, .inl (G.2 0, 4, .inl (upd (upd (upd ct (0 : Int32).toNatClampNeg 0) (1 : Int32).toNatClampNeg 0) (2 : Int32).toNatClampNeg 0))), (bcr, .inl (G.2 0, 4, .inl (upd (upd (upd cr (0 : Int32).toNatClampNeg 0) (1 : Int32).toNatClampNeg 0) (2 : Int32).toNatClampNeg 0))), (m0, .inr (8, [.int 0, .long mt, .int hd, .int mmd, .ref bkd, .ref btr, .ref bdl, .int typ, .int rd, .ref btp, .int giv, .ref bgv, .ref bse, .ref bro, .ref bop, .ref baw, .ref bsd, .ref bot, .ref bct, .ref bcr, .ref bud, .ref blo, .ref bwl, .int us, .ref bub, .ref bul, .ref bua])), (bse, .inl (G.2 0, 4, .inl u4.1)), (bro, .inl (G.2 1, 4, .inr (.inl u4.2.1))), (bop, .inl (G.2 0, 4, .inl u4.2.2.1)), (baw, .inl (G.2 0, 4, .inl u4.2.2.2))] H := hP
          have hD : va_D A [(bct, .inl (G.2 0, 4, .inl (upd (upd (upd ct (0 : Int32).toNatClampNeg 0) (1 : Int32).toNatClampNeg 0) (2 : Int32).toNatClampNeg 0))), (bcr, .inl (G.2 0, 4, .inl (upd (upd (upd cr (0 : Int32).toNatClampNeg 0) (1 : Int32).toNatClampNeg 0) (2 : Int32).toNatClampNeg 0))), (m0, .inr (8, [.int 0, .long mt, .int hd, .int mmd, .ref bkd, .ref btr, .ref bdl, .int typ, .int rd, .ref btp, .int giv, .ref bgv, .ref bse, .ref bro, .ref bop, .ref baw, .ref bsd, .ref bot, .ref bct, .ref bcr, .ref bud, .ref blo, .ref bwl, .int us, .ref bub, .ref bul, .ref bua])), (bse, .inl (G.2 0, 4, .inl u4.1)), (bro, .inl (G.2 1, 4, .inr (.inl u4.2.1))), (bop, .inl (G.2 0, 4, .inl u4.2.2.1)), (baw, .inl (G.2 0, 4, .inl u4.2.2.2))] := hD
          have hF := lz_e hF ez4
          refine lv_aload_n hx hb dX6_reset_37 rfl (lv_at hl 2 rfl) ?_
          refine va_get (D := G.1) (ci := 8) (v := .ref bct) (C := RX6) (T := TX6) (N := 27) hx hb hts iX6 hown hK.1 hP 2 rfl rfl 18 (by decide) (hts (.fieldLink RX6 46 "RightsStepsModel" "octets" "[I") (by decide +kernel)) (fun _ h9 => h9) rfl dX6_reset_38 ?_
          refine lv_iload_n hx hb dX6_reset_41 rfl (lv_at hl 1 rfl) ?_
          refine lv_iconst (v := 0) hx hb dX6_reset_42 (by decide) ?_
          refine va_iast (f := (upd (upd (upd ct (0 : Int32).toNatClampNeg 0) (1 : Int32).toNatClampNeg 0) (2 : Int32).toNatClampNeg 0)) hx hb hK.1 hP hD hS 0 0 rfl rfl (vp_in_iff.mpr (by decide)) dX6_reset_43 (fun H locs hP hD hS => ?_)
          have hP : va_P G.1 vwCl [(bct, .inl (G.2 0, 4, .inl (upd (upd (upd (upd ct (0 : Int32).toNatClampNeg 0) (1 : Int32).toNatClampNeg 0) (2 : Int32).toNatClampNeg 0) (3 : Int32).toNatClampNeg 0))), (bcr, .inl (G.2 0, 4, .inl (upd (upd (upd cr (0 : Int32).toNatClampNeg 0) (1 : Int32).toNatClampNeg 0) (2 : Int32).toNatClampNeg 0))), (m0, .inr (8, [.int 0, .long mt, .int hd, .int mmd, .ref bkd, .ref btr, .ref bdl, .int typ, .int rd, .ref btp, .int giv, .ref bgv, .ref bse, .ref bro, .ref bop, .ref baw, .ref bsd, .ref bot, .ref bct, .ref bcr, .ref bud, .ref blo, .ref bwl, .int us, .ref bub, .ref bul, .ref bua])), (bse, .inl (G.2 0, 4, .inl u4.1)), (bro, .inl (G.2 1, 4, .inr (.inl u4.2.1))), (bop, .inl (G.2 0, 4, .inl u4.2.2.1)), (baw, .inl (G.2 0, 4, .inl u4.2.2.2))] H := hP
          have hD : va_D A [(bct, .inl (G.2 0, 4, .inl (upd (upd (upd (upd ct (0 : Int32).toNatClampNeg 0) (1 : Int32).toNatClampNeg 0) (2 : Int32).toNatClampNeg 0) (3 : Int32).toNatClampNeg 0))), (bcr, .inl (G.2 0, 4, .inl (upd (upd (upd cr (0 : Int32).toNatClampNeg 0) (1 : Int32).toNatClampNeg 0) (2 : Int32).toNatClampNeg 0))), (m0, .inr (8, [.int 0, .long mt, .int hd, .int mmd, .ref bkd, .ref btr, .ref bdl, .int typ, .int rd, .ref btp, .int giv, .ref bgv, .ref bse, .ref bro, .ref bop, .ref baw, .ref bsd, .ref bot, .ref bct, .ref bcr, .ref bud, .ref blo, .ref bwl, .int us, .ref bub, .ref bul, .ref bua])), (bse, .inl (G.2 0, 4, .inl u4.1)), (bro, .inl (G.2 1, 4, .inr (.inl u4.2.1))), (bop, .inl (G.2 0, 4, .inl u4.2.2.1)), (baw, .inl (G.2 0, 4, .inl u4.2.2.2))] := hD
          refine lv_aload_n hx hb dX6_reset_44 rfl (lv_at hl 2 rfl) ?_
          refine va_get (D := G.1) (ci := 8) (v := .ref bcr) (C := RX6) (T := TX6) (N := 27) hx hb hts iX6 hown hK.1 hP 2 rfl rfl 19 (by decide) (hts (.fieldLink RX6 49 "RightsStepsModel" "octetRow" "[I") (by decide +kernel)) (fun _ h9 => h9) rfl dX6_reset_45 ?_
          refine lv_iload_n hx hb dX6_reset_48 rfl (lv_at hl 1 rfl) ?_
          refine lv_iconst (v := 0) hx hb dX6_reset_49 (by decide) ?_
          refine va_iast (f := (upd (upd (upd cr (0 : Int32).toNatClampNeg 0) (1 : Int32).toNatClampNeg 0) (2 : Int32).toNatClampNeg 0)) hx hb hK.1 hP hD hS 1 0 rfl rfl (vp_in_iff.mpr (by decide)) dX6_reset_50 (fun H locs hP hD hS => ?_)
          have hP : va_P G.1 vwCl [(bct, .inl (G.2 0, 4, .inl (upd (upd (upd (upd ct (0 : Int32).toNatClampNeg 0) (1 : Int32).toNatClampNeg 0) (2 : Int32).toNatClampNeg 0) (3 : Int32).toNatClampNeg 0))), (bcr, .inl (G.2 0, 4, .inl (upd (upd (upd (upd cr (0 : Int32).toNatClampNeg 0) (1 : Int32).toNatClampNeg 0) (2 : Int32).toNatClampNeg 0) (3 : Int32).toNatClampNeg 0))), (m0, .inr (8, [.int 0, .long mt, .int hd, .int mmd, .ref bkd, .ref btr, .ref bdl, .int typ, .int rd, .ref btp, .int giv, .ref bgv, .ref bse, .ref bro, .ref bop, .ref baw, .ref bsd, .ref bot, .ref bct, .ref bcr, .ref bud, .ref blo, .ref bwl, .int us, .ref bub, .ref bul, .ref bua])), (bse, .inl (G.2 0, 4, .inl u4.1)), (bro, .inl (G.2 1, 4, .inr (.inl u4.2.1))), (bop, .inl (G.2 0, 4, .inl u4.2.2.1)), (baw, .inl (G.2 0, 4, .inl u4.2.2.2))] H := hP
          have hD : va_D A [(bct, .inl (G.2 0, 4, .inl (upd (upd (upd (upd ct (0 : Int32).toNatClampNeg 0) (1 : Int32).toNatClampNeg 0) (2 : Int32).toNatClampNeg 0) (3 : Int32).toNatClampNeg 0))), (bcr, .inl (G.2 0, 4, .inl (upd (upd (upd (upd cr (0 : Int32).toNatClampNeg 0) (1 : Int32).toNatClampNeg 0) (2 : Int32).toNatClampNeg 0) (3 : Int32).toNatClampNeg 0))), (m0, .inr (8, [.int 0, .long mt, .int hd, .int mmd, .ref bkd, .ref btr, .ref bdl, .int typ, .int rd, .ref btp, .int giv, .ref bgv, .ref bse, .ref bro, .ref bop, .ref baw, .ref bsd, .ref bot, .ref bct, .ref bcr, .ref bud, .ref blo, .ref bwl, .int us, .ref bub, .ref bul, .ref bua])), (bse, .inl (G.2 0, 4, .inl u4.1)), (bro, .inl (G.2 1, 4, .inr (.inl u4.2.1))), (bop, .inl (G.2 0, 4, .inl u4.2.2.1)), (baw, .inl (G.2 0, 4, .inl u4.2.2.2))] := hD
          refine lv_iinc (v := 4) (lv' := [(2, .int 4), (1, .int (if (u3.2.2.1 (3 : Int32).toNatClampNeg) ≤ 0 then (if (u2.2.2.1 (2 : Int32).toNatClampNeg) ≤ 0 then (if (u1.2.2.1 (1 : Int32).toNatClampNeg) ≤ 0 then (if (opv (0 : Int32).toNatClampNeg) ≤ 0 then 0 else 1) else ((if (opv (0 : Int32).toNatClampNeg) ≤ 0 then 0 else 1) + 1)) else ((if (u1.2.2.1 (1 : Int32).toNatClampNeg) ≤ 0 then (if (opv (0 : Int32).toNatClampNeg) ≤ 0 then 0 else 1) else ((if (opv (0 : Int32).toNatClampNeg) ≤ 0 then 0 else 1) + 1)) + 1)) else ((if (u2.2.2.1 (2 : Int32).toNatClampNeg) ≤ 0 then (if (u1.2.2.1 (1 : Int32).toNatClampNeg) ≤ 0 then (if (opv (0 : Int32).toNatClampNeg) ≤ 0 then 0 else 1) else ((if (opv (0 : Int32).toNatClampNeg) ≤ 0 then 0 else 1) + 1)) else ((if (u1.2.2.1 (1 : Int32).toNatClampNeg) ≤ 0 then (if (opv (0 : Int32).toNatClampNeg) ≤ 0 then 0 else 1) else ((if (opv (0 : Int32).toNatClampNeg) ≤ 0 then 0 else 1) + 1)) + 1)) + 1))), (0, .ref m0)]) hx hb dX6_reset_51 hl (k := 1) rfl (by decide) (by decide) rfl (fun ls hl => ?_)
          refine lv_goto (tgt := 9) hx hb dX6_reset_54 (by decide) ?_
          refine lv_iload_n hx hb dX6_reset_9 rfl (lv_at hl 0 rfl) ?_
          refine lv_iconst (v := 4) hx hb dX6_reset_10 (by decide) ?_
          refine lv_icmp_ge (tgt := 57) hx hb dX6_reset_11 (by decide) (fun _ => ?_) (fun q => absurd (by decide) q)
          refine lv_aload_n hx hb dX6_reset_57 rfl (lv_at hl 2 rfl) ?_
          refine lv_iconst (v := 0) hx hb dX6_reset_58 (by decide) ?_
          refine va_put (D := G.1) (ci := 8) (v := .int 0) (ty := .int) (C := RX6) (T := TX6) (N := 27) hx hb hts iX6 tyX6 tyX6_ok nmX6 hown hK.1 hP hD hS 2 rfl rfl 10 (by decide) (hts (.fieldLink RX6 90 "RightsStepsModel" "givens" "I") (by decide +kernel)) (fun _ h9 => h9) rfl (by decide +kernel) rfl rfl (Nat.le_of_ble_eq_true rfl) dX6_reset_59 (fun H locs hP hD hS => ?_)
          have hP : va_P G.1 vwCl [(bct, .inl (G.2 0, 4, .inl (upd (upd (upd (upd ct (0 : Int32).toNatClampNeg 0) (1 : Int32).toNatClampNeg 0) (2 : Int32).toNatClampNeg 0) (3 : Int32).toNatClampNeg 0))), (bcr, .inl (G.2 0, 4, .inl (upd (upd (upd (upd cr (0 : Int32).toNatClampNeg 0) (1 : Int32).toNatClampNeg 0) (2 : Int32).toNatClampNeg 0) (3 : Int32).toNatClampNeg 0))), (m0, .inr (8, [.int 0, .long mt, .int hd, .int mmd, .ref bkd, .ref btr, .ref bdl, .int typ, .int rd, .ref btp, .int 0, .ref bgv, .ref bse, .ref bro, .ref bop, .ref baw, .ref bsd, .ref bot, .ref bct, .ref bcr, .ref bud, .ref blo, .ref bwl, .int us, .ref bub, .ref bul, .ref bua])), (bse, .inl (G.2 0, 4, .inl u4.1)), (bro, .inl (G.2 1, 4, .inr (.inl u4.2.1))), (bop, .inl (G.2 0, 4, .inl u4.2.2.1)), (baw, .inl (G.2 0, 4, .inl u4.2.2.2))] H := hP
          have hD : va_D A [(bct, .inl (G.2 0, 4, .inl (upd (upd (upd (upd ct (0 : Int32).toNatClampNeg 0) (1 : Int32).toNatClampNeg 0) (2 : Int32).toNatClampNeg 0) (3 : Int32).toNatClampNeg 0))), (bcr, .inl (G.2 0, 4, .inl (upd (upd (upd (upd cr (0 : Int32).toNatClampNeg 0) (1 : Int32).toNatClampNeg 0) (2 : Int32).toNatClampNeg 0) (3 : Int32).toNatClampNeg 0))), (m0, .inr (8, [.int 0, .long mt, .int hd, .int mmd, .ref bkd, .ref btr, .ref bdl, .int typ, .int rd, .ref btp, .int 0, .ref bgv, .ref bse, .ref bro, .ref bop, .ref baw, .ref bsd, .ref bot, .ref bct, .ref bcr, .ref bud, .ref blo, .ref bwl, .int us, .ref bub, .ref bul, .ref bua])), (bse, .inl (G.2 0, 4, .inl u4.1)), (bro, .inl (G.2 1, 4, .inr (.inl u4.2.1))), (bop, .inl (G.2 0, 4, .inl u4.2.2.1)), (baw, .inl (G.2 0, 4, .inl u4.2.2.2))] := hD
          refine lv_iload_n hx hb dX6_reset_62 rfl (lv_at hl 1 rfl) ?_
          exact W.iret (v := (if (u3.2.2.1 (3 : Int32).toNatClampNeg) ≤ 0 then (if (u2.2.2.1 (2 : Int32).toNatClampNeg) ≤ 0 then (if (u1.2.2.1 (1 : Int32).toNatClampNeg) ≤ 0 then (if (opv (0 : Int32).toNatClampNeg) ≤ 0 then 0 else 1) else ((if (opv (0 : Int32).toNatClampNeg) ≤ 0 then 0 else 1) + 1)) else ((if (u1.2.2.1 (1 : Int32).toNatClampNeg) ≤ 0 then (if (opv (0 : Int32).toNatClampNeg) ≤ 0 then 0 else 1) else ((if (opv (0 : Int32).toNatClampNeg) ≤ 0 then 0 else 1) + 1)) + 1)) else ((if (u2.2.2.1 (2 : Int32).toNatClampNeg) ≤ 0 then (if (u1.2.2.1 (1 : Int32).toNatClampNeg) ≤ 0 then (if (opv (0 : Int32).toNatClampNeg) ≤ 0 then 0 else 1) else ((if (opv (0 : Int32).toNatClampNeg) ≤ 0 then 0 else 1) + 1)) else ((if (u1.2.2.1 (1 : Int32).toNatClampNeg) ≤ 0 then (if (opv (0 : Int32).toNatClampNeg) ≤ 0 then 0 else 1) else ((if (opv (0 : Int32).toNatClampNeg) ≤ 0 then 0 else 1) + 1)) + 1)) + 1))) hx hb hr (fun t ht hW => ⟨⟨(if (u3.2.2.1 (3 : Int32).toNatClampNeg) ≤ 0 then (if (u2.2.2.1 (2 : Int32).toNatClampNeg) ≤ 0 then (if (u1.2.2.1 (1 : Int32).toNatClampNeg) ≤ 0 then (if (opv (0 : Int32).toNatClampNeg) ≤ 0 then 0 else 1) else ((if (opv (0 : Int32).toNatClampNeg) ≤ 0 then 0 else 1) + 1)) else ((if (u1.2.2.1 (1 : Int32).toNatClampNeg) ≤ 0 then (if (opv (0 : Int32).toNatClampNeg) ≤ 0 then 0 else 1) else ((if (opv (0 : Int32).toNatClampNeg) ≤ 0 then 0 else 1) + 1)) + 1)) else ((if (u2.2.2.1 (2 : Int32).toNatClampNeg) ≤ 0 then (if (u1.2.2.1 (1 : Int32).toNatClampNeg) ≤ 0 then (if (opv (0 : Int32).toNatClampNeg) ≤ 0 then 0 else 1) else ((if (opv (0 : Int32).toNatClampNeg) ≤ 0 then 0 else 1) + 1)) else ((if (u1.2.2.1 (1 : Int32).toNatClampNeg) ≤ 0 then (if (opv (0 : Int32).toNatClampNeg) ≤ 0 then 0 else 1) else ((if (opv (0 : Int32).toNatClampNeg) ≤ 0 then 0 else 1) + 1)) + 1)) + 1)), (0, 0, u4.1, u4.2.1, u4.2.2.1, u4.2.2.2, (upd (upd (upd (upd ct (0 : Int32).toNatClampNeg 0) (1 : Int32).toNatClampNeg 0) (2 : Int32).toNatClampNeg 0) (3 : Int32).toNatClampNeg 0), (upd (upd (upd (upd cr (0 : Int32).toNatClampNeg 0) (1 : Int32).toNatClampNeg 0) (2 : Int32).toNatClampNeg 0) (3 : Int32).toNatClampNeg 0)), rfl, hF.symm, by rw [ht]; exact hP.sub [2, 3, 4, 5, 6, 0, 1] rfl, hD.sub [2, 3, 4, 5, 6, 0, 1] (by decide) rfl⟩, hS.F ht⟩) hS.2.2 dX6_reset_63

def F_X6_role (cod : Int32) (mt : Int64) (hd : Int32) (mmd : Int32) (typ : Int32) (rd : Int32) (giv : Int32) (us : Int32) (ro : Nat → Int64) (p1 : Int32) (p2 : Int32) (p3 : Int64) : Int32 × Int32 × (Nat → Int64) :=
  (if p1 < 1 then ((-1), (0, ro)) else (if p1 ≤ 8 then (if p2 = 0 then (0, (0, ro)) else (if 0 < (lg_cmp p3 mt) then (1, (0, (vp_updL ro (hd : Int32).toNatClampNeg p3))) else (0, (0, ro)))) else ((-1), (0, ro))))
set_option maxHeartbeats 4000000 in
set_option maxRecDepth 100000 in
theorem c_X6_role (l : Launch) (G : gG) (m0 bro bkd btr bdl btp bgv bse bop baw bsd bot bct bcr bud blo bwl bub bul bua : Nat) (sz : Nat) (cod : Int32) (mt : Int64) (hd : Int32) (mmd : Int32) (typ : Int32) (rd : Int32) (giv : Int32) (us : Int32) (ro : Nat → Int64) (p1 : Int32) (p2 : Int32) (p3 : Int64) (hh : vp_in hd 4) : Met l yX6_role wsX6_role ({ frames := 0, cells := 0, slots := 0, locals := 0 }) (va_Pc [.ref m0, .int p1, .int p2, .long p3] (pR G [(m0, .inr (8, [.int cod, .long mt, .int hd, .int mmd, .ref bkd, .ref btr, .ref bdl, .int typ, .int rd, .ref btp, .int giv, .ref bgv, .ref bse, .ref bro, .ref bop, .ref baw, .ref bsd, .ref bot, .ref bct, .ref bcr, .ref bud, .ref blo, .ref bwl, .int us, .ref bub, .ref bul, .ref bua])), (bro, .inl (G.2 1, 4, .inr (.inl ro)))] sz)) (va_Qi (fun (r : Int32) (u : Int32 × (Nat → Int64)) => (r, u) = F_X6_role cod mt hd mmd typ rd giv us ro p1 p2 p3) (fun u t => pO G [(m0, .inr (8, [.int u.1, .long mt, .int hd, .int mmd, .ref bkd, .ref btr, .ref bdl, .int typ, .int rd, .ref btp, .int giv, .ref bgv, .ref bse, .ref bro, .ref bop, .ref baw, .ref bsd, .ref bot, .ref bct, .ref bcr, .ref bud, .ref blo, .ref bwl, .int us, .ref bub, .ref bul, .ref bua])), (bro, .inl (G.2 1, 4, .inr (.inl u.2)))] (va_A [(m0, .inr (8, [.int cod, .long mt, .int hd, .int mmd, .ref bkd, .ref btr, .ref bdl, .int typ, .int rd, .ref btp, .int giv, .ref bgv, .ref bse, .ref bro, .ref bop, .ref baw, .ref bsd, .ref bot, .ref bct, .ref bcr, .ref bud, .ref blo, .ref bwl, .int us, .ref bub, .ref bul, .ref bua])), (bro, .inl (G.2 1, 4, .inr (.inl ro)))] sz) t) (va_A [(m0, .inr (8, [.int cod, .long mt, .int hd, .int mmd, .ref bkd, .ref btr, .ref bdl, .int typ, .int rd, .ref btp, .int giv, .ref bgv, .ref bse, .ref bro, .ref bop, .ref baw, .ref bsd, .ref bot, .ref bct, .ref bcr, .ref bud, .ref blo, .ref bwl, .int us, .ref bub, .ref bul, .ref bua])), (bro, .inl (G.2 1, 4, .inr (.inl ro)))] sz)) 0 0 (va_A [(m0, .inr (8, [.int cod, .long mt, .int hd, .int mmd, .ref bkd, .ref btr, .ref bdl, .int typ, .int rd, .ref btp, .int giv, .ref bgv, .ref bse, .ref bro, .ref bop, .ref baw, .ref bsd, .ref bot, .ref bct, .ref bcr, .ref bud, .ref blo, .ref bwl, .int us, .ref bub, .ref bul, .ref bua])), (bro, .inl (G.2 1, 4, .inr (.inl ro)))] sz) := by
  refine Met.ofW (cc := cX6_role) (maxL := 5) (ret := (some .int)) (by decide) rfl ?_
  intro p e s m args below meth c s₁ B hml hv
  obtain ⟨rfl, hsz, hP, hK, hD0⟩ := hv
  have hx := B.exec
  have hb := B.bytes
  have hr := B.returns
  have hts := atoms_spec (ws := wsX6_role) B.pre
  have hown : s.vm.findClass RX6 = some m.cls := findClass_of_methodNamed B.named
  have hlocks := B.notSynchronized
  subst hsz
  have iX6 : ∀ w ∈ wsX60, w ∈ wsX6_role := by decide +kernel
  have hD := hD0.self (sz := s.heap.size)
  generalize hAe : va_A [(m0, .inr (8, [.int cod, .long mt, .int hd, .int mmd, .ref bkd, .ref btr, .ref bdl, .int typ, .int rd, .ref btp, .int giv, .ref bgv, .ref bse, .ref bro, .ref bop, .ref baw, .ref bsd, .ref bot, .ref bct, .ref bcr, .ref bud, .ref blo, .ref bwl, .int us, .ref bub, .ref bul, .ref bua])), (bro, .inl (G.2 1, 4, .inr (.inl ro)))] s.heap.size = A at hD ⊢
  have hA : ∀ q : Nat, s.heap.size ≤ q → A q := fun q h => by rw [← hAe]; exact Or.inr h
  have hS : va_S A s.heap s.heap [] := va_S.rf
  have hP : va_P G.1 vwCl [(m0, .inr (8, [.int cod, .long mt, .int hd, .int mmd, .ref bkd, .ref btr, .ref bdl, .int typ, .int rd, .ref btp, .int giv, .ref bgv, .ref bse, .ref bro, .ref bop, .ref baw, .ref bsd, .ref bot, .ref bct, .ref bcr, .ref bud, .ref blo, .ref bwl, .int us, .ref bub, .ref bul, .ref bua])), (bro, .inl (G.2 1, 4, .inr (.inl ro)))] s.heap := hP
  have hl := lv_entry ([.ref m0, .int p1, .int p2, .long p3]) (n := 5) (Nat.le_of_ble_eq_true rfl)
  rw [lg_entry_eq]
  generalize (lg_sl ([.ref m0, .int p1, .int p2, .long p3]) ++ List.replicate (5 - (lg_sl ([.ref m0, .int p1, .int p2, .long p3])).length) Slot.unset).toArray = ls at hl ⊢
  have hl : lv_has ls 5 [(0, .ref m0), (1, .int p1), (2, .int p2), (3, .long p3)] := hl
  have hF : F_X6_role cod mt hd mmd typ rd giv us ro p1 p2 p3 = F_X6_role cod mt hd mmd typ rd giv us ro p1 p2 p3 := rfl
  refine lv_aload_n hx hb dX6_role_0 rfl (lv_at hl 0 rfl) ?_
  refine lv_iconst (v := 0) hx hb dX6_role_1 (by decide) ?_
  refine va_put (D := G.1) (ci := 8) (v := .int 0) (ty := .int) (C := RX6) (T := TX6) (N := 27) hx hb hts iX6 tyX6 tyX6_ok nmX6 hown hK.1 hP hD hS 0 rfl rfl 0 (by decide) (hts (.fieldLink RX6 71 "RightsStepsModel" "code" "I") (by decide +kernel)) (fun _ h9 => h9) rfl (by decide +kernel) rfl rfl (Nat.le_of_ble_eq_true rfl) dX6_role_2 (fun H locs hP hD hS => ?_)
  have hP : va_P G.1 vwCl [(m0, .inr (8, [.int 0, .long mt, .int hd, .int mmd, .ref bkd, .ref btr, .ref bdl, .int typ, .int rd, .ref btp, .int giv, .ref bgv, .ref bse, .ref bro, .ref bop, .ref baw, .ref bsd, .ref bot, .ref bct, .ref bcr, .ref bud, .ref blo, .ref bwl, .int us, .ref bub, .ref bul, .ref bua])), (bro, .inl (G.2 1, 4, .inr (.inl ro)))] H := hP
  have hD : va_D A [(m0, .inr (8, [.int 0, .long mt, .int hd, .int mmd, .ref bkd, .ref btr, .ref bdl, .int typ, .int rd, .ref btp, .int giv, .ref bgv, .ref bse, .ref bro, .ref bop, .ref baw, .ref bsd, .ref bot, .ref bct, .ref bcr, .ref bud, .ref blo, .ref bwl, .int us, .ref bub, .ref bul, .ref bua])), (bro, .inl (G.2 1, 4, .inr (.inl ro)))] := hD
  refine lv_iload_n hx hb dX6_role_5 rfl (lv_at hl 1 rfl) ?_
  refine lv_iconst (v := 1) hx hb dX6_role_6 (by decide) ?_
  refine lv_icmp_lt (tgt := 16) hx hb dX6_role_7 (by decide) (fun c_7 => ?_) (fun c_7 => ?_)
  · have hF := if_t hF c_7
    refine lv_iconst (v := (-1)) hx hb dX6_role_16 (by decide) ?_
    exact W.iret (v := (-1)) hx hb hr (fun t ht hW => ⟨⟨(-1), (0, ro), rfl, hF.symm, by rw [ht]; exact hP.sub [0, 1] rfl, hD.sub [0, 1] (by decide) rfl⟩, hS.F ht⟩) hS.2.2 dX6_role_17
  · have hF := if_f hF c_7
    refine lv_iload_n hx hb dX6_role_10 rfl (lv_at hl 1 rfl) ?_
    refine lv_bipush (v := 8) hx hb dX6_role_11 (by decide) ?_
    refine lv_icmp_le (tgt := 18) hx hb dX6_role_13 (by decide) (fun c_13 => ?_) (fun c_13 => ?_)
    · have hF := if_t hF c_13
      refine lv_iload_n hx hb dX6_role_18 rfl (lv_at hl 2 rfl) ?_
      refine lv_if_eq (tgt := 31) hx hb dX6_role_19 (by decide) (fun c_19 => ?_) (fun c_19 => ?_)
      · have hF := if_t hF c_19
        refine lv_iconst (v := 0) hx hb dX6_role_31 (by decide) ?_
        exact W.iret (v := 0) hx hb hr (fun t ht hW => ⟨⟨0, (0, ro), rfl, hF.symm, by rw [ht]; exact hP.sub [0, 1] rfl, hD.sub [0, 1] (by decide) rfl⟩, hS.F ht⟩) hS.2.2 dX6_role_32
      · have hF := if_f hF c_19
        refine lv_lload_n hx hb dX6_role_22 rfl (lv_at hl 3 rfl) ?_
        refine lv_aload_n hx hb dX6_role_23 rfl (lv_at hl 0 rfl) ?_
        refine va_get (D := G.1) (ci := 8) (v := .long mt) (C := RX6) (T := TX6) (N := 27) hx hb hts iX6 hown hK.1 hP 0 rfl rfl 1 (by decide) (hts (.fieldLink RX6 99 "RightsStepsModel" "time" "J") (by decide +kernel)) (fun _ h9 => h9) rfl dX6_role_24 ?_
        refine W.lcmp hx hb dX6_role_27 ?_
        refine lv_if_gt (tgt := 33) hx hb dX6_role_28 (by decide) (fun c_28 => ?_) (fun c_28 => ?_)
        · have hF := if_t hF c_28
          refine lv_aload_n hx hb dX6_role_33 rfl (lv_at hl 0 rfl) ?_
          refine va_get (D := G.1) (ci := 8) (v := .ref bro) (C := RX6) (T := TX6) (N := 27) hx hb hts iX6 hown hK.1 hP 0 rfl rfl 13 (by decide) (hts (.fieldLink RX6 31 "RightsStepsModel" "roleUntil" "[J") (by decide +kernel)) (fun _ h9 => h9) rfl dX6_role_34 ?_
          refine lv_aload_n hx hb dX6_role_37 rfl (lv_at hl 0 rfl) ?_
          refine va_get (D := G.1) (ci := 8) (v := .int hd) (C := RX6) (T := TX6) (N := 27) hx hb hts iX6 hown hK.1 hP 0 rfl rfl 2 (by decide) (hts (.fieldLink RX6 96 "RightsStepsModel" "hand" "I") (by decide +kernel)) (fun _ h9 => h9) rfl dX6_role_38 ?_
          refine lv_lload_n hx hb dX6_role_41 rfl (lv_at hl 3 rfl) ?_
          refine va_last (f := ro) hx hb hK.1 hP hD hS 1 1 rfl rfl hh dX6_role_42 (fun H locs hP hD hS => ?_)
          have hP : va_P G.1 vwCl [(m0, .inr (8, [.int 0, .long mt, .int hd, .int mmd, .ref bkd, .ref btr, .ref bdl, .int typ, .int rd, .ref btp, .int giv, .ref bgv, .ref bse, .ref bro, .ref bop, .ref baw, .ref bsd, .ref bot, .ref bct, .ref bcr, .ref bud, .ref blo, .ref bwl, .int us, .ref bub, .ref bul, .ref bua])), (bro, .inl (G.2 1, 4, .inr (.inl (vp_updL ro (hd : Int32).toNatClampNeg p3))))] H := hP
          have hD : va_D A [(m0, .inr (8, [.int 0, .long mt, .int hd, .int mmd, .ref bkd, .ref btr, .ref bdl, .int typ, .int rd, .ref btp, .int giv, .ref bgv, .ref bse, .ref bro, .ref bop, .ref baw, .ref bsd, .ref bot, .ref bct, .ref bcr, .ref bud, .ref blo, .ref bwl, .int us, .ref bub, .ref bul, .ref bua])), (bro, .inl (G.2 1, 4, .inr (.inl (vp_updL ro (hd : Int32).toNatClampNeg p3))))] := hD
          refine lv_iconst (v := 1) hx hb dX6_role_43 (by decide) ?_
          exact W.iret (v := 1) hx hb hr (fun t ht hW => ⟨⟨1, (0, (vp_updL ro (hd : Int32).toNatClampNeg p3)), rfl, hF.symm, by rw [ht]; exact hP.sub [0, 1] rfl, hD.sub [0, 1] (by decide) rfl⟩, hS.F ht⟩) hS.2.2 dX6_role_44
        · have hF := if_f hF c_28
          refine lv_iconst (v := 0) hx hb dX6_role_31 (by decide) ?_
          exact W.iret (v := 0) hx hb hr (fun t ht hW => ⟨⟨0, (0, ro), rfl, hF.symm, by rw [ht]; exact hP.sub [0, 1] rfl, hD.sub [0, 1] (by decide) rfl⟩, hS.F ht⟩) hS.2.2 dX6_role_32
    · have hF := if_f hF c_13
      refine lv_iconst (v := (-1)) hx hb dX6_role_16 (by decide) ?_
      exact W.iret (v := (-1)) hx hb hr (fun t ht hW => ⟨⟨(-1), (0, ro), rfl, hF.symm, by rw [ht]; exact hP.sub [0, 1] rfl, hD.sub [0, 1] (by decide) rfl⟩, hS.F ht⟩) hS.2.2 dX6_role_17

def F_X6_left (cod : Int32) (mt : Int64) (hd : Int32) (mmd : Int32) (typ : Int32) (rd : Int32) (giv : Int32) (us : Int32) (mtr : Nat → Int32) (lo : Nat → Int64) (wl : Nat → Int32) (p1 : Int32) (p2 : Int64) : Int32 × Int32 :=
  (if (F_X6_isMade 0 mt hd mmd typ rd giv us mtr p1) = 0 then ((-1), 0) else (if (wl (((21 * hd) + p1) : Int32).toNatClampNeg) = 0 then (0, 0) else (if (lg_cmp p2 (lo (((21 * hd) + p1) : Int32).toNatClampNeg)) < 0 then (if 0 ≤ (lg_cmp p2 ((lo (((21 * hd) + p1) : Int32).toNatClampNeg) - 1000000)) then (((((lo (((21 * hd) + p1) : Int32).toNatClampNeg) - p2) : Int64).toInt32), 0) else (1000000, 0)) else (0, 0))))
set_option maxHeartbeats 4000000 in
set_option maxRecDepth 100000 in
theorem c_X6_left (l : Launch) (G : gG) (m0 btr blo bwl bkd bdl btp bgv bse bro bop baw bsd bot bct bcr bud bub bul bua : Nat) (sz : Nat) (cod : Int32) (mt : Int64) (hd : Int32) (mmd : Int32) (typ : Int32) (rd : Int32) (giv : Int32) (us : Int32) (mtr : Nat → Int32) (lo : Nat → Int64) (wl : Nat → Int32) (p1 : Int32) (p2 : Int64) (hh : vp_in hd 4) : Met l yX6_left wsX6_left ({ frames := 1, cells := 0, slots := 0, locals := 21 }) (va_Pc [.ref m0, .int p1, .long p2] (pR G [(m0, .inr (8, [.int cod, .long mt, .int hd, .int mmd, .ref bkd, .ref btr, .ref bdl, .int typ, .int rd, .ref btp, .int giv, .ref bgv, .ref bse, .ref bro, .ref bop, .ref baw, .ref bsd, .ref bot, .ref bct, .ref bcr, .ref bud, .ref blo, .ref bwl, .int us, .ref bub, .ref bul, .ref bua])), (btr, .inl (G.2 0, 21, .inl mtr)), (blo, .inl (G.2 1, 84, .inr (.inl lo))), (bwl, .inl (G.2 2, 84, .inl wl))] sz)) (va_Qi (fun (r : Int32) (u : Int32) => (r, u) = F_X6_left cod mt hd mmd typ rd giv us mtr lo wl p1 p2) (fun u t => pO G [(m0, .inr (8, [.int u, .long mt, .int hd, .int mmd, .ref bkd, .ref btr, .ref bdl, .int typ, .int rd, .ref btp, .int giv, .ref bgv, .ref bse, .ref bro, .ref bop, .ref baw, .ref bsd, .ref bot, .ref bct, .ref bcr, .ref bud, .ref blo, .ref bwl, .int us, .ref bub, .ref bul, .ref bua])), (btr, .inl (G.2 0, 21, .inl mtr)), (blo, .inl (G.2 1, 84, .inr (.inl lo))), (bwl, .inl (G.2 2, 84, .inl wl))] (va_A [(m0, .inr (8, [.int cod, .long mt, .int hd, .int mmd, .ref bkd, .ref btr, .ref bdl, .int typ, .int rd, .ref btp, .int giv, .ref bgv, .ref bse, .ref bro, .ref bop, .ref baw, .ref bsd, .ref bot, .ref bct, .ref bcr, .ref bud, .ref blo, .ref bwl, .int us, .ref bub, .ref bul, .ref bua])), (btr, .inl (G.2 0, 21, .inl mtr)), (blo, .inl (G.2 1, 84, .inr (.inl lo))), (bwl, .inl (G.2 2, 84, .inl wl))] sz) t) (va_A [(m0, .inr (8, [.int cod, .long mt, .int hd, .int mmd, .ref bkd, .ref btr, .ref bdl, .int typ, .int rd, .ref btp, .int giv, .ref bgv, .ref bse, .ref bro, .ref bop, .ref baw, .ref bsd, .ref bot, .ref bct, .ref bcr, .ref bud, .ref blo, .ref bwl, .int us, .ref bub, .ref bul, .ref bua])), (btr, .inl (G.2 0, 21, .inl mtr)), (blo, .inl (G.2 1, 84, .inr (.inl lo))), (bwl, .inl (G.2 2, 84, .inl wl))] sz)) 0 0 (va_A [(m0, .inr (8, [.int cod, .long mt, .int hd, .int mmd, .ref bkd, .ref btr, .ref bdl, .int typ, .int rd, .ref btp, .int giv, .ref bgv, .ref bse, .ref bro, .ref bop, .ref baw, .ref bsd, .ref bot, .ref bct, .ref bcr, .ref bud, .ref blo, .ref bwl, .int us, .ref bub, .ref bul, .ref bua])), (btr, .inl (G.2 0, 21, .inl mtr)), (blo, .inl (G.2 1, 84, .inr (.inl lo))), (bwl, .inl (G.2 2, 84, .inl wl))] sz) := by
  refine Met.ofW (cc := cX6_left) (maxL := 6) (ret := (some .int)) (by decide) rfl ?_
  intro p e s m args below meth c s₁ B hml hv
  obtain ⟨rfl, hsz, hP, hK, hD0⟩ := hv
  have hx := B.exec
  have hb := B.bytes
  have hr := B.returns
  have hts := atoms_spec (ws := wsX6_left) B.pre
  have hown : s.vm.findClass RX6 = some m.cls := findClass_of_methodNamed B.named
  have hlocks := B.notSynchronized
  subst hsz
  have iX6 : ∀ w ∈ wsX60, w ∈ wsX6_left := by decide +kernel
  have hD := hD0.self (sz := s.heap.size)
  generalize hAe : va_A [(m0, .inr (8, [.int cod, .long mt, .int hd, .int mmd, .ref bkd, .ref btr, .ref bdl, .int typ, .int rd, .ref btp, .int giv, .ref bgv, .ref bse, .ref bro, .ref bop, .ref baw, .ref bsd, .ref bot, .ref bct, .ref bcr, .ref bud, .ref blo, .ref bwl, .int us, .ref bub, .ref bul, .ref bua])), (btr, .inl (G.2 0, 21, .inl mtr)), (blo, .inl (G.2 1, 84, .inr (.inl lo))), (bwl, .inl (G.2 2, 84, .inl wl))] s.heap.size = A at hD ⊢
  have hA : ∀ q : Nat, s.heap.size ≤ q → A q := fun q h => by rw [← hAe]; exact Or.inr h
  have hS : va_S A s.heap s.heap [] := va_S.rf
  have hP : va_P G.1 vwCl [(m0, .inr (8, [.int cod, .long mt, .int hd, .int mmd, .ref bkd, .ref btr, .ref bdl, .int typ, .int rd, .ref btp, .int giv, .ref bgv, .ref bse, .ref bro, .ref bop, .ref baw, .ref bsd, .ref bot, .ref bct, .ref bcr, .ref bud, .ref blo, .ref bwl, .int us, .ref bub, .ref bul, .ref bua])), (btr, .inl (G.2 0, 21, .inl mtr)), (blo, .inl (G.2 1, 84, .inr (.inl lo))), (bwl, .inl (G.2 2, 84, .inl wl))] s.heap := hP
  have hl := lv_entry ([.ref m0, .int p1, .long p2]) (n := 6) (Nat.le_of_ble_eq_true rfl)
  rw [lg_entry_eq]
  generalize (lg_sl ([.ref m0, .int p1, .long p2]) ++ List.replicate (6 - (lg_sl ([.ref m0, .int p1, .long p2])).length) Slot.unset).toArray = ls at hl ⊢
  have hl : lv_has ls 6 [(0, .ref m0), (1, .int p1), (2, .long p2)] := hl
  have hF : F_X6_left cod mt hd mmd typ rd giv us mtr lo wl p1 p2 = F_X6_left cod mt hd mmd typ rd giv us mtr lo wl p1 p2 := rfl
  refine lv_aload_n hx hb dX6_left_0 rfl (lv_at hl 0 rfl) ?_
  refine lv_iconst (v := 0) hx hb dX6_left_1 (by decide) ?_
  refine va_put (D := G.1) (ci := 8) (v := .int 0) (ty := .int) (C := RX6) (T := TX6) (N := 27) hx hb hts iX6 tyX6 tyX6_ok nmX6 hown hK.1 hP hD hS 0 rfl rfl 0 (by decide) (hts (.fieldLink RX6 71 "RightsStepsModel" "code" "I") (by decide +kernel)) (fun _ h9 => h9) rfl (by decide +kernel) rfl rfl (Nat.le_of_ble_eq_true rfl) dX6_left_2 (fun H locs hP hD hS => ?_)
  have hP : va_P G.1 vwCl [(m0, .inr (8, [.int 0, .long mt, .int hd, .int mmd, .ref bkd, .ref btr, .ref bdl, .int typ, .int rd, .ref btp, .int giv, .ref bgv, .ref bse, .ref bro, .ref bop, .ref baw, .ref bsd, .ref bot, .ref bct, .ref bcr, .ref bud, .ref blo, .ref bwl, .int us, .ref bub, .ref bul, .ref bua])), (btr, .inl (G.2 0, 21, .inl mtr)), (blo, .inl (G.2 1, 84, .inr (.inl lo))), (bwl, .inl (G.2 2, 84, .inl wl))] H := hP
  have hD : va_D A [(m0, .inr (8, [.int 0, .long mt, .int hd, .int mmd, .ref bkd, .ref btr, .ref bdl, .int typ, .int rd, .ref btp, .int giv, .ref bgv, .ref bse, .ref bro, .ref bop, .ref baw, .ref bsd, .ref bot, .ref bct, .ref bcr, .ref bud, .ref blo, .ref bwl, .int us, .ref bub, .ref bul, .ref bua])), (btr, .inl (G.2 0, 21, .inl mtr)), (blo, .inl (G.2 1, 84, .inr (.inl lo))), (bwl, .inl (G.2 2, 84, .inl wl))] := hD
  refine lv_aload_n hx hb dX6_left_5 rfl (lv_at hl 0 rfl) ?_
  refine lv_iload_n hx hb dX6_left_6 rfl (lv_at hl 1 rfl) ?_
  have hPc := hP.sub (ws' := [(m0, .inr (8, [.int 0, .long mt, .int hd, .int mmd, .ref bkd, .ref btr, .ref bdl, .int typ, .int rd, .ref btp, .int giv, .ref bgv, .ref bse, .ref bro, .ref bop, .ref baw, .ref bsd, .ref bot, .ref bct, .ref bcr, .ref bud, .ref blo, .ref bwl, .int us, .ref bub, .ref bul, .ref bua])), (btr, .inl (G.2 0, 21, .inl mtr))]) [0, 1] rfl
  have hDc := hD.sub (ws' := [(m0, .inr (8, [.int 0, .long mt, .int hd, .int mmd, .ref bkd, .ref btr, .ref bdl, .int typ, .int rd, .ref btp, .int giv, .ref bgv, .ref bse, .ref bro, .ref bop, .ref baw, .ref bsd, .ref bot, .ref bct, .ref bcr, .ref bud, .ref blo, .ref bwl, .int us, .ref bub, .ref bul, .ref bua])), (btr, .inl (G.2 0, 21, .inl mtr))]) [0, 1] (by decide) rfl
  refine pu_call (va_runV (As := [.int p1]) (rest := []) ⟨hx, hb, hml, hown, hts⟩ (c_X6_isMade l G m0 btr bkd bdl btp bgv bse bro bop baw bsd bot bct bcr bud blo bwl bub bul bua _ 0 mt hd mmd typ rd giv us mtr p1) (cwV 1 hts gX6_left_X6_isMade rfl rfl rfl (by decide +kernel) ⟨Nat.le_of_ble_eq_true rfl, Nat.le_of_ble_eq_true rfl⟩) (pR_V hK hPc hDc (q0 := 0) rfl rfl) rfl rfl hl.1 rfl (lv_room (Nat.le_of_ble_eq_true rfl)) dX6_left_7 ⟨Nat.le_of_ble_eq_true rfl, Nat.le_of_ble_eq_true rfl⟩) ?_
  refine lv_if_ne (tgt := 15) hx hb dX6_left_10 (by decide) (fun c_10 => ?_) (fun c_10 => ?_)
  · have hF := if_f hF c_10
    refine lv_aload_n hx hb dX6_left_15 rfl (lv_at hl 0 rfl) ?_
    refine va_get (D := G.1) (ci := 8) (v := .ref blo) (C := RX6) (T := TX6) (N := 27) hx hb hts iX6 hown hK.1 hP 0 rfl rfl 21 (by decide) (hts (.fieldLink RX6 55 "RightsStepsModel" "locked" "[J") (by decide +kernel)) (fun _ h9 => h9) rfl dX6_left_16 ?_
    refine lv_bipush (v := 21) hx hb dX6_left_19 (by decide) ?_
    refine lv_aload_n hx hb dX6_left_21 rfl (lv_at hl 0 rfl) ?_
    refine va_get (D := G.1) (ci := 8) (v := .int hd) (C := RX6) (T := TX6) (N := 27) hx hb hts iX6 hown hK.1 hP 0 rfl rfl 2 (by decide) (hts (.fieldLink RX6 96 "RightsStepsModel" "hand" "I") (by decide +kernel)) (fun _ h9 => h9) rfl dX6_left_22 ?_
    refine lv_imul hx hb dX6_left_25 ?_
    refine lv_iload_n hx hb dX6_left_26 rfl (lv_at hl 1 rfl) ?_
    refine lv_iadd hx hb dX6_left_27 ?_
    refine va_lald (f := lo) hx hb hK.1 hP 2 1 rfl rfl (in_84 hh (made_in c_10)) dX6_left_28 ?_
    refine lv_lstore (lv' := [(4, .long (lo (((21 * hd) + p1) : Int32).toNatClampNeg)), (0, .ref m0), (1, .int p1), (2, .long p2)]) hx hb dX6_left_29 hl (by decide) rfl (fun ls hl => ?_)
    refine lv_aload_n hx hb dX6_left_31 rfl (lv_at hl 1 rfl) ?_
    refine va_get (D := G.1) (ci := 8) (v := .ref bwl) (C := RX6) (T := TX6) (N := 27) hx hb hts iX6 hown hK.1 hP 0 rfl rfl 22 (by decide) (hts (.fieldLink RX6 58 "RightsStepsModel" "wasLocked" "[Z") (by decide +kernel)) (fun _ h9 => h9) rfl dX6_left_32 ?_
    refine lv_bipush (v := 21) hx hb dX6_left_35 (by decide) ?_
    refine lv_aload_n hx hb dX6_left_37 rfl (lv_at hl 1 rfl) ?_
    refine va_get (D := G.1) (ci := 8) (v := .int hd) (C := RX6) (T := TX6) (N := 27) hx hb hts iX6 hown hK.1 hP 0 rfl rfl 2 (by decide) (hts (.fieldLink RX6 96 "RightsStepsModel" "hand" "I") (by decide +kernel)) (fun _ h9 => h9) rfl dX6_left_38 ?_
    refine lv_imul hx hb dX6_left_41 ?_
    refine lv_iload_n hx hb dX6_left_42 rfl (lv_at hl 2 rfl) ?_
    refine lv_iadd hx hb dX6_left_43 ?_
    refine va_zald (f := wl) hx hb hK.1 hP 3 2 rfl rfl (in_84 hh (made_in c_10)) dX6_left_44 ?_
    refine lv_if_eq (tgt := 55) hx hb dX6_left_45 (by decide) (fun c_45 => ?_) (fun c_45 => ?_)
    · have hF := if_t hF c_45
      refine lv_iconst (v := 0) hx hb dX6_left_55 (by decide) ?_
      exact W.iret (v := 0) hx hb hr (fun t ht hW => ⟨⟨0, 0, rfl, hF.symm, by rw [ht]; exact hP.sub [0, 1, 2, 3] rfl, hD.sub [0, 1, 2, 3] (by decide) rfl⟩, hS.F ht⟩) hS.2.2 dX6_left_56
    · have hF := if_f hF c_45
      refine lv_lload_n hx hb dX6_left_48 rfl (lv_at hl 3 rfl) ?_
      refine lv_lload hx hb dX6_left_49 (lv_at hl 0 rfl) ?_
      refine W.lcmp hx hb dX6_left_51 ?_
      refine lv_if_lt (tgt := 57) hx hb dX6_left_52 (by decide) (fun c_52 => ?_) (fun c_52 => ?_)
      · have hF := if_t hF c_52
        refine lv_lload_n hx hb dX6_left_57 rfl (lv_at hl 3 rfl) ?_
        refine lv_lload hx hb dX6_left_58 (lv_at hl 0 rfl) ?_
        refine lv_ldc2 (v := 1000000) hx hb hown (hts (.constantLong RX6 133 (1000000)) (by decide +kernel)) dX6_left_60 ?_
        refine lv_lsub hx hb dX6_left_63 ?_
        refine W.lcmp hx hb dX6_left_64 ?_
        refine lv_if_ge (tgt := 73) hx hb dX6_left_65 (by decide) (fun c_65 => ?_) (fun c_65 => ?_)
        · have hF := if_t hF c_65
          refine lv_lload hx hb dX6_left_73 (lv_at hl 0 rfl) ?_
          refine lv_lload_n hx hb dX6_left_75 rfl (lv_at hl 3 rfl) ?_
          refine lv_lsub hx hb dX6_left_76 ?_
          refine lv_l2i (v := ((((lo (((21 * hd) + p1) : Int32).toNatClampNeg) - p2) : Int64).toInt32)) hx hb dX6_left_77 rfl ?_
          exact W.iret (v := ((((lo (((21 * hd) + p1) : Int32).toNatClampNeg) - p2) : Int64).toInt32)) hx hb hr (fun t ht hW => ⟨⟨((((lo (((21 * hd) + p1) : Int32).toNatClampNeg) - p2) : Int64).toInt32), 0, rfl, hF.symm, by rw [ht]; exact hP.sub [0, 1, 2, 3] rfl, hD.sub [0, 1, 2, 3] (by decide) rfl⟩, hS.F ht⟩) hS.2.2 dX6_left_78
        · have hF := if_f hF c_65
          refine lv_ldc (v := 1000000) hx hb hown (hts (.constant RX6 135 (1000000)) (by decide +kernel)) dX6_left_68 ?_
          refine lv_goto (tgt := 78) hx hb dX6_left_70 (by decide) ?_
          exact W.iret (v := 1000000) hx hb hr (fun t ht hW => ⟨⟨1000000, 0, rfl, hF.symm, by rw [ht]; exact hP.sub [0, 1, 2, 3] rfl, hD.sub [0, 1, 2, 3] (by decide) rfl⟩, hS.F ht⟩) hS.2.2 dX6_left_78
      · have hF := if_f hF c_52
        refine lv_iconst (v := 0) hx hb dX6_left_55 (by decide) ?_
        exact W.iret (v := 0) hx hb hr (fun t ht hW => ⟨⟨0, 0, rfl, hF.symm, by rw [ht]; exact hP.sub [0, 1, 2, 3] rfl, hD.sub [0, 1, 2, 3] (by decide) rfl⟩, hS.F ht⟩) hS.2.2 dX6_left_56
  · have hF := if_t hF c_10
    refine lv_iconst (v := (-1)) hx hb dX6_left_13 (by decide) ?_
    exact W.iret (v := (-1)) hx hb hr (fun t ht hW => ⟨⟨(-1), 0, rfl, hF.symm, by rw [ht]; exact hP.sub [0, 1, 2, 3] rfl, hD.sub [0, 1, 2, 3] (by decide) rfl⟩, hS.F ht⟩) hS.2.2 dX6_left_14

def F_X6_log (cod : Int32) (mt : Int64) (hd : Int32) (mmd : Int32) (typ : Int32) (rd : Int32) (giv : Int32) (us : Int32) (ub : Nat → Int32) (ul : Nat → Int32) (ua : Nat → Int32) (p1 : Int32) (p2 : Int32) : Int32 × Int32 :=
  (if p1 = (-1) then (if p2 = 0 then (us, 0) else (if p1 < 0 then ((-1), 0) else (if us ≤ p1 then ((-1), 0) else (if p1 ≤ 299 then (if p2 < 0 then ((-2), 0) else (if p2 ≤ 2 then (if p2 = 0 then ((ub (p1 : Int32).toNatClampNeg), 0) else (if p2 = 1 then ((ul (p1 : Int32).toNatClampNeg), 0) else ((ua (p1 : Int32).toNatClampNeg), 0))) else ((-2), 0))) else ((-1), 0))))) else (if p1 < 0 then ((-1), 0) else (if us ≤ p1 then ((-1), 0) else (if p1 ≤ 299 then (if p2 < 0 then ((-2), 0) else (if p2 ≤ 2 then (if p2 = 0 then ((ub (p1 : Int32).toNatClampNeg), 0) else (if p2 = 1 then ((ul (p1 : Int32).toNatClampNeg), 0) else ((ua (p1 : Int32).toNatClampNeg), 0))) else ((-2), 0))) else ((-1), 0)))))
set_option maxHeartbeats 4000000 in
set_option maxRecDepth 100000 in
theorem c_X6_log (l : Launch) (G : gG) (m0 bub bul bua bkd btr bdl btp bgv bse bro bop baw bsd bot bct bcr bud blo bwl : Nat) (sz : Nat) (cod : Int32) (mt : Int64) (hd : Int32) (mmd : Int32) (typ : Int32) (rd : Int32) (giv : Int32) (us : Int32) (ub : Nat → Int32) (ul : Nat → Int32) (ua : Nat → Int32) (p1 : Int32) (p2 : Int32) : Met l yX6_log wsX6_log ({ frames := 0, cells := 0, slots := 0, locals := 0 }) (va_Pc [.ref m0, .int p1, .int p2] (pR G [(m0, .inr (8, [.int cod, .long mt, .int hd, .int mmd, .ref bkd, .ref btr, .ref bdl, .int typ, .int rd, .ref btp, .int giv, .ref bgv, .ref bse, .ref bro, .ref bop, .ref baw, .ref bsd, .ref bot, .ref bct, .ref bcr, .ref bud, .ref blo, .ref bwl, .int us, .ref bub, .ref bul, .ref bua])), (bub, .inl (G.2 0, 300, .inl ub)), (bul, .inl (G.2 0, 300, .inl ul)), (bua, .inl (G.2 0, 300, .inl ua))] sz)) (va_Qi (fun (r : Int32) (u : Int32) => (r, u) = F_X6_log cod mt hd mmd typ rd giv us ub ul ua p1 p2) (fun u t => pO G [(m0, .inr (8, [.int u, .long mt, .int hd, .int mmd, .ref bkd, .ref btr, .ref bdl, .int typ, .int rd, .ref btp, .int giv, .ref bgv, .ref bse, .ref bro, .ref bop, .ref baw, .ref bsd, .ref bot, .ref bct, .ref bcr, .ref bud, .ref blo, .ref bwl, .int us, .ref bub, .ref bul, .ref bua])), (bub, .inl (G.2 0, 300, .inl ub)), (bul, .inl (G.2 0, 300, .inl ul)), (bua, .inl (G.2 0, 300, .inl ua))] (va_A [(m0, .inr (8, [.int cod, .long mt, .int hd, .int mmd, .ref bkd, .ref btr, .ref bdl, .int typ, .int rd, .ref btp, .int giv, .ref bgv, .ref bse, .ref bro, .ref bop, .ref baw, .ref bsd, .ref bot, .ref bct, .ref bcr, .ref bud, .ref blo, .ref bwl, .int us, .ref bub, .ref bul, .ref bua])), (bub, .inl (G.2 0, 300, .inl ub)), (bul, .inl (G.2 0, 300, .inl ul)), (bua, .inl (G.2 0, 300, .inl ua))] sz) t) (va_A [(m0, .inr (8, [.int cod, .long mt, .int hd, .int mmd, .ref bkd, .ref btr, .ref bdl, .int typ, .int rd, .ref btp, .int giv, .ref bgv, .ref bse, .ref bro, .ref bop, .ref baw, .ref bsd, .ref bot, .ref bct, .ref bcr, .ref bud, .ref blo, .ref bwl, .int us, .ref bub, .ref bul, .ref bua])), (bub, .inl (G.2 0, 300, .inl ub)), (bul, .inl (G.2 0, 300, .inl ul)), (bua, .inl (G.2 0, 300, .inl ua))] sz)) 0 0 (va_A [(m0, .inr (8, [.int cod, .long mt, .int hd, .int mmd, .ref bkd, .ref btr, .ref bdl, .int typ, .int rd, .ref btp, .int giv, .ref bgv, .ref bse, .ref bro, .ref bop, .ref baw, .ref bsd, .ref bot, .ref bct, .ref bcr, .ref bud, .ref blo, .ref bwl, .int us, .ref bub, .ref bul, .ref bua])), (bub, .inl (G.2 0, 300, .inl ub)), (bul, .inl (G.2 0, 300, .inl ul)), (bua, .inl (G.2 0, 300, .inl ua))] sz) := by
  refine Met.ofW (cc := cX6_log) (maxL := 3) (ret := (some .int)) (by decide) rfl ?_
  intro p e s m args below meth c s₁ B hml hv
  obtain ⟨rfl, hsz, hP, hK, hD0⟩ := hv
  have hx := B.exec
  have hb := B.bytes
  have hr := B.returns
  have hts := atoms_spec (ws := wsX6_log) B.pre
  have hown : s.vm.findClass RX6 = some m.cls := findClass_of_methodNamed B.named
  have hlocks := B.notSynchronized
  subst hsz
  have iX6 : ∀ w ∈ wsX60, w ∈ wsX6_log := by decide +kernel
  have hD := hD0.self (sz := s.heap.size)
  generalize hAe : va_A [(m0, .inr (8, [.int cod, .long mt, .int hd, .int mmd, .ref bkd, .ref btr, .ref bdl, .int typ, .int rd, .ref btp, .int giv, .ref bgv, .ref bse, .ref bro, .ref bop, .ref baw, .ref bsd, .ref bot, .ref bct, .ref bcr, .ref bud, .ref blo, .ref bwl, .int us, .ref bub, .ref bul, .ref bua])), (bub, .inl (G.2 0, 300, .inl ub)), (bul, .inl (G.2 0, 300, .inl ul)), (bua, .inl (G.2 0, 300, .inl ua))] s.heap.size = A at hD ⊢
  have hA : ∀ q : Nat, s.heap.size ≤ q → A q := fun q h => by rw [← hAe]; exact Or.inr h
  have hS : va_S A s.heap s.heap [] := va_S.rf
  have hP : va_P G.1 vwCl [(m0, .inr (8, [.int cod, .long mt, .int hd, .int mmd, .ref bkd, .ref btr, .ref bdl, .int typ, .int rd, .ref btp, .int giv, .ref bgv, .ref bse, .ref bro, .ref bop, .ref baw, .ref bsd, .ref bot, .ref bct, .ref bcr, .ref bud, .ref blo, .ref bwl, .int us, .ref bub, .ref bul, .ref bua])), (bub, .inl (G.2 0, 300, .inl ub)), (bul, .inl (G.2 0, 300, .inl ul)), (bua, .inl (G.2 0, 300, .inl ua))] s.heap := hP
  have hl := lv_entry ([.ref m0, .int p1, .int p2]) (n := 3) (Nat.le_of_ble_eq_true rfl)
  rw [lg_entry_eq]
  generalize (lg_sl ([.ref m0, .int p1, .int p2]) ++ List.replicate (3 - (lg_sl ([.ref m0, .int p1, .int p2])).length) Slot.unset).toArray = ls at hl ⊢
  have hl : lv_has ls 3 [(0, .ref m0), (1, .int p1), (2, .int p2)] := hl
  have hF : F_X6_log cod mt hd mmd typ rd giv us ub ul ua p1 p2 = F_X6_log cod mt hd mmd typ rd giv us ub ul ua p1 p2 := rfl
  refine lv_aload_n hx hb dX6_log_0 rfl (lv_at hl 0 rfl) ?_
  refine lv_iconst (v := 0) hx hb dX6_log_1 (by decide) ?_
  refine va_put (D := G.1) (ci := 8) (v := .int 0) (ty := .int) (C := RX6) (T := TX6) (N := 27) hx hb hts iX6 tyX6 tyX6_ok nmX6 hown hK.1 hP hD hS 0 rfl rfl 0 (by decide) (hts (.fieldLink RX6 71 "RightsStepsModel" "code" "I") (by decide +kernel)) (fun _ h9 => h9) rfl (by decide +kernel) rfl rfl (Nat.le_of_ble_eq_true rfl) dX6_log_2 (fun H locs hP hD hS => ?_)
  have hP : va_P G.1 vwCl [(m0, .inr (8, [.int 0, .long mt, .int hd, .int mmd, .ref bkd, .ref btr, .ref bdl, .int typ, .int rd, .ref btp, .int giv, .ref bgv, .ref bse, .ref bro, .ref bop, .ref baw, .ref bsd, .ref bot, .ref bct, .ref bcr, .ref bud, .ref blo, .ref bwl, .int us, .ref bub, .ref bul, .ref bua])), (bub, .inl (G.2 0, 300, .inl ub)), (bul, .inl (G.2 0, 300, .inl ul)), (bua, .inl (G.2 0, 300, .inl ua))] H := hP
  have hD : va_D A [(m0, .inr (8, [.int 0, .long mt, .int hd, .int mmd, .ref bkd, .ref btr, .ref bdl, .int typ, .int rd, .ref btp, .int giv, .ref bgv, .ref bse, .ref bro, .ref bop, .ref baw, .ref bsd, .ref bot, .ref bct, .ref bcr, .ref bud, .ref blo, .ref bwl, .int us, .ref bub, .ref bul, .ref bua])), (bub, .inl (G.2 0, 300, .inl ub)), (bul, .inl (G.2 0, 300, .inl ul)), (bua, .inl (G.2 0, 300, .inl ua))] := hD
  refine lv_iload_n hx hb dX6_log_5 rfl (lv_at hl 1 rfl) ?_
  refine lv_iconst (v := (-1)) hx hb dX6_log_6 (by decide) ?_
  refine lv_icmp_ne (tgt := 19) hx hb dX6_log_7 (by decide) (fun c_7 => ?_) (fun c_7 => ?_)
  · have hF := if_f hF c_7
    refine lv_iload_n hx hb dX6_log_19 rfl (lv_at hl 1 rfl) ?_
    refine lv_if_lt (tgt := 38) hx hb dX6_log_20 (by decide) (fun c_20 => ?_) (fun c_20 => ?_)
    · have hF := if_t hF c_20
      refine lv_iconst (v := (-1)) hx hb dX6_log_38 (by decide) ?_
      exact W.iret (v := (-1)) hx hb hr (fun t ht hW => ⟨⟨(-1), 0, rfl, hF.symm, by rw [ht]; exact hP.sub [0, 1, 2, 3] rfl, hD.sub [0, 1, 2, 3] (by decide) rfl⟩, hS.F ht⟩) hS.2.2 dX6_log_39
    · have hF := if_f hF c_20
      refine lv_iload_n hx hb dX6_log_23 rfl (lv_at hl 1 rfl) ?_
      refine lv_aload_n hx hb dX6_log_24 rfl (lv_at hl 0 rfl) ?_
      refine va_get (D := G.1) (ci := 8) (v := .int us) (C := RX6) (T := TX6) (N := 27) hx hb hts iX6 hown hK.1 hP 0 rfl rfl 23 (by decide) (hts (.fieldLink RX6 93 "RightsStepsModel" "uses" "I") (by decide +kernel)) (fun _ h9 => h9) rfl dX6_log_25 ?_
      refine lv_icmp_ge (tgt := 38) hx hb dX6_log_28 (by decide) (fun c_28 => ?_) (fun c_28 => ?_)
      · have hF := if_t hF c_28
        refine lv_iconst (v := (-1)) hx hb dX6_log_38 (by decide) ?_
        exact W.iret (v := (-1)) hx hb hr (fun t ht hW => ⟨⟨(-1), 0, rfl, hF.symm, by rw [ht]; exact hP.sub [0, 1, 2, 3] rfl, hD.sub [0, 1, 2, 3] (by decide) rfl⟩, hS.F ht⟩) hS.2.2 dX6_log_39
      · have hF := if_f hF c_28
        refine lv_iload_n hx hb dX6_log_31 rfl (lv_at hl 1 rfl) ?_
        refine lv_sipush (v := 299) hx hb dX6_log_32 (by decide) ?_
        refine lv_icmp_le (tgt := 40) hx hb dX6_log_35 (by decide) (fun c_35 => ?_) (fun c_35 => ?_)
        · have hF := if_t hF c_35
          refine lv_iload_n hx hb dX6_log_40 rfl (lv_at hl 2 rfl) ?_
          refine lv_if_lt (tgt := 49) hx hb dX6_log_41 (by decide) (fun c_41 => ?_) (fun c_41 => ?_)
          · have hF := if_t hF c_41
            refine lv_bipush (v := (-2)) hx hb dX6_log_49 (by decide) ?_
            exact W.iret (v := (-2)) hx hb hr (fun t ht hW => ⟨⟨(-2), 0, rfl, hF.symm, by rw [ht]; exact hP.sub [0, 1, 2, 3] rfl, hD.sub [0, 1, 2, 3] (by decide) rfl⟩, hS.F ht⟩) hS.2.2 dX6_log_51
          · have hF := if_f hF c_41
            refine lv_iload_n hx hb dX6_log_44 rfl (lv_at hl 2 rfl) ?_
            refine lv_iconst (v := 2) hx hb dX6_log_45 (by decide) ?_
            refine lv_icmp_le (tgt := 52) hx hb dX6_log_46 (by decide) (fun c_46 => ?_) (fun c_46 => ?_)
            · have hF := if_t hF c_46
              refine lv_iload_n hx hb dX6_log_52 rfl (lv_at hl 2 rfl) ?_
              refine lv_if_ne (tgt := 65) hx hb dX6_log_53 (by decide) (fun c_53 => ?_) (fun c_53 => ?_)
              · have hF := if_f hF c_53
                refine lv_iload_n hx hb dX6_log_65 rfl (lv_at hl 2 rfl) ?_
                refine lv_iconst (v := 1) hx hb dX6_log_66 (by decide) ?_
                refine lv_icmp_ne (tgt := 79) hx hb dX6_log_67 (by decide) (fun c_67 => ?_) (fun c_67 => ?_)
                · have hF := if_f hF c_67
                  refine lv_aload_n hx hb dX6_log_79 rfl (lv_at hl 0 rfl) ?_
                  refine va_get (D := G.1) (ci := 8) (v := .ref bua) (C := RX6) (T := TX6) (N := 27) hx hb hts iX6 hown hK.1 hP 0 rfl rfl 26 (by decide) (hts (.fieldLink RX6 68 "RightsStepsModel" "useAnswer" "[I") (by decide +kernel)) (fun _ h9 => h9) rfl dX6_log_80 ?_
                  refine lv_iload_n hx hb dX6_log_83 rfl (lv_at hl 1 rfl) ?_
                  refine va_iald (f := ua) hx hb hK.1 hP 3 0 rfl rfl (in_l3 c_20 c_35) dX6_log_84 ?_
                  exact W.iret (v := (ua (p1 : Int32).toNatClampNeg)) hx hb hr (fun t ht hW => ⟨⟨(ua (p1 : Int32).toNatClampNeg), 0, rfl, hF.symm, by rw [ht]; exact hP.sub [0, 1, 2, 3] rfl, hD.sub [0, 1, 2, 3] (by decide) rfl⟩, hS.F ht⟩) hS.2.2 dX6_log_85
                · have hF := if_t hF c_67
                  refine lv_aload_n hx hb dX6_log_70 rfl (lv_at hl 0 rfl) ?_
                  refine va_get (D := G.1) (ci := 8) (v := .ref bul) (C := RX6) (T := TX6) (N := 27) hx hb hts iX6 hown hK.1 hP 0 rfl rfl 25 (by decide) (hts (.fieldLink RX6 65 "RightsStepsModel" "useLevel" "[I") (by decide +kernel)) (fun _ h9 => h9) rfl dX6_log_71 ?_
                  refine lv_iload_n hx hb dX6_log_74 rfl (lv_at hl 1 rfl) ?_
                  refine va_iald (f := ul) hx hb hK.1 hP 2 0 rfl rfl (in_l3 c_20 c_35) dX6_log_75 ?_
                  refine lv_goto (tgt := 85) hx hb dX6_log_76 (by decide) ?_
                  exact W.iret (v := (ul (p1 : Int32).toNatClampNeg)) hx hb hr (fun t ht hW => ⟨⟨(ul (p1 : Int32).toNatClampNeg), 0, rfl, hF.symm, by rw [ht]; exact hP.sub [0, 1, 2, 3] rfl, hD.sub [0, 1, 2, 3] (by decide) rfl⟩, hS.F ht⟩) hS.2.2 dX6_log_85
              · have hF := if_t hF c_53
                refine lv_aload_n hx hb dX6_log_56 rfl (lv_at hl 0 rfl) ?_
                refine va_get (D := G.1) (ci := 8) (v := .ref bub) (C := RX6) (T := TX6) (N := 27) hx hb hts iX6 hown hK.1 hP 0 rfl rfl 24 (by decide) (hts (.fieldLink RX6 62 "RightsStepsModel" "useBy" "[I") (by decide +kernel)) (fun _ h9 => h9) rfl dX6_log_57 ?_
                refine lv_iload_n hx hb dX6_log_60 rfl (lv_at hl 1 rfl) ?_
                refine va_iald (f := ub) hx hb hK.1 hP 1 0 rfl rfl (in_l3 c_20 c_35) dX6_log_61 ?_
                refine lv_goto (tgt := 85) hx hb dX6_log_62 (by decide) ?_
                exact W.iret (v := (ub (p1 : Int32).toNatClampNeg)) hx hb hr (fun t ht hW => ⟨⟨(ub (p1 : Int32).toNatClampNeg), 0, rfl, hF.symm, by rw [ht]; exact hP.sub [0, 1, 2, 3] rfl, hD.sub [0, 1, 2, 3] (by decide) rfl⟩, hS.F ht⟩) hS.2.2 dX6_log_85
            · have hF := if_f hF c_46
              refine lv_bipush (v := (-2)) hx hb dX6_log_49 (by decide) ?_
              exact W.iret (v := (-2)) hx hb hr (fun t ht hW => ⟨⟨(-2), 0, rfl, hF.symm, by rw [ht]; exact hP.sub [0, 1, 2, 3] rfl, hD.sub [0, 1, 2, 3] (by decide) rfl⟩, hS.F ht⟩) hS.2.2 dX6_log_51
        · have hF := if_f hF c_35
          refine lv_iconst (v := (-1)) hx hb dX6_log_38 (by decide) ?_
          exact W.iret (v := (-1)) hx hb hr (fun t ht hW => ⟨⟨(-1), 0, rfl, hF.symm, by rw [ht]; exact hP.sub [0, 1, 2, 3] rfl, hD.sub [0, 1, 2, 3] (by decide) rfl⟩, hS.F ht⟩) hS.2.2 dX6_log_39
  · have hF := if_t hF c_7
    refine lv_iload_n hx hb dX6_log_10 rfl (lv_at hl 2 rfl) ?_
    refine lv_if_ne (tgt := 19) hx hb dX6_log_11 (by decide) (fun c_11 => ?_) (fun c_11 => ?_)
    · have hF := if_f hF c_11
      refine lv_iload_n hx hb dX6_log_19 rfl (lv_at hl 1 rfl) ?_
      refine lv_if_lt (tgt := 38) hx hb dX6_log_20 (by decide) (fun c_20 => ?_) (fun c_20 => ?_)
      · have hF := if_t hF c_20
        refine lv_iconst (v := (-1)) hx hb dX6_log_38 (by decide) ?_
        exact W.iret (v := (-1)) hx hb hr (fun t ht hW => ⟨⟨(-1), 0, rfl, hF.symm, by rw [ht]; exact hP.sub [0, 1, 2, 3] rfl, hD.sub [0, 1, 2, 3] (by decide) rfl⟩, hS.F ht⟩) hS.2.2 dX6_log_39
      · have hF := if_f hF c_20
        refine lv_iload_n hx hb dX6_log_23 rfl (lv_at hl 1 rfl) ?_
        refine lv_aload_n hx hb dX6_log_24 rfl (lv_at hl 0 rfl) ?_
        refine va_get (D := G.1) (ci := 8) (v := .int us) (C := RX6) (T := TX6) (N := 27) hx hb hts iX6 hown hK.1 hP 0 rfl rfl 23 (by decide) (hts (.fieldLink RX6 93 "RightsStepsModel" "uses" "I") (by decide +kernel)) (fun _ h9 => h9) rfl dX6_log_25 ?_
        refine lv_icmp_ge (tgt := 38) hx hb dX6_log_28 (by decide) (fun c_28 => ?_) (fun c_28 => ?_)
        · have hF := if_t hF c_28
          refine lv_iconst (v := (-1)) hx hb dX6_log_38 (by decide) ?_
          exact W.iret (v := (-1)) hx hb hr (fun t ht hW => ⟨⟨(-1), 0, rfl, hF.symm, by rw [ht]; exact hP.sub [0, 1, 2, 3] rfl, hD.sub [0, 1, 2, 3] (by decide) rfl⟩, hS.F ht⟩) hS.2.2 dX6_log_39
        · have hF := if_f hF c_28
          refine lv_iload_n hx hb dX6_log_31 rfl (lv_at hl 1 rfl) ?_
          refine lv_sipush (v := 299) hx hb dX6_log_32 (by decide) ?_
          refine lv_icmp_le (tgt := 40) hx hb dX6_log_35 (by decide) (fun c_35 => ?_) (fun c_35 => ?_)
          · have hF := if_t hF c_35
            refine lv_iload_n hx hb dX6_log_40 rfl (lv_at hl 2 rfl) ?_
            refine lv_if_lt (tgt := 49) hx hb dX6_log_41 (by decide) (fun c_41 => ?_) (fun c_41 => ?_)
            · have hF := if_t hF c_41
              refine lv_bipush (v := (-2)) hx hb dX6_log_49 (by decide) ?_
              exact W.iret (v := (-2)) hx hb hr (fun t ht hW => ⟨⟨(-2), 0, rfl, hF.symm, by rw [ht]; exact hP.sub [0, 1, 2, 3] rfl, hD.sub [0, 1, 2, 3] (by decide) rfl⟩, hS.F ht⟩) hS.2.2 dX6_log_51
            · have hF := if_f hF c_41
              refine lv_iload_n hx hb dX6_log_44 rfl (lv_at hl 2 rfl) ?_
              refine lv_iconst (v := 2) hx hb dX6_log_45 (by decide) ?_
              refine lv_icmp_le (tgt := 52) hx hb dX6_log_46 (by decide) (fun c_46 => ?_) (fun c_46 => ?_)
              · have hF := if_t hF c_46
                refine lv_iload_n hx hb dX6_log_52 rfl (lv_at hl 2 rfl) ?_
                refine lv_if_ne (tgt := 65) hx hb dX6_log_53 (by decide) (fun c_53 => ?_) (fun c_53 => ?_)
                · have hF := if_f hF c_53
                  refine lv_iload_n hx hb dX6_log_65 rfl (lv_at hl 2 rfl) ?_
                  refine lv_iconst (v := 1) hx hb dX6_log_66 (by decide) ?_
                  refine lv_icmp_ne (tgt := 79) hx hb dX6_log_67 (by decide) (fun c_67 => ?_) (fun c_67 => ?_)
                  · have hF := if_f hF c_67
                    refine lv_aload_n hx hb dX6_log_79 rfl (lv_at hl 0 rfl) ?_
                    refine va_get (D := G.1) (ci := 8) (v := .ref bua) (C := RX6) (T := TX6) (N := 27) hx hb hts iX6 hown hK.1 hP 0 rfl rfl 26 (by decide) (hts (.fieldLink RX6 68 "RightsStepsModel" "useAnswer" "[I") (by decide +kernel)) (fun _ h9 => h9) rfl dX6_log_80 ?_
                    refine lv_iload_n hx hb dX6_log_83 rfl (lv_at hl 1 rfl) ?_
                    refine va_iald (f := ua) hx hb hK.1 hP 3 0 rfl rfl (in_l3 c_20 c_35) dX6_log_84 ?_
                    exact W.iret (v := (ua (p1 : Int32).toNatClampNeg)) hx hb hr (fun t ht hW => ⟨⟨(ua (p1 : Int32).toNatClampNeg), 0, rfl, hF.symm, by rw [ht]; exact hP.sub [0, 1, 2, 3] rfl, hD.sub [0, 1, 2, 3] (by decide) rfl⟩, hS.F ht⟩) hS.2.2 dX6_log_85
                  · have hF := if_t hF c_67
                    refine lv_aload_n hx hb dX6_log_70 rfl (lv_at hl 0 rfl) ?_
                    refine va_get (D := G.1) (ci := 8) (v := .ref bul) (C := RX6) (T := TX6) (N := 27) hx hb hts iX6 hown hK.1 hP 0 rfl rfl 25 (by decide) (hts (.fieldLink RX6 65 "RightsStepsModel" "useLevel" "[I") (by decide +kernel)) (fun _ h9 => h9) rfl dX6_log_71 ?_
                    refine lv_iload_n hx hb dX6_log_74 rfl (lv_at hl 1 rfl) ?_
                    refine va_iald (f := ul) hx hb hK.1 hP 2 0 rfl rfl (in_l3 c_20 c_35) dX6_log_75 ?_
                    refine lv_goto (tgt := 85) hx hb dX6_log_76 (by decide) ?_
                    exact W.iret (v := (ul (p1 : Int32).toNatClampNeg)) hx hb hr (fun t ht hW => ⟨⟨(ul (p1 : Int32).toNatClampNeg), 0, rfl, hF.symm, by rw [ht]; exact hP.sub [0, 1, 2, 3] rfl, hD.sub [0, 1, 2, 3] (by decide) rfl⟩, hS.F ht⟩) hS.2.2 dX6_log_85
                · have hF := if_t hF c_53
                  refine lv_aload_n hx hb dX6_log_56 rfl (lv_at hl 0 rfl) ?_
                  refine va_get (D := G.1) (ci := 8) (v := .ref bub) (C := RX6) (T := TX6) (N := 27) hx hb hts iX6 hown hK.1 hP 0 rfl rfl 24 (by decide) (hts (.fieldLink RX6 62 "RightsStepsModel" "useBy" "[I") (by decide +kernel)) (fun _ h9 => h9) rfl dX6_log_57 ?_
                  refine lv_iload_n hx hb dX6_log_60 rfl (lv_at hl 1 rfl) ?_
                  refine va_iald (f := ub) hx hb hK.1 hP 1 0 rfl rfl (in_l3 c_20 c_35) dX6_log_61 ?_
                  refine lv_goto (tgt := 85) hx hb dX6_log_62 (by decide) ?_
                  exact W.iret (v := (ub (p1 : Int32).toNatClampNeg)) hx hb hr (fun t ht hW => ⟨⟨(ub (p1 : Int32).toNatClampNeg), 0, rfl, hF.symm, by rw [ht]; exact hP.sub [0, 1, 2, 3] rfl, hD.sub [0, 1, 2, 3] (by decide) rfl⟩, hS.F ht⟩) hS.2.2 dX6_log_85
              · have hF := if_f hF c_46
                refine lv_bipush (v := (-2)) hx hb dX6_log_49 (by decide) ?_
                exact W.iret (v := (-2)) hx hb hr (fun t ht hW => ⟨⟨(-2), 0, rfl, hF.symm, by rw [ht]; exact hP.sub [0, 1, 2, 3] rfl, hD.sub [0, 1, 2, 3] (by decide) rfl⟩, hS.F ht⟩) hS.2.2 dX6_log_51
          · have hF := if_f hF c_35
            refine lv_iconst (v := (-1)) hx hb dX6_log_38 (by decide) ?_
            exact W.iret (v := (-1)) hx hb hr (fun t ht hW => ⟨⟨(-1), 0, rfl, hF.symm, by rw [ht]; exact hP.sub [0, 1, 2, 3] rfl, hD.sub [0, 1, 2, 3] (by decide) rfl⟩, hS.F ht⟩) hS.2.2 dX6_log_39
    · have hF := if_t hF c_11
      refine lv_aload_n hx hb dX6_log_14 rfl (lv_at hl 0 rfl) ?_
      refine va_get (D := G.1) (ci := 8) (v := .int us) (C := RX6) (T := TX6) (N := 27) hx hb hts iX6 hown hK.1 hP 0 rfl rfl 23 (by decide) (hts (.fieldLink RX6 93 "RightsStepsModel" "uses" "I") (by decide +kernel)) (fun _ h9 => h9) rfl dX6_log_15 ?_
      exact W.iret (v := us) hx hb hr (fun t ht hW => ⟨⟨us, 0, rfl, hF.symm, by rw [ht]; exact hP.sub [0, 1, 2, 3] rfl, hD.sub [0, 1, 2, 3] (by decide) rfl⟩, hS.F ht⟩) hS.2.2 dX6_log_18

def F_X6_tester (cod : Int32) (mt : Int64) (hd : Int32) (mmd : Int32) (typ : Int32) (rd : Int32) (giv : Int32) (us : Int32) (p1 : Int32) : Int32 × Int32 × Int32 :=
  (if p1 < 1 then ((-2), (0, hd)) else (if p1 ≤ 4 then ((hd + 1), (0, (p1 - 1))) else ((-2), (0, hd))))
set_option maxHeartbeats 4000000 in
set_option maxRecDepth 100000 in
theorem c_X6_tester (l : Launch) (G : gG) (m0 bkd btr bdl btp bgv bse bro bop baw bsd bot bct bcr bud blo bwl bub bul bua : Nat) (sz : Nat) (cod : Int32) (mt : Int64) (hd : Int32) (mmd : Int32) (typ : Int32) (rd : Int32) (giv : Int32) (us : Int32) (p1 : Int32) : Met l yX6_tester wsX6_tester ({ frames := 0, cells := 0, slots := 0, locals := 0 }) (va_Pc [.ref m0, .int p1] (pR G [(m0, .inr (8, [.int cod, .long mt, .int hd, .int mmd, .ref bkd, .ref btr, .ref bdl, .int typ, .int rd, .ref btp, .int giv, .ref bgv, .ref bse, .ref bro, .ref bop, .ref baw, .ref bsd, .ref bot, .ref bct, .ref bcr, .ref bud, .ref blo, .ref bwl, .int us, .ref bub, .ref bul, .ref bua]))] sz)) (va_Qi (fun (r : Int32) (u : Int32 × Int32) => (r, u) = F_X6_tester cod mt hd mmd typ rd giv us p1) (fun u t => pO G [(m0, .inr (8, [.int u.1, .long mt, .int u.2, .int mmd, .ref bkd, .ref btr, .ref bdl, .int typ, .int rd, .ref btp, .int giv, .ref bgv, .ref bse, .ref bro, .ref bop, .ref baw, .ref bsd, .ref bot, .ref bct, .ref bcr, .ref bud, .ref blo, .ref bwl, .int us, .ref bub, .ref bul, .ref bua]))] (va_A [(m0, .inr (8, [.int cod, .long mt, .int hd, .int mmd, .ref bkd, .ref btr, .ref bdl, .int typ, .int rd, .ref btp, .int giv, .ref bgv, .ref bse, .ref bro, .ref bop, .ref baw, .ref bsd, .ref bot, .ref bct, .ref bcr, .ref bud, .ref blo, .ref bwl, .int us, .ref bub, .ref bul, .ref bua]))] sz) t) (va_A [(m0, .inr (8, [.int cod, .long mt, .int hd, .int mmd, .ref bkd, .ref btr, .ref bdl, .int typ, .int rd, .ref btp, .int giv, .ref bgv, .ref bse, .ref bro, .ref bop, .ref baw, .ref bsd, .ref bot, .ref bct, .ref bcr, .ref bud, .ref blo, .ref bwl, .int us, .ref bub, .ref bul, .ref bua]))] sz)) 0 0 (va_A [(m0, .inr (8, [.int cod, .long mt, .int hd, .int mmd, .ref bkd, .ref btr, .ref bdl, .int typ, .int rd, .ref btp, .int giv, .ref bgv, .ref bse, .ref bro, .ref bop, .ref baw, .ref bsd, .ref bot, .ref bct, .ref bcr, .ref bud, .ref blo, .ref bwl, .int us, .ref bub, .ref bul, .ref bua]))] sz) := by
  refine Met.ofW (cc := cX6_tester) (maxL := 3) (ret := (some .int)) (by decide) rfl ?_
  intro p e s m args below meth c s₁ B hml hv
  obtain ⟨rfl, hsz, hP, hK, hD0⟩ := hv
  have hx := B.exec
  have hb := B.bytes
  have hr := B.returns
  have hts := atoms_spec (ws := wsX6_tester) B.pre
  have hown : s.vm.findClass RX6 = some m.cls := findClass_of_methodNamed B.named
  have hlocks := B.notSynchronized
  subst hsz
  have iX6 : ∀ w ∈ wsX60, w ∈ wsX6_tester := by decide +kernel
  have hD := hD0.self (sz := s.heap.size)
  generalize hAe : va_A [(m0, .inr (8, [.int cod, .long mt, .int hd, .int mmd, .ref bkd, .ref btr, .ref bdl, .int typ, .int rd, .ref btp, .int giv, .ref bgv, .ref bse, .ref bro, .ref bop, .ref baw, .ref bsd, .ref bot, .ref bct, .ref bcr, .ref bud, .ref blo, .ref bwl, .int us, .ref bub, .ref bul, .ref bua]))] s.heap.size = A at hD ⊢
  have hA : ∀ q : Nat, s.heap.size ≤ q → A q := fun q h => by rw [← hAe]; exact Or.inr h
  have hS : va_S A s.heap s.heap [] := va_S.rf
  have hP : va_P G.1 vwCl [(m0, .inr (8, [.int cod, .long mt, .int hd, .int mmd, .ref bkd, .ref btr, .ref bdl, .int typ, .int rd, .ref btp, .int giv, .ref bgv, .ref bse, .ref bro, .ref bop, .ref baw, .ref bsd, .ref bot, .ref bct, .ref bcr, .ref bud, .ref blo, .ref bwl, .int us, .ref bub, .ref bul, .ref bua]))] s.heap := hP
  have hl := lv_entry ([.ref m0, .int p1]) (n := 3) (Nat.le_of_ble_eq_true rfl)
  rw [lg_entry_eq]
  generalize (lg_sl ([.ref m0, .int p1]) ++ List.replicate (3 - (lg_sl ([.ref m0, .int p1])).length) Slot.unset).toArray = ls at hl ⊢
  have hl : lv_has ls 3 [(0, .ref m0), (1, .int p1)] := hl
  have hF : F_X6_tester cod mt hd mmd typ rd giv us p1 = F_X6_tester cod mt hd mmd typ rd giv us p1 := rfl
  refine lv_aload_n hx hb dX6_tester_0 rfl (lv_at hl 0 rfl) ?_
  refine lv_iconst (v := 0) hx hb dX6_tester_1 (by decide) ?_
  refine va_put (D := G.1) (ci := 8) (v := .int 0) (ty := .int) (C := RX6) (T := TX6) (N := 27) hx hb hts iX6 tyX6 tyX6_ok nmX6 hown hK.1 hP hD hS 0 rfl rfl 0 (by decide) (hts (.fieldLink RX6 71 "RightsStepsModel" "code" "I") (by decide +kernel)) (fun _ h9 => h9) rfl (by decide +kernel) rfl rfl (Nat.le_of_ble_eq_true rfl) dX6_tester_2 (fun H locs hP hD hS => ?_)
  have hP : va_P G.1 vwCl [(m0, .inr (8, [.int 0, .long mt, .int hd, .int mmd, .ref bkd, .ref btr, .ref bdl, .int typ, .int rd, .ref btp, .int giv, .ref bgv, .ref bse, .ref bro, .ref bop, .ref baw, .ref bsd, .ref bot, .ref bct, .ref bcr, .ref bud, .ref blo, .ref bwl, .int us, .ref bub, .ref bul, .ref bua]))] H := hP
  have hD : va_D A [(m0, .inr (8, [.int 0, .long mt, .int hd, .int mmd, .ref bkd, .ref btr, .ref bdl, .int typ, .int rd, .ref btp, .int giv, .ref bgv, .ref bse, .ref bro, .ref bop, .ref baw, .ref bsd, .ref bot, .ref bct, .ref bcr, .ref bud, .ref blo, .ref bwl, .int us, .ref bub, .ref bul, .ref bua]))] := hD
  refine lv_iload_n hx hb dX6_tester_5 rfl (lv_at hl 1 rfl) ?_
  refine lv_iconst (v := 1) hx hb dX6_tester_6 (by decide) ?_
  refine lv_icmp_lt (tgt := 15) hx hb dX6_tester_7 (by decide) (fun c_7 => ?_) (fun c_7 => ?_)
  · have hF := if_t hF c_7
    refine lv_bipush (v := (-2)) hx hb dX6_tester_15 (by decide) ?_
    exact W.iret (v := (-2)) hx hb hr (fun t ht hW => ⟨⟨(-2), (0, hd), rfl, hF.symm, by rw [ht]; exact hP.sub [0] rfl, hD.sub [0] (by decide) rfl⟩, hS.F ht⟩) hS.2.2 dX6_tester_17
  · have hF := if_f hF c_7
    refine lv_iload_n hx hb dX6_tester_10 rfl (lv_at hl 1 rfl) ?_
    refine lv_iconst (v := 4) hx hb dX6_tester_11 (by decide) ?_
    refine lv_icmp_le (tgt := 18) hx hb dX6_tester_12 (by decide) (fun c_12 => ?_) (fun c_12 => ?_)
    · have hF := if_t hF c_12
      refine lv_aload_n hx hb dX6_tester_18 rfl (lv_at hl 0 rfl) ?_
      refine va_get (D := G.1) (ci := 8) (v := .int hd) (C := RX6) (T := TX6) (N := 27) hx hb hts iX6 hown hK.1 hP 0 rfl rfl 2 (by decide) (hts (.fieldLink RX6 96 "RightsStepsModel" "hand" "I") (by decide +kernel)) (fun _ h9 => h9) rfl dX6_tester_19 ?_
      refine lv_iconst (v := 1) hx hb dX6_tester_22 (by decide) ?_
      refine lv_iadd hx hb dX6_tester_23 ?_
      refine lv_istore_n (lv' := [(2, .int (hd + 1)), (0, .ref m0), (1, .int p1)]) hx hb dX6_tester_24 rfl hl (by decide) rfl (fun ls hl => ?_)
      refine lv_aload_n hx hb dX6_tester_25 rfl (lv_at hl 1 rfl) ?_
      refine lv_iload_n hx hb dX6_tester_26 rfl (lv_at hl 2 rfl) ?_
      refine lv_iconst (v := 1) hx hb dX6_tester_27 (by decide) ?_
      refine lv_isub hx hb dX6_tester_28 ?_
      refine va_put (D := G.1) (ci := 8) (v := .int (p1 - 1)) (ty := .int) (C := RX6) (T := TX6) (N := 27) hx hb hts iX6 tyX6 tyX6_ok nmX6 hown hK.1 hP hD hS 0 rfl rfl 2 (by decide) (hts (.fieldLink RX6 96 "RightsStepsModel" "hand" "I") (by decide +kernel)) (fun _ h9 => h9) rfl (by decide +kernel) rfl rfl (Nat.le_of_ble_eq_true rfl) dX6_tester_29 (fun H locs hP hD hS => ?_)
      have hP : va_P G.1 vwCl [(m0, .inr (8, [.int 0, .long mt, .int (p1 - 1), .int mmd, .ref bkd, .ref btr, .ref bdl, .int typ, .int rd, .ref btp, .int giv, .ref bgv, .ref bse, .ref bro, .ref bop, .ref baw, .ref bsd, .ref bot, .ref bct, .ref bcr, .ref bud, .ref blo, .ref bwl, .int us, .ref bub, .ref bul, .ref bua]))] H := hP
      have hD : va_D A [(m0, .inr (8, [.int 0, .long mt, .int (p1 - 1), .int mmd, .ref bkd, .ref btr, .ref bdl, .int typ, .int rd, .ref btp, .int giv, .ref bgv, .ref bse, .ref bro, .ref bop, .ref baw, .ref bsd, .ref bot, .ref bct, .ref bcr, .ref bud, .ref blo, .ref bwl, .int us, .ref bub, .ref bul, .ref bua]))] := hD
      refine lv_iload_n hx hb dX6_tester_32 rfl (lv_at hl 0 rfl) ?_
      exact W.iret (v := (hd + 1)) hx hb hr (fun t ht hW => ⟨⟨(hd + 1), (0, (p1 - 1)), rfl, hF.symm, by rw [ht]; exact hP.sub [0] rfl, hD.sub [0] (by decide) rfl⟩, hS.F ht⟩) hS.2.2 dX6_tester_33
    · have hF := if_f hF c_12
      refine lv_bipush (v := (-2)) hx hb dX6_tester_15 (by decide) ?_
      exact W.iret (v := (-2)) hx hb hr (fun t ht hW => ⟨⟨(-2), (0, hd), rfl, hF.symm, by rw [ht]; exact hP.sub [0] rfl, hD.sub [0] (by decide) rfl⟩, hS.F ht⟩) hS.2.2 dX6_tester_17
