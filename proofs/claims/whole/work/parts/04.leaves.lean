def F_X2_add (first : Int32) (size : Int32) (nums : Nat → Int32) (p1 : Int32) : Int32 × (Nat → Int32) :=
  (if size < 200 then (if (first + size) < 200 then ((size + 1), (upd nums ((first + size) : Int32).toNatClampNeg p1)) else ((size + 1), (upd nums (((first + size) - 200) : Int32).toNatClampNeg p1))) else (size, nums))
set_option maxHeartbeats 4000000 in
set_option maxRecDepth 100000 in
theorem c_X2_add (l : Launch) (G : gG) (h0 h1 : Nat) (sz : Nat) (first : Int32) (size : Int32) (nums : Nat → Int32) (p1 : Int32) (hf : vp_in first 201) (hz : vp_in size 201) : Met l yX2_add wsX2_add ({ frames := 0, cells := 0, slots := 0, locals := 0 }) (va_Pc [.ref h0, .int p1] (pR G [(h0, .inr (4, [.ref h1, .int first, .int size])), (h1, .inl (G.2 0, 200, .inl nums))] sz)) (va_Qv (fun (u : Int32 × (Nat → Int32)) => u = F_X2_add first size nums p1) (fun u t => pO G [(h0, .inr (4, [.ref h1, .int first, .int u.1])), (h1, .inl (G.2 0, 200, .inl u.2))] (va_A [(h0, .inr (4, [.ref h1, .int first, .int size])), (h1, .inl (G.2 0, 200, .inl nums))] sz) t) (va_A [(h0, .inr (4, [.ref h1, .int first, .int size])), (h1, .inl (G.2 0, 200, .inl nums))] sz)) 0 0 (va_A [(h0, .inr (4, [.ref h1, .int first, .int size])), (h1, .inl (G.2 0, 200, .inl nums))] sz) := by
  refine Met.ofW (cc := cX2_add) (maxL := 3) (ret := none) (by decide) rfl ?_
  intro p e s m args below meth c s₁ B hml hv
  obtain ⟨rfl, hsz, hP, hK, hD0⟩ := hv
  have hx := B.exec
  have hb := B.bytes
  have hr := B.returns
  have hts := atoms_spec (ws := wsX2_add) B.pre
  have hown : s.vm.findClass RX2 = some m.cls := findClass_of_methodNamed B.named
  have hlocks := B.notSynchronized
  subst hsz
  have iX2 : ∀ w ∈ wsX20, w ∈ wsX2_add := by decide +kernel
  have hD := hD0.self (sz := s.heap.size)
  generalize hAe : va_A [(h0, .inr (4, [.ref h1, .int first, .int size])), (h1, .inl (G.2 0, 200, .inl nums))] s.heap.size = A at hD ⊢
  have hA : ∀ q : Nat, s.heap.size ≤ q → A q := fun q h => by rw [← hAe]; exact Or.inr h
  have hS : va_S A s.heap s.heap [] := va_S.rf
  have hP : va_P G.1 vwCl [(h0, .inr (4, [.ref h1, .int first, .int size])), (h1, .inl (G.2 0, 200, .inl nums))] s.heap := hP
  have hl := lv_entry ([.ref h0, .int p1]) (n := 3) (Nat.le_of_ble_eq_true rfl)
  rw [lg_entry_eq]
  generalize (lg_sl ([.ref h0, .int p1]) ++ List.replicate (3 - (lg_sl ([.ref h0, .int p1])).length) Slot.unset).toArray = ls at hl ⊢
  have hl : lv_has ls 3 [(0, .ref h0), (1, .int p1)] := hl
  have hF : F_X2_add first size nums p1 = F_X2_add first size nums p1 := rfl
  refine lv_aload_n hx hb dX2_add_0 rfl (lv_at hl 0 rfl) ?_
  refine va_get (D := G.1) (ci := 4) (v := .int size) (C := RX2) (T := TX2) (N := 3) hx hb hts iX2 hown hK.1 hP 0 rfl rfl 2 (by decide) (hts (.fieldLink RX2 15 "RightsSteps$Tape" "size" "I") (by decide +kernel)) (fun _ h9 => h9) rfl dX2_add_1 ?_
  refine lv_aload_n hx hb dX2_add_4 rfl (lv_at hl 0 rfl) ?_
  refine va_get (D := G.1) (ci := 4) (v := .ref h1) (C := RX2) (T := TX2) (N := 3) hx hb hts iX2 hown hK.1 hP 0 rfl rfl 0 (by decide) (hts (.fieldLink RX2 11 "RightsSteps$Tape" "numbers" "[I") (by decide +kernel)) (fun _ h9 => h9) rfl dX2_add_5 ?_
  refine va_alen (v := 200) hx hb hK.1 hP 1 0 rfl rfl rfl dX2_add_8 ?_
  refine lv_icmp_lt (tgt := 13) hx hb dX2_add_9 (by decide) (fun c_9 => ?_) (fun c_9 => ?_)
  · have hF := if_t hF c_9
    refine lv_aload_n hx hb dX2_add_13 rfl (lv_at hl 0 rfl) ?_
    refine va_get (D := G.1) (ci := 4) (v := .int first) (C := RX2) (T := TX2) (N := 3) hx hb hts iX2 hown hK.1 hP 0 rfl rfl 1 (by decide) (hts (.fieldLink RX2 19 "RightsSteps$Tape" "first" "I") (by decide +kernel)) (fun _ h9 => h9) rfl dX2_add_14 ?_
    refine lv_aload_n hx hb dX2_add_17 rfl (lv_at hl 0 rfl) ?_
    refine va_get (D := G.1) (ci := 4) (v := .int size) (C := RX2) (T := TX2) (N := 3) hx hb hts iX2 hown hK.1 hP 0 rfl rfl 2 (by decide) (hts (.fieldLink RX2 15 "RightsSteps$Tape" "size" "I") (by decide +kernel)) (fun _ h9 => h9) rfl dX2_add_18 ?_
    refine lv_iadd hx hb dX2_add_21 ?_
    refine lv_istore_n (lv' := [(2, .int (first + size)), (0, .ref h0), (1, .int p1)]) hx hb dX2_add_22 rfl hl (by decide) rfl (fun ls hl => ?_)
    refine lv_iload_n hx hb dX2_add_23 rfl (lv_at hl 0 rfl) ?_
    refine lv_aload_n hx hb dX2_add_24 rfl (lv_at hl 1 rfl) ?_
    refine va_get (D := G.1) (ci := 4) (v := .ref h1) (C := RX2) (T := TX2) (N := 3) hx hb hts iX2 hown hK.1 hP 0 rfl rfl 0 (by decide) (hts (.fieldLink RX2 11 "RightsSteps$Tape" "numbers" "[I") (by decide +kernel)) (fun _ h9 => h9) rfl dX2_add_25 ?_
    refine va_alen (v := 200) hx hb hK.1 hP 1 0 rfl rfl rfl dX2_add_28 ?_
    refine lv_icmp_lt (tgt := 40) hx hb dX2_add_29 (by decide) (fun c_29 => ?_) (fun c_29 => ?_)
    · have hF := if_t hF c_29
      refine lv_aload_n hx hb dX2_add_40 rfl (lv_at hl 1 rfl) ?_
      refine va_get (D := G.1) (ci := 4) (v := .ref h1) (C := RX2) (T := TX2) (N := 3) hx hb hts iX2 hown hK.1 hP 0 rfl rfl 0 (by decide) (hts (.fieldLink RX2 11 "RightsSteps$Tape" "numbers" "[I") (by decide +kernel)) (fun _ h9 => h9) rfl dX2_add_41 ?_
      refine lv_iload_n hx hb dX2_add_44 rfl (lv_at hl 0 rfl) ?_
      refine lv_iload_n hx hb dX2_add_45 rfl (lv_at hl 2 rfl) ?_
      refine va_iast (f := nums) hx hb hK.1 hP hD hS 1 0 rfl rfl (tp_a hf hz c_29) dX2_add_46 (fun H locs hP hD hS => ?_)
      have hP : va_P G.1 vwCl [(h0, .inr (4, [.ref h1, .int first, .int size])), (h1, .inl (G.2 0, 200, .inl (upd nums ((first + size) : Int32).toNatClampNeg p1)))] H := hP
      have hD : va_D A [(h0, .inr (4, [.ref h1, .int first, .int size])), (h1, .inl (G.2 0, 200, .inl (upd nums ((first + size) : Int32).toNatClampNeg p1)))] := hD
      refine lv_aload_n hx hb dX2_add_47 rfl (lv_at hl 1 rfl) ?_
      refine lv_dup hx hb dX2_add_48 rfl ?_
      refine va_get (D := G.1) (ci := 4) (v := .int size) (C := RX2) (T := TX2) (N := 3) hx hb hts iX2 hown hK.1 hP 0 rfl rfl 2 (by decide) (hts (.fieldLink RX2 15 "RightsSteps$Tape" "size" "I") (by decide +kernel)) (fun _ h9 => h9) rfl dX2_add_49 ?_
      refine lv_iconst (v := 1) hx hb dX2_add_52 (by decide) ?_
      refine lv_iadd hx hb dX2_add_53 ?_
      refine va_put (D := G.1) (ci := 4) (v := .int (size + 1)) (ty := .int) (C := RX2) (T := TX2) (N := 3) hx hb hts iX2 tyX2 tyX2_ok nmX2 hown hK.1 hP hD hS 0 rfl rfl 2 (by decide) (hts (.fieldLink RX2 15 "RightsSteps$Tape" "size" "I") (by decide +kernel)) (fun _ h9 => h9) rfl (by decide +kernel) rfl rfl (Nat.le_of_ble_eq_true rfl) dX2_add_54 (fun H locs hP hD hS => ?_)
      have hP : va_P G.1 vwCl [(h0, .inr (4, [.ref h1, .int first, .int (size + 1)])), (h1, .inl (G.2 0, 200, .inl (upd nums ((first + size) : Int32).toNatClampNeg p1)))] H := hP
      have hD : va_D A [(h0, .inr (4, [.ref h1, .int first, .int (size + 1)])), (h1, .inl (G.2 0, 200, .inl (upd nums ((first + size) : Int32).toNatClampNeg p1)))] := hD
      exact W.vret hx hb hr (fun t ht hW => ⟨⟨((size + 1), (upd nums ((first + size) : Int32).toNatClampNeg p1)), rfl, hF.symm, by rw [ht]; exact hP.sub [0, 1] rfl, hD.sub [0, 1] (by decide) rfl⟩, hS.F ht⟩) hS.2.2 dX2_add_57
    · have hF := if_f hF c_29
      refine lv_iload_n hx hb dX2_add_32 rfl (lv_at hl 0 rfl) ?_
      refine lv_aload_n hx hb dX2_add_33 rfl (lv_at hl 1 rfl) ?_
      refine va_get (D := G.1) (ci := 4) (v := .ref h1) (C := RX2) (T := TX2) (N := 3) hx hb hts iX2 hown hK.1 hP 0 rfl rfl 0 (by decide) (hts (.fieldLink RX2 11 "RightsSteps$Tape" "numbers" "[I") (by decide +kernel)) (fun _ h9 => h9) rfl dX2_add_34 ?_
      refine va_alen (v := 200) hx hb hK.1 hP 1 0 rfl rfl rfl dX2_add_37 ?_
      refine lv_isub hx hb dX2_add_38 ?_
      refine lv_istore_n (lv' := [(2, .int ((first + size) - 200)), (0, .ref h0), (1, .int p1)]) hx hb dX2_add_39 rfl hl (by decide) rfl (fun ls hl => ?_)
      refine lv_aload_n hx hb dX2_add_40 rfl (lv_at hl 1 rfl) ?_
      refine va_get (D := G.1) (ci := 4) (v := .ref h1) (C := RX2) (T := TX2) (N := 3) hx hb hts iX2 hown hK.1 hP 0 rfl rfl 0 (by decide) (hts (.fieldLink RX2 11 "RightsSteps$Tape" "numbers" "[I") (by decide +kernel)) (fun _ h9 => h9) rfl dX2_add_41 ?_
      refine lv_iload_n hx hb dX2_add_44 rfl (lv_at hl 0 rfl) ?_
      refine lv_iload_n hx hb dX2_add_45 rfl (lv_at hl 2 rfl) ?_
      refine va_iast (f := nums) hx hb hK.1 hP hD hS 1 0 rfl rfl (tp_b hf hz c_9 c_29) dX2_add_46 (fun H locs hP hD hS => ?_)
      have hP : va_P G.1 vwCl [(h0, .inr (4, [.ref h1, .int first, .int size])), (h1, .inl (G.2 0, 200, .inl (upd nums (((first + size) - 200) : Int32).toNatClampNeg p1)))] H := hP
      have hD : va_D A [(h0, .inr (4, [.ref h1, .int first, .int size])), (h1, .inl (G.2 0, 200, .inl (upd nums (((first + size) - 200) : Int32).toNatClampNeg p1)))] := hD
      refine lv_aload_n hx hb dX2_add_47 rfl (lv_at hl 1 rfl) ?_
      refine lv_dup hx hb dX2_add_48 rfl ?_
      refine va_get (D := G.1) (ci := 4) (v := .int size) (C := RX2) (T := TX2) (N := 3) hx hb hts iX2 hown hK.1 hP 0 rfl rfl 2 (by decide) (hts (.fieldLink RX2 15 "RightsSteps$Tape" "size" "I") (by decide +kernel)) (fun _ h9 => h9) rfl dX2_add_49 ?_
      refine lv_iconst (v := 1) hx hb dX2_add_52 (by decide) ?_
      refine lv_iadd hx hb dX2_add_53 ?_
      refine va_put (D := G.1) (ci := 4) (v := .int (size + 1)) (ty := .int) (C := RX2) (T := TX2) (N := 3) hx hb hts iX2 tyX2 tyX2_ok nmX2 hown hK.1 hP hD hS 0 rfl rfl 2 (by decide) (hts (.fieldLink RX2 15 "RightsSteps$Tape" "size" "I") (by decide +kernel)) (fun _ h9 => h9) rfl (by decide +kernel) rfl rfl (Nat.le_of_ble_eq_true rfl) dX2_add_54 (fun H locs hP hD hS => ?_)
      have hP : va_P G.1 vwCl [(h0, .inr (4, [.ref h1, .int first, .int (size + 1)])), (h1, .inl (G.2 0, 200, .inl (upd nums (((first + size) - 200) : Int32).toNatClampNeg p1)))] H := hP
      have hD : va_D A [(h0, .inr (4, [.ref h1, .int first, .int (size + 1)])), (h1, .inl (G.2 0, 200, .inl (upd nums (((first + size) - 200) : Int32).toNatClampNeg p1)))] := hD
      exact W.vret hx hb hr (fun t ht hW => ⟨⟨((size + 1), (upd nums (((first + size) - 200) : Int32).toNatClampNeg p1)), rfl, hF.symm, by rw [ht]; exact hP.sub [0, 1] rfl, hD.sub [0, 1] (by decide) rfl⟩, hS.F ht⟩) hS.2.2 dX2_add_57
  · have hF := if_f hF c_9
    exact W.vret hx hb hr (fun t ht hW => ⟨⟨(size, nums), rfl, hF.symm, by rw [ht]; exact hP.sub [0, 1] rfl, hD.sub [0, 1] (by decide) rfl⟩, hS.F ht⟩) hS.2.2 dX2_add_12

def F_X2_takeFirst (first : Int32) (size : Int32) (nums : Nat → Int32) : Int32 × Int32 × Int32 :=
  (if first < 200 then ((nums (first : Int32).toNatClampNeg), ((first + 1), (size - 1))) else ((nums (0 : Int32).toNatClampNeg), (1, (size - 1))))
set_option maxHeartbeats 4000000 in
set_option maxRecDepth 100000 in
theorem c_X2_takeFirst (l : Launch) (G : gG) (h0 h1 : Nat) (sz : Nat) (first : Int32) (size : Int32) (nums : Nat → Int32) (hf : vp_in first 201) : Met l yX2_takeFirst wsX2_takeFirst ({ frames := 0, cells := 0, slots := 0, locals := 0 }) (va_Pc [.ref h0] (pR G [(h0, .inr (4, [.ref h1, .int first, .int size])), (h1, .inl (G.2 0, 200, .inl nums))] sz)) (va_Qi (fun (r : Int32) (u : Int32 × Int32) => (r, u) = F_X2_takeFirst first size nums) (fun u t => pO G [(h0, .inr (4, [.ref h1, .int u.1, .int u.2])), (h1, .inl (G.2 0, 200, .inl nums))] (va_A [(h0, .inr (4, [.ref h1, .int first, .int size])), (h1, .inl (G.2 0, 200, .inl nums))] sz) t) (va_A [(h0, .inr (4, [.ref h1, .int first, .int size])), (h1, .inl (G.2 0, 200, .inl nums))] sz)) 0 0 (va_A [(h0, .inr (4, [.ref h1, .int first, .int size])), (h1, .inl (G.2 0, 200, .inl nums))] sz) := by
  refine Met.ofW (cc := cX2_takeFirst) (maxL := 2) (ret := (some .int)) (by decide) rfl ?_
  intro p e s m args below meth c s₁ B hml hv
  obtain ⟨rfl, hsz, hP, hK, hD0⟩ := hv
  have hx := B.exec
  have hb := B.bytes
  have hr := B.returns
  have hts := atoms_spec (ws := wsX2_takeFirst) B.pre
  have hown : s.vm.findClass RX2 = some m.cls := findClass_of_methodNamed B.named
  have hlocks := B.notSynchronized
  subst hsz
  have iX2 : ∀ w ∈ wsX20, w ∈ wsX2_takeFirst := by decide +kernel
  have hD := hD0.self (sz := s.heap.size)
  generalize hAe : va_A [(h0, .inr (4, [.ref h1, .int first, .int size])), (h1, .inl (G.2 0, 200, .inl nums))] s.heap.size = A at hD ⊢
  have hA : ∀ q : Nat, s.heap.size ≤ q → A q := fun q h => by rw [← hAe]; exact Or.inr h
  have hS : va_S A s.heap s.heap [] := va_S.rf
  have hP : va_P G.1 vwCl [(h0, .inr (4, [.ref h1, .int first, .int size])), (h1, .inl (G.2 0, 200, .inl nums))] s.heap := hP
  have hl := lv_entry ([.ref h0]) (n := 2) (Nat.le_of_ble_eq_true rfl)
  rw [lg_entry_eq]
  generalize (lg_sl ([.ref h0]) ++ List.replicate (2 - (lg_sl ([.ref h0])).length) Slot.unset).toArray = ls at hl ⊢
  have hl : lv_has ls 2 [(0, .ref h0)] := hl
  have hF : F_X2_takeFirst first size nums = F_X2_takeFirst first size nums := rfl
  refine lv_aload_n hx hb dX2_takeFirst_0 rfl (lv_at hl 0 rfl) ?_
  refine va_get (D := G.1) (ci := 4) (v := .int first) (C := RX2) (T := TX2) (N := 3) hx hb hts iX2 hown hK.1 hP 0 rfl rfl 1 (by decide) (hts (.fieldLink RX2 19 "RightsSteps$Tape" "first" "I") (by decide +kernel)) (fun _ h9 => h9) rfl dX2_takeFirst_1 ?_
  refine lv_aload_n hx hb dX2_takeFirst_4 rfl (lv_at hl 0 rfl) ?_
  refine va_get (D := G.1) (ci := 4) (v := .ref h1) (C := RX2) (T := TX2) (N := 3) hx hb hts iX2 hown hK.1 hP 0 rfl rfl 0 (by decide) (hts (.fieldLink RX2 11 "RightsSteps$Tape" "numbers" "[I") (by decide +kernel)) (fun _ h9 => h9) rfl dX2_takeFirst_5 ?_
  refine va_alen (v := 200) hx hb hK.1 hP 1 0 rfl rfl rfl dX2_takeFirst_8 ?_
  refine lv_icmp_lt (tgt := 17) hx hb dX2_takeFirst_9 (by decide) (fun c_9 => ?_) (fun c_9 => ?_)
  · have hF := if_t hF c_9
    refine lv_aload_n hx hb dX2_takeFirst_17 rfl (lv_at hl 0 rfl) ?_
    refine va_get (D := G.1) (ci := 4) (v := .ref h1) (C := RX2) (T := TX2) (N := 3) hx hb hts iX2 hown hK.1 hP 0 rfl rfl 0 (by decide) (hts (.fieldLink RX2 11 "RightsSteps$Tape" "numbers" "[I") (by decide +kernel)) (fun _ h9 => h9) rfl dX2_takeFirst_18 ?_
    refine lv_aload_n hx hb dX2_takeFirst_21 rfl (lv_at hl 0 rfl) ?_
    refine va_get (D := G.1) (ci := 4) (v := .int first) (C := RX2) (T := TX2) (N := 3) hx hb hts iX2 hown hK.1 hP 0 rfl rfl 1 (by decide) (hts (.fieldLink RX2 19 "RightsSteps$Tape" "first" "I") (by decide +kernel)) (fun _ h9 => h9) rfl dX2_takeFirst_22 ?_
    refine va_iald (f := nums) hx hb hK.1 hP 1 0 rfl rfl (in_sub hf (i_lt c_9)) dX2_takeFirst_25 ?_
    refine lv_istore_n (lv' := [(1, .int (nums (first : Int32).toNatClampNeg)), (0, .ref h0)]) hx hb dX2_takeFirst_26 rfl hl (by decide) rfl (fun ls hl => ?_)
    refine lv_aload_n hx hb dX2_takeFirst_27 rfl (lv_at hl 1 rfl) ?_
    refine lv_dup hx hb dX2_takeFirst_28 rfl ?_
    refine va_get (D := G.1) (ci := 4) (v := .int first) (C := RX2) (T := TX2) (N := 3) hx hb hts iX2 hown hK.1 hP 0 rfl rfl 1 (by decide) (hts (.fieldLink RX2 19 "RightsSteps$Tape" "first" "I") (by decide +kernel)) (fun _ h9 => h9) rfl dX2_takeFirst_29 ?_
    refine lv_iconst (v := 1) hx hb dX2_takeFirst_32 (by decide) ?_
    refine lv_iadd hx hb dX2_takeFirst_33 ?_
    refine va_put (D := G.1) (ci := 4) (v := .int (first + 1)) (ty := .int) (C := RX2) (T := TX2) (N := 3) hx hb hts iX2 tyX2 tyX2_ok nmX2 hown hK.1 hP hD hS 0 rfl rfl 1 (by decide) (hts (.fieldLink RX2 19 "RightsSteps$Tape" "first" "I") (by decide +kernel)) (fun _ h9 => h9) rfl (by decide +kernel) rfl rfl (Nat.le_of_ble_eq_true rfl) dX2_takeFirst_34 (fun H locs hP hD hS => ?_)
    have hP : va_P G.1 vwCl [(h0, .inr (4, [.ref h1, .int (first + 1), .int size])), (h1, .inl (G.2 0, 200, .inl nums))] H := hP
    have hD : va_D A [(h0, .inr (4, [.ref h1, .int (first + 1), .int size])), (h1, .inl (G.2 0, 200, .inl nums))] := hD
    refine lv_aload_n hx hb dX2_takeFirst_37 rfl (lv_at hl 1 rfl) ?_
    refine lv_dup hx hb dX2_takeFirst_38 rfl ?_
    refine va_get (D := G.1) (ci := 4) (v := .int size) (C := RX2) (T := TX2) (N := 3) hx hb hts iX2 hown hK.1 hP 0 rfl rfl 2 (by decide) (hts (.fieldLink RX2 15 "RightsSteps$Tape" "size" "I") (by decide +kernel)) (fun _ h9 => h9) rfl dX2_takeFirst_39 ?_
    refine lv_iconst (v := 1) hx hb dX2_takeFirst_42 (by decide) ?_
    refine lv_isub hx hb dX2_takeFirst_43 ?_
    refine va_put (D := G.1) (ci := 4) (v := .int (size - 1)) (ty := .int) (C := RX2) (T := TX2) (N := 3) hx hb hts iX2 tyX2 tyX2_ok nmX2 hown hK.1 hP hD hS 0 rfl rfl 2 (by decide) (hts (.fieldLink RX2 15 "RightsSteps$Tape" "size" "I") (by decide +kernel)) (fun _ h9 => h9) rfl (by decide +kernel) rfl rfl (Nat.le_of_ble_eq_true rfl) dX2_takeFirst_44 (fun H locs hP hD hS => ?_)
    have hP : va_P G.1 vwCl [(h0, .inr (4, [.ref h1, .int (first + 1), .int (size - 1)])), (h1, .inl (G.2 0, 200, .inl nums))] H := hP
    have hD : va_D A [(h0, .inr (4, [.ref h1, .int (first + 1), .int (size - 1)])), (h1, .inl (G.2 0, 200, .inl nums))] := hD
    refine lv_iload_n hx hb dX2_takeFirst_47 rfl (lv_at hl 0 rfl) ?_
    exact W.iret (v := (nums (first : Int32).toNatClampNeg)) hx hb hr (fun t ht hW => ⟨⟨(nums (first : Int32).toNatClampNeg), ((first + 1), (size - 1)), rfl, hF.symm, by rw [ht]; exact hP.sub [0, 1] rfl, hD.sub [0, 1] (by decide) rfl⟩, hS.F ht⟩) hS.2.2 dX2_takeFirst_48
  · have hF := if_f hF c_9
    refine lv_aload_n hx hb dX2_takeFirst_12 rfl (lv_at hl 0 rfl) ?_
    refine lv_iconst (v := 0) hx hb dX2_takeFirst_13 (by decide) ?_
    refine va_put (D := G.1) (ci := 4) (v := .int 0) (ty := .int) (C := RX2) (T := TX2) (N := 3) hx hb hts iX2 tyX2 tyX2_ok nmX2 hown hK.1 hP hD hS 0 rfl rfl 1 (by decide) (hts (.fieldLink RX2 19 "RightsSteps$Tape" "first" "I") (by decide +kernel)) (fun _ h9 => h9) rfl (by decide +kernel) rfl rfl (Nat.le_of_ble_eq_true rfl) dX2_takeFirst_14 (fun H locs hP hD hS => ?_)
    have hP : va_P G.1 vwCl [(h0, .inr (4, [.ref h1, .int 0, .int size])), (h1, .inl (G.2 0, 200, .inl nums))] H := hP
    have hD : va_D A [(h0, .inr (4, [.ref h1, .int 0, .int size])), (h1, .inl (G.2 0, 200, .inl nums))] := hD
    refine lv_aload_n hx hb dX2_takeFirst_17 rfl (lv_at hl 0 rfl) ?_
    refine va_get (D := G.1) (ci := 4) (v := .ref h1) (C := RX2) (T := TX2) (N := 3) hx hb hts iX2 hown hK.1 hP 0 rfl rfl 0 (by decide) (hts (.fieldLink RX2 11 "RightsSteps$Tape" "numbers" "[I") (by decide +kernel)) (fun _ h9 => h9) rfl dX2_takeFirst_18 ?_
    refine lv_aload_n hx hb dX2_takeFirst_21 rfl (lv_at hl 0 rfl) ?_
    refine va_get (D := G.1) (ci := 4) (v := .int 0) (C := RX2) (T := TX2) (N := 3) hx hb hts iX2 hown hK.1 hP 0 rfl rfl 1 (by decide) (hts (.fieldLink RX2 19 "RightsSteps$Tape" "first" "I") (by decide +kernel)) (fun _ h9 => h9) rfl dX2_takeFirst_22 ?_
    refine va_iald (f := nums) hx hb hK.1 hP 1 0 rfl rfl (vp_in_iff.mpr (by decide)) dX2_takeFirst_25 ?_
    refine lv_istore_n (lv' := [(1, .int (nums (0 : Int32).toNatClampNeg)), (0, .ref h0)]) hx hb dX2_takeFirst_26 rfl hl (by decide) rfl (fun ls hl => ?_)
    refine lv_aload_n hx hb dX2_takeFirst_27 rfl (lv_at hl 1 rfl) ?_
    refine lv_dup hx hb dX2_takeFirst_28 rfl ?_
    refine va_get (D := G.1) (ci := 4) (v := .int 0) (C := RX2) (T := TX2) (N := 3) hx hb hts iX2 hown hK.1 hP 0 rfl rfl 1 (by decide) (hts (.fieldLink RX2 19 "RightsSteps$Tape" "first" "I") (by decide +kernel)) (fun _ h9 => h9) rfl dX2_takeFirst_29 ?_
    refine lv_iconst (v := 1) hx hb dX2_takeFirst_32 (by decide) ?_
    refine lv_iadd hx hb dX2_takeFirst_33 ?_
    refine W.eq (g2 := F0 m 34 ls (.int 1 :: .ref h0 :: [])) rfl ?_
    refine va_put (D := G.1) (ci := 4) (v := .int 1) (ty := .int) (C := RX2) (T := TX2) (N := 3) hx hb hts iX2 tyX2 tyX2_ok nmX2 hown hK.1 hP hD hS 0 rfl rfl 1 (by decide) (hts (.fieldLink RX2 19 "RightsSteps$Tape" "first" "I") (by decide +kernel)) (fun _ h9 => h9) rfl (by decide +kernel) rfl rfl (Nat.le_of_ble_eq_true rfl) dX2_takeFirst_34 (fun H locs hP hD hS => ?_)
    have hP : va_P G.1 vwCl [(h0, .inr (4, [.ref h1, .int 1, .int size])), (h1, .inl (G.2 0, 200, .inl nums))] H := hP
    have hD : va_D A [(h0, .inr (4, [.ref h1, .int 1, .int size])), (h1, .inl (G.2 0, 200, .inl nums))] := hD
    refine lv_aload_n hx hb dX2_takeFirst_37 rfl (lv_at hl 1 rfl) ?_
    refine lv_dup hx hb dX2_takeFirst_38 rfl ?_
    refine va_get (D := G.1) (ci := 4) (v := .int size) (C := RX2) (T := TX2) (N := 3) hx hb hts iX2 hown hK.1 hP 0 rfl rfl 2 (by decide) (hts (.fieldLink RX2 15 "RightsSteps$Tape" "size" "I") (by decide +kernel)) (fun _ h9 => h9) rfl dX2_takeFirst_39 ?_
    refine lv_iconst (v := 1) hx hb dX2_takeFirst_42 (by decide) ?_
    refine lv_isub hx hb dX2_takeFirst_43 ?_
    refine va_put (D := G.1) (ci := 4) (v := .int (size - 1)) (ty := .int) (C := RX2) (T := TX2) (N := 3) hx hb hts iX2 tyX2 tyX2_ok nmX2 hown hK.1 hP hD hS 0 rfl rfl 2 (by decide) (hts (.fieldLink RX2 15 "RightsSteps$Tape" "size" "I") (by decide +kernel)) (fun _ h9 => h9) rfl (by decide +kernel) rfl rfl (Nat.le_of_ble_eq_true rfl) dX2_takeFirst_44 (fun H locs hP hD hS => ?_)
    have hP : va_P G.1 vwCl [(h0, .inr (4, [.ref h1, .int 1, .int (size - 1)])), (h1, .inl (G.2 0, 200, .inl nums))] H := hP
    have hD : va_D A [(h0, .inr (4, [.ref h1, .int 1, .int (size - 1)])), (h1, .inl (G.2 0, 200, .inl nums))] := hD
    refine lv_iload_n hx hb dX2_takeFirst_47 rfl (lv_at hl 0 rfl) ?_
    exact W.iret (v := (nums (0 : Int32).toNatClampNeg)) hx hb hr (fun t ht hW => ⟨⟨(nums (0 : Int32).toNatClampNeg), (1, (size - 1)), rfl, hF.symm, by rw [ht]; exact hP.sub [0, 1] rfl, hD.sub [0, 1] (by decide) rfl⟩, hS.F ht⟩) hS.2.2 dX2_takeFirst_48

def FL_X0_has_2 (gsz : Int32) (seeds : Nat → Int32) (p1 : Int32) : Nat → Int32 → Int32
  | 0, _ => 0
  | n + 1, k => (if gsz ≤ k then 0 else (if 256 ≤ k then 0 else (if (seeds (k : Int32).toNatClampNeg) = p1 then 1 else (FL_X0_has_2 gsz seeds p1 n (k + 1)))))
def F_X0_has (gsz : Int32) (seeds : Nat → Int32) (p1 : Int32) : Int32 :=
  (FL_X0_has_2 gsz seeds p1 258 0)
set_option maxHeartbeats 4000000 in
set_option maxRecDepth 100000 in
theorem c_X0_has (l : Launch) (G : gG) (h0 h1 : Nat) (sz : Nat) (gsz : Int32) (seeds : Nat → Int32) (p1 : Int32) : Met l yX0_has wsX0_has ({ frames := 0, cells := 0, slots := 0, locals := 0 }) (va_Pc [.ref h0, .int p1] (pR G [(h0, .inr (2, [.ref h1, .int gsz])), (h1, .inl (G.2 0, 256, .inl seeds))] sz)) (pQ (.int (F_X0_has gsz seeds p1))) 0 0 (fun _ => False) := by
  refine Met.ofW (cc := cX0_has) (maxL := 3) (ret := (some .boolean)) (by decide) rfl ?_
  intro p e s m args below meth c s₁ B hml hv
  obtain ⟨rfl, hsz, hP, hK, hD0⟩ := hv
  have hx := B.exec
  have hb := B.bytes
  have hr := B.returns
  have hts := atoms_spec (ws := wsX0_has) B.pre
  have hown : s.vm.findClass RX0 = some m.cls := findClass_of_methodNamed B.named
  have hlocks := B.notSynchronized
  subst hsz
  have iX0 : ∀ w ∈ wsX00, w ∈ wsX0_has := by decide +kernel
  have hD := hD0
  have hP : va_P G.1 vwCl [(h0, .inr (2, [.ref h1, .int gsz])), (h1, .inl (G.2 0, 256, .inl seeds))] s.heap := hP
  have hl := lv_entry ([.ref h0, .int p1]) (n := 3) (Nat.le_of_ble_eq_true rfl)
  rw [lg_entry_eq]
  generalize (lg_sl ([.ref h0, .int p1]) ++ List.replicate (3 - (lg_sl ([.ref h0, .int p1])).length) Slot.unset).toArray = ls at hl ⊢
  have hl : lv_has ls 3 [(0, .ref h0), (1, .int p1)] := hl
  have hF : F_X0_has gsz seeds p1 = F_X0_has gsz seeds p1 := rfl
  refine lv_iconst (v := 0) hx hb dX0_has_0 (by decide) ?_
  refine lv_istore_n (lv' := [(2, .int 0), (0, .ref h0), (1, .int p1)]) hx hb dX0_has_1 rfl hl (by decide) rfl (fun ls hl => ?_)
  refine W.loop (σ := Int32) (fun (n : Nat) (v : Int32) (H : Heap) (locs : List Loc) (ls : Array Slot) => (vp_in v 257) ∧ 257 < v.toNatClampNeg + n ∧ (F_X0_has gsz seeds p1 = FL_X0_has_2 gsz seeds p1 n v) ∧ H = s.heap ∧ locs = [] ∧ va_P G.1 vwCl [(h0, .inr (2, [.ref h1, .int gsz])), (h1, .inl (G.2 0, 256, .inl seeds))] H ∧ lv_has ls 3 [(2, .int v), (0, .ref h0), (1, .int p1)]) ?_ ?_ 258 0 ⟨(vp_in_iff.mpr (by decide)), (by decide), hF, rfl, rfl, hP, lv_sub hl [0, 1, 2] rfl⟩
  · rintro k H locs ls ⟨hi0, hi1, _, _, _, _, _⟩
    exact absurd (hi_lt hi0) (by omega)
  · rintro n ih k H locs ls ⟨hi0, hi1, hF, rfl, rfl, hP, hl⟩
    have hP : va_P G.1 vwCl [(h0, .inr (2, [.ref h1, .int gsz])), (h1, .inl (G.2 0, 256, .inl seeds))] s.heap := hP
    have hl : lv_has ls 3 [(2, .int k), (0, .ref h0), (1, .int p1)] := hl
    have hF : F_X0_has gsz seeds p1 = FL_X0_has_2 gsz seeds p1 (n + 1) k := hF
    refine lv_iload_n hx hb dX0_has_2 rfl (lv_at hl 0 rfl) ?_
    refine lv_aload_n hx hb dX0_has_3 rfl (lv_at hl 1 rfl) ?_
    refine va_get (D := G.1) (ci := 2) (v := .int gsz) (C := RX0) (T := TX0) (N := 2) hx hb hts iX0 hown hK.1 hP 0 rfl rfl 1 (by decide) (hts (.fieldLink RX0 13 "RightsSteps$GivenSeeds" "size" "I") (by decide +kernel)) (fun _ h9 => h9) rfl dX0_has_4 ?_
    refine lv_icmp_ge (tgt := 37) hx hb dX0_has_7 (by decide) (fun c_7 => ?_) (fun c_7 => ?_)
    · have hF := if_t hF c_7
      refine lv_iconst (v := 0) hx hb dX0_has_37 (by decide) ?_
      exact W.zret (v := 0) (ty := .boolean) hx hb hr rfl (fun t ht hW => ⟨by rw [hF], ht⟩) (fun _ h => by cases h) dX0_has_38
    · have hF := if_f hF c_7
      refine lv_iload_n hx hb dX0_has_10 rfl (lv_at hl 0 rfl) ?_
      refine lv_aload_n hx hb dX0_has_11 rfl (lv_at hl 1 rfl) ?_
      refine va_get (D := G.1) (ci := 2) (v := .ref h1) (C := RX0) (T := TX0) (N := 2) hx hb hts iX0 hown hK.1 hP 0 rfl rfl 0 (by decide) (hts (.fieldLink RX0 9 "RightsSteps$GivenSeeds" "seeds" "[I") (by decide +kernel)) (fun _ h9 => h9) rfl dX0_has_12 ?_
      refine va_alen (v := 256) hx hb hK.1 hP 1 0 rfl rfl rfl dX0_has_15 ?_
      refine lv_icmp_ge (tgt := 37) hx hb dX0_has_16 (by decide) (fun c_16 => ?_) (fun c_16 => ?_)
      · have hF := if_t hF c_16
        refine lv_iconst (v := 0) hx hb dX0_has_37 (by decide) ?_
        exact W.zret (v := 0) (ty := .boolean) hx hb hr rfl (fun t ht hW => ⟨by rw [hF], ht⟩) (fun _ h => by cases h) dX0_has_38
      · have hF := if_f hF c_16
        refine lv_aload_n hx hb dX0_has_19 rfl (lv_at hl 1 rfl) ?_
        refine va_get (D := G.1) (ci := 2) (v := .ref h1) (C := RX0) (T := TX0) (N := 2) hx hb hts iX0 hown hK.1 hP 0 rfl rfl 0 (by decide) (hts (.fieldLink RX0 9 "RightsSteps$GivenSeeds" "seeds" "[I") (by decide +kernel)) (fun _ h9 => h9) rfl dX0_has_20 ?_
        refine lv_iload_n hx hb dX0_has_23 rfl (lv_at hl 0 rfl) ?_
        refine va_iald (f := seeds) hx hb hK.1 hP 1 0 rfl rfl (in_le (in_n0 hi0) c_16 rfl) dX0_has_24 ?_
        refine lv_iload_n hx hb dX0_has_25 rfl (lv_at hl 2 rfl) ?_
        refine lv_icmp_ne (tgt := 31) hx hb dX0_has_26 (by decide) (fun c_26 => ?_) (fun c_26 => ?_)
        · have hF := if_f hF c_26
          refine lv_iinc (v := (k + 1)) (lv' := [(2, .int (k + 1)), (0, .ref h0), (1, .int p1)]) hx hb dX0_has_31 hl (k := 0) rfl rfl (by decide) rfl (fun ls hl => ?_)
          refine lv_goto (tgt := 2) hx hb dX0_has_34 (by decide) ?_
          exact ih (k + 1) _ _ _ ⟨(i_inc hi0 (i_not c_16) rfl), (by rw [i_incN hi0 (by decide)]; omega), hF, rfl, rfl, hP, lv_sub hl [0, 1, 2] rfl⟩
        · have hF := if_t hF c_26
          refine lv_iconst (v := 1) hx hb dX0_has_29 (by decide) ?_
          exact W.zret (v := 1) (ty := .boolean) hx hb hr rfl (fun t ht hW => ⟨by rw [hF], ht⟩) (fun _ h => by cases h) dX0_has_30

def F_X0_add (gsz : Int32) (seeds : Nat → Int32) (p1 : Int32) : Int32 × (Nat → Int32) :=
  (if 256 ≤ gsz then (gsz, seeds) else ((gsz + 1), (upd seeds (gsz : Int32).toNatClampNeg p1)))
set_option maxHeartbeats 4000000 in
set_option maxRecDepth 100000 in
theorem c_X0_add (l : Launch) (G : gG) (h0 h1 : Nat) (sz : Nat) (gsz : Int32) (seeds : Nat → Int32) (p1 : Int32) (hz : ¬ gsz < 0) : Met l yX0_add wsX0_add ({ frames := 0, cells := 0, slots := 0, locals := 0 }) (va_Pc [.ref h0, .int p1] (pR G [(h0, .inr (2, [.ref h1, .int gsz])), (h1, .inl (G.2 0, 256, .inl seeds))] sz)) (va_Qv (fun (u : Int32 × (Nat → Int32)) => u = F_X0_add gsz seeds p1) (fun u t => pO G [(h0, .inr (2, [.ref h1, .int u.1])), (h1, .inl (G.2 0, 256, .inl u.2))] (va_A [(h0, .inr (2, [.ref h1, .int gsz])), (h1, .inl (G.2 0, 256, .inl seeds))] sz) t) (va_A [(h0, .inr (2, [.ref h1, .int gsz])), (h1, .inl (G.2 0, 256, .inl seeds))] sz)) 0 0 (va_A [(h0, .inr (2, [.ref h1, .int gsz])), (h1, .inl (G.2 0, 256, .inl seeds))] sz) := by
  refine Met.ofW (cc := cX0_add) (maxL := 2) (ret := none) (by decide) rfl ?_
  intro p e s m args below meth c s₁ B hml hv
  obtain ⟨rfl, hsz, hP, hK, hD0⟩ := hv
  have hx := B.exec
  have hb := B.bytes
  have hr := B.returns
  have hts := atoms_spec (ws := wsX0_add) B.pre
  have hown : s.vm.findClass RX0 = some m.cls := findClass_of_methodNamed B.named
  have hlocks := B.notSynchronized
  subst hsz
  have iX0 : ∀ w ∈ wsX00, w ∈ wsX0_add := by decide +kernel
  have hD := hD0.self (sz := s.heap.size)
  generalize hAe : va_A [(h0, .inr (2, [.ref h1, .int gsz])), (h1, .inl (G.2 0, 256, .inl seeds))] s.heap.size = A at hD ⊢
  have hA : ∀ q : Nat, s.heap.size ≤ q → A q := fun q h => by rw [← hAe]; exact Or.inr h
  have hS : va_S A s.heap s.heap [] := va_S.rf
  have hP : va_P G.1 vwCl [(h0, .inr (2, [.ref h1, .int gsz])), (h1, .inl (G.2 0, 256, .inl seeds))] s.heap := hP
  have hl := lv_entry ([.ref h0, .int p1]) (n := 2) (Nat.le_of_ble_eq_true rfl)
  rw [lg_entry_eq]
  generalize (lg_sl ([.ref h0, .int p1]) ++ List.replicate (2 - (lg_sl ([.ref h0, .int p1])).length) Slot.unset).toArray = ls at hl ⊢
  have hl : lv_has ls 2 [(0, .ref h0), (1, .int p1)] := hl
  have hF : F_X0_add gsz seeds p1 = F_X0_add gsz seeds p1 := rfl
  refine lv_aload_n hx hb dX0_add_0 rfl (lv_at hl 0 rfl) ?_
  refine va_get (D := G.1) (ci := 2) (v := .int gsz) (C := RX0) (T := TX0) (N := 2) hx hb hts iX0 hown hK.1 hP 0 rfl rfl 1 (by decide) (hts (.fieldLink RX0 13 "RightsSteps$GivenSeeds" "size" "I") (by decide +kernel)) (fun _ h9 => h9) rfl dX0_add_1 ?_
  refine lv_aload_n hx hb dX0_add_4 rfl (lv_at hl 0 rfl) ?_
  refine va_get (D := G.1) (ci := 2) (v := .ref h1) (C := RX0) (T := TX0) (N := 2) hx hb hts iX0 hown hK.1 hP 0 rfl rfl 0 (by decide) (hts (.fieldLink RX0 9 "RightsSteps$GivenSeeds" "seeds" "[I") (by decide +kernel)) (fun _ h9 => h9) rfl dX0_add_5 ?_
  refine va_alen (v := 256) hx hb hK.1 hP 1 0 rfl rfl rfl dX0_add_8 ?_
  refine lv_icmp_ge (tgt := 32) hx hb dX0_add_9 (by decide) (fun c_9 => ?_) (fun c_9 => ?_)
  · have hF := if_t hF c_9
    exact W.vret hx hb hr (fun t ht hW => ⟨⟨(gsz, seeds), rfl, hF.symm, by rw [ht]; exact hP.sub [0, 1] rfl, hD.sub [0, 1] (by decide) rfl⟩, hS.F ht⟩) hS.2.2 dX0_add_32
  · have hF := if_f hF c_9
    refine lv_aload_n hx hb dX0_add_12 rfl (lv_at hl 0 rfl) ?_
    refine va_get (D := G.1) (ci := 2) (v := .ref h1) (C := RX0) (T := TX0) (N := 2) hx hb hts iX0 hown hK.1 hP 0 rfl rfl 0 (by decide) (hts (.fieldLink RX0 9 "RightsSteps$GivenSeeds" "seeds" "[I") (by decide +kernel)) (fun _ h9 => h9) rfl dX0_add_13 ?_
    refine lv_aload_n hx hb dX0_add_16 rfl (lv_at hl 0 rfl) ?_
    refine va_get (D := G.1) (ci := 2) (v := .int gsz) (C := RX0) (T := TX0) (N := 2) hx hb hts iX0 hown hK.1 hP 0 rfl rfl 1 (by decide) (hts (.fieldLink RX0 13 "RightsSteps$GivenSeeds" "size" "I") (by decide +kernel)) (fun _ h9 => h9) rfl dX0_add_17 ?_
    refine lv_iload_n hx hb dX0_add_20 rfl (lv_at hl 1 rfl) ?_
    refine va_iast (f := seeds) hx hb hK.1 hP hD hS 1 0 rfl rfl (in_lo hz (i_not c_9) rfl) dX0_add_21 (fun H locs hP hD hS => ?_)
    have hP : va_P G.1 vwCl [(h0, .inr (2, [.ref h1, .int gsz])), (h1, .inl (G.2 0, 256, .inl (upd seeds (gsz : Int32).toNatClampNeg p1)))] H := hP
    have hD : va_D A [(h0, .inr (2, [.ref h1, .int gsz])), (h1, .inl (G.2 0, 256, .inl (upd seeds (gsz : Int32).toNatClampNeg p1)))] := hD
    refine lv_aload_n hx hb dX0_add_22 rfl (lv_at hl 0 rfl) ?_
    refine lv_dup hx hb dX0_add_23 rfl ?_
    refine va_get (D := G.1) (ci := 2) (v := .int gsz) (C := RX0) (T := TX0) (N := 2) hx hb hts iX0 hown hK.1 hP 0 rfl rfl 1 (by decide) (hts (.fieldLink RX0 13 "RightsSteps$GivenSeeds" "size" "I") (by decide +kernel)) (fun _ h9 => h9) rfl dX0_add_24 ?_
    refine lv_iconst (v := 1) hx hb dX0_add_27 (by decide) ?_
    refine lv_iadd hx hb dX0_add_28 ?_
    refine va_put (D := G.1) (ci := 2) (v := .int (gsz + 1)) (ty := .int) (C := RX0) (T := TX0) (N := 2) hx hb hts iX0 tyX0 tyX0_ok nmX0 hown hK.1 hP hD hS 0 rfl rfl 1 (by decide) (hts (.fieldLink RX0 13 "RightsSteps$GivenSeeds" "size" "I") (by decide +kernel)) (fun _ h9 => h9) rfl (by decide +kernel) rfl rfl (Nat.le_of_ble_eq_true rfl) dX0_add_29 (fun H locs hP hD hS => ?_)
    have hP : va_P G.1 vwCl [(h0, .inr (2, [.ref h1, .int (gsz + 1)])), (h1, .inl (G.2 0, 256, .inl (upd seeds (gsz : Int32).toNatClampNeg p1)))] H := hP
    have hD : va_D A [(h0, .inr (2, [.ref h1, .int (gsz + 1)])), (h1, .inl (G.2 0, 256, .inl (upd seeds (gsz : Int32).toNatClampNeg p1)))] := hD
    exact W.vret hx hb hr (fun t ht hW => ⟨⟨((gsz + 1), (upd seeds (gsz : Int32).toNatClampNeg p1)), rfl, hF.symm, by rw [ht]; exact hP.sub [0, 1] rfl, hD.sub [0, 1] (by decide) rfl⟩, hS.F ht⟩) hS.2.2 dX0_add_32

def F_X0_forgetAll (gsz : Int32) : Int32 :=
  0
set_option maxHeartbeats 4000000 in
set_option maxRecDepth 100000 in
theorem c_X0_forgetAll (l : Launch) (G : gG) (h0 h1 : Nat) (sz : Nat) (gsz : Int32) : Met l yX0_forgetAll wsX0_forgetAll ({ frames := 0, cells := 0, slots := 0, locals := 0 }) (va_Pc [.ref h0] (pR G [(h0, .inr (2, [.ref h1, .int gsz]))] sz)) (va_Qv (fun (u : Int32) => u = F_X0_forgetAll gsz) (fun u t => pO G [(h0, .inr (2, [.ref h1, .int u]))] (va_A [(h0, .inr (2, [.ref h1, .int gsz]))] sz) t) (va_A [(h0, .inr (2, [.ref h1, .int gsz]))] sz)) 0 0 (va_A [(h0, .inr (2, [.ref h1, .int gsz]))] sz) := by
  refine Met.ofW (cc := cX0_forgetAll) (maxL := 1) (ret := none) (by decide) rfl ?_
  intro p e s m args below meth c s₁ B hml hv
  obtain ⟨rfl, hsz, hP, hK, hD0⟩ := hv
  have hx := B.exec
  have hb := B.bytes
  have hr := B.returns
  have hts := atoms_spec (ws := wsX0_forgetAll) B.pre
  have hown : s.vm.findClass RX0 = some m.cls := findClass_of_methodNamed B.named
  have hlocks := B.notSynchronized
  subst hsz
  have iX0 : ∀ w ∈ wsX00, w ∈ wsX0_forgetAll := by decide +kernel
  have hD := hD0.self (sz := s.heap.size)
  generalize hAe : va_A [(h0, .inr (2, [.ref h1, .int gsz]))] s.heap.size = A at hD ⊢
  have hA : ∀ q : Nat, s.heap.size ≤ q → A q := fun q h => by rw [← hAe]; exact Or.inr h
  have hS : va_S A s.heap s.heap [] := va_S.rf
  have hP : va_P G.1 vwCl [(h0, .inr (2, [.ref h1, .int gsz]))] s.heap := hP
  have hl := lv_entry ([.ref h0]) (n := 1) (Nat.le_of_ble_eq_true rfl)
  rw [lg_entry_eq]
  generalize (lg_sl ([.ref h0]) ++ List.replicate (1 - (lg_sl ([.ref h0])).length) Slot.unset).toArray = ls at hl ⊢
  have hl : lv_has ls 1 [(0, .ref h0)] := hl
  have hF : F_X0_forgetAll gsz = F_X0_forgetAll gsz := rfl
  refine lv_aload_n hx hb dX0_forgetAll_0 rfl (lv_at hl 0 rfl) ?_
  refine lv_iconst (v := 0) hx hb dX0_forgetAll_1 (by decide) ?_
  refine va_put (D := G.1) (ci := 2) (v := .int 0) (ty := .int) (C := RX0) (T := TX0) (N := 2) hx hb hts iX0 tyX0 tyX0_ok nmX0 hown hK.1 hP hD hS 0 rfl rfl 1 (by decide) (hts (.fieldLink RX0 13 "RightsSteps$GivenSeeds" "size" "I") (by decide +kernel)) (fun _ h9 => h9) rfl (by decide +kernel) rfl rfl (Nat.le_of_ble_eq_true rfl) dX0_forgetAll_2 (fun H locs hP hD hS => ?_)
  have hP : va_P G.1 vwCl [(h0, .inr (2, [.ref h1, .int 0]))] H := hP
  have hD : va_D A [(h0, .inr (2, [.ref h1, .int 0]))] := hD
  exact W.vret hx hb hr (fun t ht hW => ⟨⟨0, rfl, hF.symm, by rw [ht]; exact hP.sub [0] rfl, hD.sub [0] (by decide) rfl⟩, hS.F ht⟩) hS.2.2 dX0_forgetAll_5

def F_X4_add (kept : Int32) (cnt : Int32) (prt : Nat → Int32) (p1 : Int32) (p2 : Int32) (p3 : Int32) : Int32 × Int32 × (Nat → Int32) :=
  (if kept < 300 then ((kept + 1), (cnt + 1), (upd (upd (upd prt ((kept * 3) : Int32).toNatClampNeg p1) (((kept * 3) + 1) : Int32).toNatClampNeg p2) (((kept * 3) + 2) : Int32).toNatClampNeg p3)) else (kept, (cnt + 1), prt))
set_option maxHeartbeats 4000000 in
set_option maxRecDepth 100000 in
theorem c_X4_add (l : Launch) (G : gG) (h0 h1 : Nat) (sz : Nat) (kept : Int32) (cnt : Int32) (prt : Nat → Int32) (p1 : Int32) (p2 : Int32) (p3 : Int32) (hk : vp_in kept 301) : Met l yX4_add wsX4_add ({ frames := 0, cells := 0, slots := 0, locals := 0 }) (va_Pc [.ref h0, .int p1, .int p2, .int p3] (pR G [(h0, .inr (6, [.ref h1, .int kept, .int cnt])), (h1, .inl (G.2 0, 900, .inl prt))] sz)) (va_Qv (fun (u : Int32 × Int32 × (Nat → Int32)) => u = F_X4_add kept cnt prt p1 p2 p3) (fun u t => pO G [(h0, .inr (6, [.ref h1, .int u.1, .int u.2.1])), (h1, .inl (G.2 0, 900, .inl u.2.2))] (va_A [(h0, .inr (6, [.ref h1, .int kept, .int cnt])), (h1, .inl (G.2 0, 900, .inl prt))] sz) t) (va_A [(h0, .inr (6, [.ref h1, .int kept, .int cnt])), (h1, .inl (G.2 0, 900, .inl prt))] sz)) 0 0 (va_A [(h0, .inr (6, [.ref h1, .int kept, .int cnt])), (h1, .inl (G.2 0, 900, .inl prt))] sz) := by
  refine Met.ofW (cc := cX4_add) (maxL := 5) (ret := none) (by decide) rfl ?_
  intro p e s m args below meth c s₁ B hml hv
  obtain ⟨rfl, hsz, hP, hK, hD0⟩ := hv
  have hx := B.exec
  have hb := B.bytes
  have hr := B.returns
  have hts := atoms_spec (ws := wsX4_add) B.pre
  have hown : s.vm.findClass RX4 = some m.cls := findClass_of_methodNamed B.named
  have hlocks := B.notSynchronized
  subst hsz
  have iX4 : ∀ w ∈ wsX40, w ∈ wsX4_add := by decide +kernel
  have hD := hD0.self (sz := s.heap.size)
  generalize hAe : va_A [(h0, .inr (6, [.ref h1, .int kept, .int cnt])), (h1, .inl (G.2 0, 900, .inl prt))] s.heap.size = A at hD ⊢
  have hA : ∀ q : Nat, s.heap.size ≤ q → A q := fun q h => by rw [← hAe]; exact Or.inr h
  have hS : va_S A s.heap s.heap [] := va_S.rf
  have hP : va_P G.1 vwCl [(h0, .inr (6, [.ref h1, .int kept, .int cnt])), (h1, .inl (G.2 0, 900, .inl prt))] s.heap := hP
  have hl := lv_entry ([.ref h0, .int p1, .int p2, .int p3]) (n := 5) (Nat.le_of_ble_eq_true rfl)
  rw [lg_entry_eq]
  generalize (lg_sl ([.ref h0, .int p1, .int p2, .int p3]) ++ List.replicate (5 - (lg_sl ([.ref h0, .int p1, .int p2, .int p3])).length) Slot.unset).toArray = ls at hl ⊢
  have hl : lv_has ls 5 [(0, .ref h0), (1, .int p1), (2, .int p2), (3, .int p3)] := hl
  have hF : F_X4_add kept cnt prt p1 p2 p3 = F_X4_add kept cnt prt p1 p2 p3 := rfl
  refine lv_aload_n hx hb dX4_add_0 rfl (lv_at hl 0 rfl) ?_
  refine lv_dup hx hb dX4_add_1 rfl ?_
  refine va_get (D := G.1) (ci := 6) (v := .int cnt) (C := RX4) (T := TX4) (N := 3) hx hb hts iX4 hown hK.1 hP 0 rfl rfl 2 (by decide) (hts (.fieldLink RX4 13 "RightsSteps$UseLog" "count" "I") (by decide +kernel)) (fun _ h9 => h9) rfl dX4_add_2 ?_
  refine lv_iconst (v := 1) hx hb dX4_add_5 (by decide) ?_
  refine lv_iadd hx hb dX4_add_6 ?_
  refine va_put (D := G.1) (ci := 6) (v := .int (cnt + 1)) (ty := .int) (C := RX4) (T := TX4) (N := 3) hx hb hts iX4 tyX4 tyX4_ok nmX4 hown hK.1 hP hD hS 0 rfl rfl 2 (by decide) (hts (.fieldLink RX4 13 "RightsSteps$UseLog" "count" "I") (by decide +kernel)) (fun _ h9 => h9) rfl (by decide +kernel) rfl rfl (Nat.le_of_ble_eq_true rfl) dX4_add_7 (fun H locs hP hD hS => ?_)
  have hP : va_P G.1 vwCl [(h0, .inr (6, [.ref h1, .int kept, .int (cnt + 1)])), (h1, .inl (G.2 0, 900, .inl prt))] H := hP
  have hD : va_D A [(h0, .inr (6, [.ref h1, .int kept, .int (cnt + 1)])), (h1, .inl (G.2 0, 900, .inl prt))] := hD
  refine lv_aload_n hx hb dX4_add_10 rfl (lv_at hl 0 rfl) ?_
  refine va_get (D := G.1) (ci := 6) (v := .int kept) (C := RX4) (T := TX4) (N := 3) hx hb hts iX4 hown hK.1 hP 0 rfl rfl 1 (by decide) (hts (.fieldLink RX4 17 "RightsSteps$UseLog" "kept" "I") (by decide +kernel)) (fun _ h9 => h9) rfl dX4_add_11 ?_
  refine lv_sipush (v := 300) hx hb dX4_add_14 (by decide) ?_
  refine lv_icmp_lt (tgt := 21) hx hb dX4_add_17 (by decide) (fun c_17 => ?_) (fun c_17 => ?_)
  · have hF := if_t hF c_17
    refine lv_aload_n hx hb dX4_add_21 rfl (lv_at hl 0 rfl) ?_
    refine va_get (D := G.1) (ci := 6) (v := .int kept) (C := RX4) (T := TX4) (N := 3) hx hb hts iX4 hown hK.1 hP 0 rfl rfl 1 (by decide) (hts (.fieldLink RX4 17 "RightsSteps$UseLog" "kept" "I") (by decide +kernel)) (fun _ h9 => h9) rfl dX4_add_22 ?_
    refine lv_iconst (v := 3) hx hb dX4_add_25 (by decide) ?_
    refine lv_imul hx hb dX4_add_26 ?_
    refine lv_istore (lv' := [(4, .int (kept * 3)), (0, .ref h0), (1, .int p1), (2, .int p2), (3, .int p3)]) hx hb dX4_add_27 hl (by decide) rfl (fun ls hl => ?_)
    refine lv_aload_n hx hb dX4_add_29 rfl (lv_at hl 1 rfl) ?_
    refine va_get (D := G.1) (ci := 6) (v := .ref h1) (C := RX4) (T := TX4) (N := 3) hx hb hts iX4 hown hK.1 hP 0 rfl rfl 0 (by decide) (hts (.fieldLink RX4 9 "RightsSteps$UseLog" "parts" "[I") (by decide +kernel)) (fun _ h9 => h9) rfl dX4_add_30 ?_
    refine lv_iload hx hb dX4_add_33 (lv_at hl 0 rfl) ?_
    refine lv_iload_n hx hb dX4_add_35 rfl (lv_at hl 2 rfl) ?_
    refine va_iast (f := prt) hx hb hK.1 hP hD hS 1 0 rfl rfl (in_3a hk (i_ge c_17)).1 dX4_add_36 (fun H locs hP hD hS => ?_)
    have hP : va_P G.1 vwCl [(h0, .inr (6, [.ref h1, .int kept, .int (cnt + 1)])), (h1, .inl (G.2 0, 900, .inl (upd prt ((kept * 3) : Int32).toNatClampNeg p1)))] H := hP
    have hD : va_D A [(h0, .inr (6, [.ref h1, .int kept, .int (cnt + 1)])), (h1, .inl (G.2 0, 900, .inl (upd prt ((kept * 3) : Int32).toNatClampNeg p1)))] := hD
    refine lv_aload_n hx hb dX4_add_37 rfl (lv_at hl 1 rfl) ?_
    refine va_get (D := G.1) (ci := 6) (v := .ref h1) (C := RX4) (T := TX4) (N := 3) hx hb hts iX4 hown hK.1 hP 0 rfl rfl 0 (by decide) (hts (.fieldLink RX4 9 "RightsSteps$UseLog" "parts" "[I") (by decide +kernel)) (fun _ h9 => h9) rfl dX4_add_38 ?_
    refine lv_iload hx hb dX4_add_41 (lv_at hl 0 rfl) ?_
    refine lv_iconst (v := 1) hx hb dX4_add_43 (by decide) ?_
    refine lv_iadd hx hb dX4_add_44 ?_
    refine lv_iload_n hx hb dX4_add_45 rfl (lv_at hl 3 rfl) ?_
    refine va_iast (f := (upd prt ((kept * 3) : Int32).toNatClampNeg p1)) hx hb hK.1 hP hD hS 1 0 rfl rfl (in_3a hk (i_ge c_17)).2.1 dX4_add_46 (fun H locs hP hD hS => ?_)
    have hP : va_P G.1 vwCl [(h0, .inr (6, [.ref h1, .int kept, .int (cnt + 1)])), (h1, .inl (G.2 0, 900, .inl (upd (upd prt ((kept * 3) : Int32).toNatClampNeg p1) (((kept * 3) + 1) : Int32).toNatClampNeg p2)))] H := hP
    have hD : va_D A [(h0, .inr (6, [.ref h1, .int kept, .int (cnt + 1)])), (h1, .inl (G.2 0, 900, .inl (upd (upd prt ((kept * 3) : Int32).toNatClampNeg p1) (((kept * 3) + 1) : Int32).toNatClampNeg p2)))] := hD
    refine lv_aload_n hx hb dX4_add_47 rfl (lv_at hl 1 rfl) ?_
    refine va_get (D := G.1) (ci := 6) (v := .ref h1) (C := RX4) (T := TX4) (N := 3) hx hb hts iX4 hown hK.1 hP 0 rfl rfl 0 (by decide) (hts (.fieldLink RX4 9 "RightsSteps$UseLog" "parts" "[I") (by decide +kernel)) (fun _ h9 => h9) rfl dX4_add_48 ?_
    refine lv_iload hx hb dX4_add_51 (lv_at hl 0 rfl) ?_
    refine lv_iconst (v := 2) hx hb dX4_add_53 (by decide) ?_
    refine lv_iadd hx hb dX4_add_54 ?_
    refine lv_iload_n hx hb dX4_add_55 rfl (lv_at hl 4 rfl) ?_
    refine va_iast (f := (upd (upd prt ((kept * 3) : Int32).toNatClampNeg p1) (((kept * 3) + 1) : Int32).toNatClampNeg p2)) hx hb hK.1 hP hD hS 1 0 rfl rfl (in_3a hk (i_ge c_17)).2.2 dX4_add_56 (fun H locs hP hD hS => ?_)
    have hP : va_P G.1 vwCl [(h0, .inr (6, [.ref h1, .int kept, .int (cnt + 1)])), (h1, .inl (G.2 0, 900, .inl (upd (upd (upd prt ((kept * 3) : Int32).toNatClampNeg p1) (((kept * 3) + 1) : Int32).toNatClampNeg p2) (((kept * 3) + 2) : Int32).toNatClampNeg p3)))] H := hP
    have hD : va_D A [(h0, .inr (6, [.ref h1, .int kept, .int (cnt + 1)])), (h1, .inl (G.2 0, 900, .inl (upd (upd (upd prt ((kept * 3) : Int32).toNatClampNeg p1) (((kept * 3) + 1) : Int32).toNatClampNeg p2) (((kept * 3) + 2) : Int32).toNatClampNeg p3)))] := hD
    refine lv_aload_n hx hb dX4_add_57 rfl (lv_at hl 1 rfl) ?_
    refine lv_dup hx hb dX4_add_58 rfl ?_
    refine va_get (D := G.1) (ci := 6) (v := .int kept) (C := RX4) (T := TX4) (N := 3) hx hb hts iX4 hown hK.1 hP 0 rfl rfl 1 (by decide) (hts (.fieldLink RX4 17 "RightsSteps$UseLog" "kept" "I") (by decide +kernel)) (fun _ h9 => h9) rfl dX4_add_59 ?_
    refine lv_iconst (v := 1) hx hb dX4_add_62 (by decide) ?_
    refine lv_iadd hx hb dX4_add_63 ?_
    refine va_put (D := G.1) (ci := 6) (v := .int (kept + 1)) (ty := .int) (C := RX4) (T := TX4) (N := 3) hx hb hts iX4 tyX4 tyX4_ok nmX4 hown hK.1 hP hD hS 0 rfl rfl 1 (by decide) (hts (.fieldLink RX4 17 "RightsSteps$UseLog" "kept" "I") (by decide +kernel)) (fun _ h9 => h9) rfl (by decide +kernel) rfl rfl (Nat.le_of_ble_eq_true rfl) dX4_add_64 (fun H locs hP hD hS => ?_)
    have hP : va_P G.1 vwCl [(h0, .inr (6, [.ref h1, .int (kept + 1), .int (cnt + 1)])), (h1, .inl (G.2 0, 900, .inl (upd (upd (upd prt ((kept * 3) : Int32).toNatClampNeg p1) (((kept * 3) + 1) : Int32).toNatClampNeg p2) (((kept * 3) + 2) : Int32).toNatClampNeg p3)))] H := hP
    have hD : va_D A [(h0, .inr (6, [.ref h1, .int (kept + 1), .int (cnt + 1)])), (h1, .inl (G.2 0, 900, .inl (upd (upd (upd prt ((kept * 3) : Int32).toNatClampNeg p1) (((kept * 3) + 1) : Int32).toNatClampNeg p2) (((kept * 3) + 2) : Int32).toNatClampNeg p3)))] := hD
    exact W.vret hx hb hr (fun t ht hW => ⟨⟨((kept + 1), (cnt + 1), (upd (upd (upd prt ((kept * 3) : Int32).toNatClampNeg p1) (((kept * 3) + 1) : Int32).toNatClampNeg p2) (((kept * 3) + 2) : Int32).toNatClampNeg p3)), rfl, hF.symm, by rw [ht]; exact hP.sub [0, 1] rfl, hD.sub [0, 1] (by decide) rfl⟩, hS.F ht⟩) hS.2.2 dX4_add_67
  · have hF := if_f hF c_17
    exact W.vret hx hb hr (fun t ht hW => ⟨⟨(kept, (cnt + 1), prt), rfl, hF.symm, by rw [ht]; exact hP.sub [0, 1] rfl, hD.sub [0, 1] (by decide) rfl⟩, hS.F ht⟩) hS.2.2 dX4_add_20

def F_X4_has (kept : Int32) (cnt : Int32) (p1 : Int32) : Int32 :=
  (if p1 < 0 then 0 else (if kept ≤ p1 then 0 else 1))
set_option maxHeartbeats 4000000 in
set_option maxRecDepth 100000 in
theorem c_X4_has (l : Launch) (G : gG) (h0 h1 : Nat) (sz : Nat) (kept : Int32) (cnt : Int32) (p1 : Int32) : Met l yX4_has wsX4_has ({ frames := 0, cells := 0, slots := 0, locals := 0 }) (va_Pc [.ref h0, .int p1] (pR G [(h0, .inr (6, [.ref h1, .int kept, .int cnt]))] sz)) (pQ (.int (F_X4_has kept cnt p1))) 0 0 (fun _ => False) := by
  refine Met.ofW (cc := cX4_has) (maxL := 2) (ret := (some .boolean)) (by decide) rfl ?_
  intro p e s m args below meth c s₁ B hml hv
  obtain ⟨rfl, hsz, hP, hK, hD0⟩ := hv
  have hx := B.exec
  have hb := B.bytes
  have hr := B.returns
  have hts := atoms_spec (ws := wsX4_has) B.pre
  have hown : s.vm.findClass RX4 = some m.cls := findClass_of_methodNamed B.named
  have hlocks := B.notSynchronized
  subst hsz
  have iX4 : ∀ w ∈ wsX40, w ∈ wsX4_has := by decide +kernel
  have hD := hD0
  have hP : va_P G.1 vwCl [(h0, .inr (6, [.ref h1, .int kept, .int cnt]))] s.heap := hP
  have hl := lv_entry ([.ref h0, .int p1]) (n := 2) (Nat.le_of_ble_eq_true rfl)
  rw [lg_entry_eq]
  generalize (lg_sl ([.ref h0, .int p1]) ++ List.replicate (2 - (lg_sl ([.ref h0, .int p1])).length) Slot.unset).toArray = ls at hl ⊢
  have hl : lv_has ls 2 [(0, .ref h0), (1, .int p1)] := hl
  have hF : F_X4_has kept cnt p1 = F_X4_has kept cnt p1 := rfl
  refine lv_iload_n hx hb dX4_has_0 rfl (lv_at hl 1 rfl) ?_
  refine lv_if_lt (tgt := 16) hx hb dX4_has_1 (by decide) (fun c_1 => ?_) (fun c_1 => ?_)
  · have hF := if_t hF c_1
    refine lv_iconst (v := 0) hx hb dX4_has_16 (by decide) ?_
    exact W.zret (v := 0) (ty := .boolean) hx hb hr rfl (fun t ht hW => ⟨by rw [hF], ht⟩) (fun _ h => by cases h) dX4_has_17
  · have hF := if_f hF c_1
    refine lv_iload_n hx hb dX4_has_4 rfl (lv_at hl 1 rfl) ?_
    refine lv_aload_n hx hb dX4_has_5 rfl (lv_at hl 0 rfl) ?_
    refine va_get (D := G.1) (ci := 6) (v := .int kept) (C := RX4) (T := TX4) (N := 3) hx hb hts iX4 hown hK.1 hP 0 rfl rfl 1 (by decide) (hts (.fieldLink RX4 17 "RightsSteps$UseLog" "kept" "I") (by decide +kernel)) (fun _ h9 => h9) rfl dX4_has_6 ?_
    refine lv_icmp_ge (tgt := 16) hx hb dX4_has_9 (by decide) (fun c_9 => ?_) (fun c_9 => ?_)
    · have hF := if_t hF c_9
      refine lv_iconst (v := 0) hx hb dX4_has_16 (by decide) ?_
      exact W.zret (v := 0) (ty := .boolean) hx hb hr rfl (fun t ht hW => ⟨by rw [hF], ht⟩) (fun _ h => by cases h) dX4_has_17
    · have hF := if_f hF c_9
      refine lv_iconst (v := 1) hx hb dX4_has_12 (by decide) ?_
      refine lv_goto (tgt := 17) hx hb dX4_has_13 (by decide) ?_
      exact W.zret (v := 1) (ty := .boolean) hx hb hr rfl (fun t ht hW => ⟨by rw [hF], ht⟩) (fun _ h => by cases h) dX4_has_17

theorem has_in {kept cnt p1 : Int32} (hk : vp_in kept 301) (h : ¬ F_X4_has kept cnt p1 = 0) : vp_in p1 300 := by
  have a := vp_in_iff.mp hk
  unfold F_X4_has at h
  by_cases h1 : p1 < 0
  · rw [if_pos h1] at h; exact absurd rfl h
  · rw [if_neg h1] at h
    by_cases h2 : kept ≤ p1
    · rw [if_pos h2] at h; exact absurd rfl h
    · exact vp_in_iff.mpr ⟨i_nlt h1, by have := i_nle h2; omega⟩

def F_X4_part (kept : Int32) (cnt : Int32) (prt : Nat → Int32) (p1 : Int32) (p2 : Int32) : Int32 :=
  (if (F_X4_has kept cnt p1) = 0 then 0 else (if p2 < 0 then 0 else (if 3 ≤ p2 then 0 else (prt (((p1 * 3) + p2) : Int32).toNatClampNeg))))
set_option maxHeartbeats 4000000 in
set_option maxRecDepth 100000 in
theorem c_X4_part (l : Launch) (G : gG) (h0 h1 : Nat) (sz : Nat) (kept : Int32) (cnt : Int32) (prt : Nat → Int32) (p1 : Int32) (p2 : Int32) (hk : vp_in kept 301) : Met l yX4_part wsX4_part ({ frames := 1, cells := 0, slots := 0, locals := 21 }) (va_Pc [.ref h0, .int p1, .int p2] (pR G [(h0, .inr (6, [.ref h1, .int kept, .int cnt])), (h1, .inl (G.2 0, 900, .inl prt))] sz)) (pQ (.int (F_X4_part kept cnt prt p1 p2))) 0 0 (fun _ => False) := by
  refine Met.ofW (cc := cX4_part) (maxL := 3) (ret := (some .int)) (by decide) rfl ?_
  intro p e s m args below meth c s₁ B hml hv
  obtain ⟨rfl, hsz, hP, hK, hD0⟩ := hv
  have hx := B.exec
  have hb := B.bytes
  have hr := B.returns
  have hts := atoms_spec (ws := wsX4_part) B.pre
  have hown : s.vm.findClass RX4 = some m.cls := findClass_of_methodNamed B.named
  have hlocks := B.notSynchronized
  subst hsz
  have iX4 : ∀ w ∈ wsX40, w ∈ wsX4_part := by decide +kernel
  have hD := hD0
  have hP : va_P G.1 vwCl [(h0, .inr (6, [.ref h1, .int kept, .int cnt])), (h1, .inl (G.2 0, 900, .inl prt))] s.heap := hP
  have hl := lv_entry ([.ref h0, .int p1, .int p2]) (n := 3) (Nat.le_of_ble_eq_true rfl)
  rw [lg_entry_eq]
  generalize (lg_sl ([.ref h0, .int p1, .int p2]) ++ List.replicate (3 - (lg_sl ([.ref h0, .int p1, .int p2])).length) Slot.unset).toArray = ls at hl ⊢
  have hl : lv_has ls 3 [(0, .ref h0), (1, .int p1), (2, .int p2)] := hl
  have hF : F_X4_part kept cnt prt p1 p2 = F_X4_part kept cnt prt p1 p2 := rfl
  refine lv_aload_n hx hb dX4_part_0 rfl (lv_at hl 0 rfl) ?_
  refine lv_iload_n hx hb dX4_part_1 rfl (lv_at hl 1 rfl) ?_
  have hPc := hP.sub (ws' := [(h0, .inr (6, [.ref h1, .int kept, .int cnt]))]) [0] rfl
  have hDc := hD.sub (ws' := [(h0, .inr (6, [.ref h1, .int kept, .int cnt]))]) [0] (by decide) rfl
  refine pu_call (va_runV (As := [.int p1]) (rest := []) ⟨hx, hb, hml, hown, hts⟩ (c_X4_has l G h0 h1 _ kept cnt p1) (cwV 1 hts gX4_part_X4_has rfl rfl rfl (by decide +kernel) ⟨Nat.le_of_ble_eq_true rfl, Nat.le_of_ble_eq_true rfl⟩) (pR_V hK hPc hDc (q0 := 0) rfl rfl) rfl rfl hl.1 rfl (lv_room (Nat.le_of_ble_eq_true rfl)) dX4_part_2 ⟨by decide, by decide⟩) ?_
  refine lv_if_eq (tgt := 30) hx hb dX4_part_5 (by decide) (fun c_5 => ?_) (fun c_5 => ?_)
  · have hF := if_t hF c_5
    refine lv_iconst (v := 0) hx hb dX4_part_30 (by decide) ?_
    exact W.iret (v := 0) hx hb hr (fun t ht hW => ⟨by rw [hF], ht⟩) (fun _ h => by cases h) dX4_part_31
  · have hF := if_f hF c_5
    refine lv_iload_n hx hb dX4_part_8 rfl (lv_at hl 2 rfl) ?_
    refine lv_if_lt (tgt := 30) hx hb dX4_part_9 (by decide) (fun c_9 => ?_) (fun c_9 => ?_)
    · have hF := if_t hF c_9
      refine lv_iconst (v := 0) hx hb dX4_part_30 (by decide) ?_
      exact W.iret (v := 0) hx hb hr (fun t ht hW => ⟨by rw [hF], ht⟩) (fun _ h => by cases h) dX4_part_31
    · have hF := if_f hF c_9
      refine lv_iload_n hx hb dX4_part_12 rfl (lv_at hl 2 rfl) ?_
      refine lv_iconst (v := 3) hx hb dX4_part_13 (by decide) ?_
      refine lv_icmp_ge (tgt := 30) hx hb dX4_part_14 (by decide) (fun c_14 => ?_) (fun c_14 => ?_)
      · have hF := if_t hF c_14
        refine lv_iconst (v := 0) hx hb dX4_part_30 (by decide) ?_
        exact W.iret (v := 0) hx hb hr (fun t ht hW => ⟨by rw [hF], ht⟩) (fun _ h => by cases h) dX4_part_31
      · have hF := if_f hF c_14
        refine lv_aload_n hx hb dX4_part_17 rfl (lv_at hl 0 rfl) ?_
        refine va_get (D := G.1) (ci := 6) (v := .ref h1) (C := RX4) (T := TX4) (N := 3) hx hb hts iX4 hown hK.1 hP 0 rfl rfl 0 (by decide) (hts (.fieldLink RX4 9 "RightsSteps$UseLog" "parts" "[I") (by decide +kernel)) (fun _ h9 => h9) rfl dX4_part_18 ?_
        refine lv_iload_n hx hb dX4_part_21 rfl (lv_at hl 1 rfl) ?_
        refine lv_iconst (v := 3) hx hb dX4_part_22 (by decide) ?_
        refine lv_imul hx hb dX4_part_23 ?_
        refine lv_iload_n hx hb dX4_part_24 rfl (lv_at hl 2 rfl) ?_
        refine lv_iadd hx hb dX4_part_25 ?_
        refine va_iald (f := prt) hx hb hK.1 hP 1 0 rfl rfl (in_3b (has_in hk c_5) c_9 c_14) dX4_part_26 ?_
        refine lv_goto (tgt := 31) hx hb dX4_part_27 (by decide) ?_
        exact W.iret (v := (prt (((p1 * 3) + p2) : Int32).toNatClampNeg)) hx hb hr (fun t ht hW => ⟨by rw [hF], ht⟩) (fun _ h => by cases h) dX4_part_31

def F_X3_startSession (num : Int32) (ses : Int32) (rol : Int64) (opn : Int32) (awl : Int32) (aws : Int32) (oct : Int32) (ksf : Int32) (ou : Int32) (p1 : Int32) : Int32 × Int64 × Int32 × Int32 :=
  (p1, (-9223372036854775808), 0, 0)
set_option maxHeartbeats 4000000 in
set_option maxRecDepth 100000 in
theorem c_X3_startSession (l : Launch) (G : gG) (h0 tu tk : Nat) (sz : Nat) (num : Int32) (ses : Int32) (rol : Int64) (opn : Int32) (awl : Int32) (aws : Int32) (oct : Int32) (ksf : Int32) (ou : Int32) (p1 : Int32) : Met l yX3_startSession wsX3_startSession ({ frames := 0, cells := 0, slots := 0, locals := 0 }) (va_Pc [.ref h0, .int p1] (pR G [(h0, .inr (5, [.int num, .int ses, .long rol, .int opn, .int awl, .int aws, .int oct, .int ksf, .int ou, .ref tu, .ref tk]))] sz)) (va_Qv (fun (u : Int32 × Int64 × Int32 × Int32) => u = F_X3_startSession num ses rol opn awl aws oct ksf ou p1) (fun u t => pO G [(h0, .inr (5, [.int num, .int u.1, .long u.2.1, .int u.2.2.1, .int u.2.2.2, .int aws, .int oct, .int ksf, .int ou, .ref tu, .ref tk]))] (va_A [(h0, .inr (5, [.int num, .int ses, .long rol, .int opn, .int awl, .int aws, .int oct, .int ksf, .int ou, .ref tu, .ref tk]))] sz) t) (va_A [(h0, .inr (5, [.int num, .int ses, .long rol, .int opn, .int awl, .int aws, .int oct, .int ksf, .int ou, .ref tu, .ref tk]))] sz)) 0 0 (va_A [(h0, .inr (5, [.int num, .int ses, .long rol, .int opn, .int awl, .int aws, .int oct, .int ksf, .int ou, .ref tu, .ref tk]))] sz) := by
  refine Met.ofW (cc := cX3_startSession) (maxL := 2) (ret := none) (by decide) rfl ?_
  intro p e s m args below meth c s₁ B hml hv
  obtain ⟨rfl, hsz, hP, hK, hD0⟩ := hv
  have hx := B.exec
  have hb := B.bytes
  have hr := B.returns
  have hts := atoms_spec (ws := wsX3_startSession) B.pre
  have hown : s.vm.findClass RX3 = some m.cls := findClass_of_methodNamed B.named
  have hlocks := B.notSynchronized
  subst hsz
  have iX3 : ∀ w ∈ wsX30, w ∈ wsX3_startSession := by decide +kernel
  have hD := hD0.self (sz := s.heap.size)
  generalize hAe : va_A [(h0, .inr (5, [.int num, .int ses, .long rol, .int opn, .int awl, .int aws, .int oct, .int ksf, .int ou, .ref tu, .ref tk]))] s.heap.size = A at hD ⊢
  have hA : ∀ q : Nat, s.heap.size ≤ q → A q := fun q h => by rw [← hAe]; exact Or.inr h
  have hS : va_S A s.heap s.heap [] := va_S.rf
  have hP : va_P G.1 vwCl [(h0, .inr (5, [.int num, .int ses, .long rol, .int opn, .int awl, .int aws, .int oct, .int ksf, .int ou, .ref tu, .ref tk]))] s.heap := hP
  have hl := lv_entry ([.ref h0, .int p1]) (n := 2) (Nat.le_of_ble_eq_true rfl)
  rw [lg_entry_eq]
  generalize (lg_sl ([.ref h0, .int p1]) ++ List.replicate (2 - (lg_sl ([.ref h0, .int p1])).length) Slot.unset).toArray = ls at hl ⊢
  have hl : lv_has ls 2 [(0, .ref h0), (1, .int p1)] := hl
  have hF : F_X3_startSession num ses rol opn awl aws oct ksf ou p1 = F_X3_startSession num ses rol opn awl aws oct ksf ou p1 := rfl
  refine lv_aload_n hx hb dX3_startSession_0 rfl (lv_at hl 0 rfl) ?_
  refine lv_iload_n hx hb dX3_startSession_1 rfl (lv_at hl 1 rfl) ?_
  refine va_put (D := G.1) (ci := 5) (v := .int p1) (ty := .int) (C := RX3) (T := TX3) (N := 11) hx hb hts iX3 tyX3 tyX3_ok nmX3 hown hK.1 hP hD hS 0 rfl rfl 1 (by decide) (hts (.fieldLink RX3 9 "RightsSteps$Tester" "session" "I") (by decide +kernel)) (fun _ h9 => h9) rfl (by decide +kernel) rfl rfl (Nat.le_of_ble_eq_true rfl) dX3_startSession_2 (fun H locs hP hD hS => ?_)
  have hP : va_P G.1 vwCl [(h0, .inr (5, [.int num, .int p1, .long rol, .int opn, .int awl, .int aws, .int oct, .int ksf, .int ou, .ref tu, .ref tk]))] H := hP
  have hD : va_D A [(h0, .inr (5, [.int num, .int p1, .long rol, .int opn, .int awl, .int aws, .int oct, .int ksf, .int ou, .ref tu, .ref tk]))] := hD
  refine lv_aload_n hx hb dX3_startSession_5 rfl (lv_at hl 0 rfl) ?_
  refine lv_iconst (v := 0) hx hb dX3_startSession_6 (by decide) ?_
  refine va_put (D := G.1) (ci := 5) (v := .int 0) (ty := .int) (C := RX3) (T := TX3) (N := 11) hx hb hts iX3 tyX3 tyX3_ok nmX3 hown hK.1 hP hD hS 0 rfl rfl 4 (by decide) (hts (.fieldLink RX3 24 "RightsSteps$Tester" "awaitedLevel" "I") (by decide +kernel)) (fun _ h9 => h9) rfl (by decide +kernel) rfl rfl (Nat.le_of_ble_eq_true rfl) dX3_startSession_7 (fun H locs hP hD hS => ?_)
  have hP : va_P G.1 vwCl [(h0, .inr (5, [.int num, .int p1, .long rol, .int opn, .int 0, .int aws, .int oct, .int ksf, .int ou, .ref tu, .ref tk]))] H := hP
  have hD : va_D A [(h0, .inr (5, [.int num, .int p1, .long rol, .int opn, .int 0, .int aws, .int oct, .int ksf, .int ou, .ref tu, .ref tk]))] := hD
  refine lv_aload_n hx hb dX3_startSession_10 rfl (lv_at hl 0 rfl) ?_
  refine lv_iconst (v := 0) hx hb dX3_startSession_11 (by decide) ?_
  refine va_put (D := G.1) (ci := 5) (v := .int 0) (ty := .int) (C := RX3) (T := TX3) (N := 11) hx hb hts iX3 tyX3 tyX3_ok nmX3 hown hK.1 hP hD hS 0 rfl rfl 3 (by decide) (hts (.fieldLink RX3 21 "RightsSteps$Tester" "openLevel" "I") (by decide +kernel)) (fun _ h9 => h9) rfl (by decide +kernel) rfl rfl (Nat.le_of_ble_eq_true rfl) dX3_startSession_12 (fun H locs hP hD hS => ?_)
  have hP : va_P G.1 vwCl [(h0, .inr (5, [.int num, .int p1, .long rol, .int 0, .int 0, .int aws, .int oct, .int ksf, .int ou, .ref tu, .ref tk]))] H := hP
  have hD : va_D A [(h0, .inr (5, [.int num, .int p1, .long rol, .int 0, .int 0, .int aws, .int oct, .int ksf, .int ou, .ref tu, .ref tk]))] := hD
  refine lv_aload_n hx hb dX3_startSession_15 rfl (lv_at hl 0 rfl) ?_
  refine lv_ldc2 (v := (-9223372036854775808)) hx hb hown (hts (.constantLong RX3 15 (-9223372036854775808)) (by decide +kernel)) dX3_startSession_16 ?_
  refine va_put (D := G.1) (ci := 5) (v := .long (-9223372036854775808)) (ty := .long) (C := RX3) (T := TX3) (N := 11) hx hb hts iX3 tyX3 tyX3_ok nmX3 hown hK.1 hP hD hS 0 rfl rfl 2 (by decide) (hts (.fieldLink RX3 17 "RightsSteps$Tester" "roleUntil" "J") (by decide +kernel)) (fun _ h9 => h9) rfl (by decide +kernel) rfl rfl (Nat.le_of_ble_eq_true rfl) dX3_startSession_19 (fun H locs hP hD hS => ?_)
  have hP : va_P G.1 vwCl [(h0, .inr (5, [.int num, .int p1, .long (-9223372036854775808), .int 0, .int 0, .int aws, .int oct, .int ksf, .int ou, .ref tu, .ref tk]))] H := hP
  have hD : va_D A [(h0, .inr (5, [.int num, .int p1, .long (-9223372036854775808), .int 0, .int 0, .int aws, .int oct, .int ksf, .int ou, .ref tu, .ref tk]))] := hD
  exact W.vret hx hb hr (fun t ht hW => ⟨⟨(p1, (-9223372036854775808), 0, 0), rfl, hF.symm, by rw [ht]; exact hP.sub [0] rfl, hD.sub [0] (by decide) rfl⟩, hS.F ht⟩) hS.2.2 dX3_startSession_22

def F_X3_awaitKey (num : Int32) (ses : Int32) (rol : Int64) (opn : Int32) (awl : Int32) (aws : Int32) (oct : Int32) (ksf : Int32) (ou : Int32) (p1 : Int32) (p2 : Int32) : Int32 × Int32 × Int32 :=
  (p1, p2, p2)
set_option maxHeartbeats 4000000 in
set_option maxRecDepth 100000 in
theorem c_X3_awaitKey (l : Launch) (G : gG) (h0 tu tk : Nat) (sz : Nat) (num : Int32) (ses : Int32) (rol : Int64) (opn : Int32) (awl : Int32) (aws : Int32) (oct : Int32) (ksf : Int32) (ou : Int32) (p1 : Int32) (p2 : Int32) : Met l yX3_awaitKey wsX3_awaitKey ({ frames := 0, cells := 0, slots := 0, locals := 0 }) (va_Pc [.ref h0, .int p1, .int p2] (pR G [(h0, .inr (5, [.int num, .int ses, .long rol, .int opn, .int awl, .int aws, .int oct, .int ksf, .int ou, .ref tu, .ref tk]))] sz)) (va_Qv (fun (u : Int32 × Int32 × Int32) => u = F_X3_awaitKey num ses rol opn awl aws oct ksf ou p1 p2) (fun u t => pO G [(h0, .inr (5, [.int num, .int ses, .long rol, .int opn, .int u.1, .int u.2.1, .int oct, .int ksf, .int u.2.2, .ref tu, .ref tk]))] (va_A [(h0, .inr (5, [.int num, .int ses, .long rol, .int opn, .int awl, .int aws, .int oct, .int ksf, .int ou, .ref tu, .ref tk]))] sz) t) (va_A [(h0, .inr (5, [.int num, .int ses, .long rol, .int opn, .int awl, .int aws, .int oct, .int ksf, .int ou, .ref tu, .ref tk]))] sz)) 0 0 (va_A [(h0, .inr (5, [.int num, .int ses, .long rol, .int opn, .int awl, .int aws, .int oct, .int ksf, .int ou, .ref tu, .ref tk]))] sz) := by
  refine Met.ofW (cc := cX3_awaitKey) (maxL := 3) (ret := none) (by decide) rfl ?_
  intro p e s m args below meth c s₁ B hml hv
  obtain ⟨rfl, hsz, hP, hK, hD0⟩ := hv
  have hx := B.exec
  have hb := B.bytes
  have hr := B.returns
  have hts := atoms_spec (ws := wsX3_awaitKey) B.pre
  have hown : s.vm.findClass RX3 = some m.cls := findClass_of_methodNamed B.named
  have hlocks := B.notSynchronized
  subst hsz
  have iX3 : ∀ w ∈ wsX30, w ∈ wsX3_awaitKey := by decide +kernel
  have hD := hD0.self (sz := s.heap.size)
  generalize hAe : va_A [(h0, .inr (5, [.int num, .int ses, .long rol, .int opn, .int awl, .int aws, .int oct, .int ksf, .int ou, .ref tu, .ref tk]))] s.heap.size = A at hD ⊢
  have hA : ∀ q : Nat, s.heap.size ≤ q → A q := fun q h => by rw [← hAe]; exact Or.inr h
  have hS : va_S A s.heap s.heap [] := va_S.rf
  have hP : va_P G.1 vwCl [(h0, .inr (5, [.int num, .int ses, .long rol, .int opn, .int awl, .int aws, .int oct, .int ksf, .int ou, .ref tu, .ref tk]))] s.heap := hP
  have hl := lv_entry ([.ref h0, .int p1, .int p2]) (n := 3) (Nat.le_of_ble_eq_true rfl)
  rw [lg_entry_eq]
  generalize (lg_sl ([.ref h0, .int p1, .int p2]) ++ List.replicate (3 - (lg_sl ([.ref h0, .int p1, .int p2])).length) Slot.unset).toArray = ls at hl ⊢
  have hl : lv_has ls 3 [(0, .ref h0), (1, .int p1), (2, .int p2)] := hl
  have hF : F_X3_awaitKey num ses rol opn awl aws oct ksf ou p1 p2 = F_X3_awaitKey num ses rol opn awl aws oct ksf ou p1 p2 := rfl
  refine lv_aload_n hx hb dX3_awaitKey_0 rfl (lv_at hl 0 rfl) ?_
  refine lv_iload_n hx hb dX3_awaitKey_1 rfl (lv_at hl 2 rfl) ?_
  refine va_put (D := G.1) (ci := 5) (v := .int p2) (ty := .int) (C := RX3) (T := TX3) (N := 11) hx hb hts iX3 tyX3 tyX3_ok nmX3 hown hK.1 hP hD hS 0 rfl rfl 8 (by decide) (hts (.fieldLink RX3 44 "RightsSteps$Tester" "out" "I") (by decide +kernel)) (fun _ h9 => h9) rfl (by decide +kernel) rfl rfl (Nat.le_of_ble_eq_true rfl) dX3_awaitKey_2 (fun H locs hP hD hS => ?_)
  have hP : va_P G.1 vwCl [(h0, .inr (5, [.int num, .int ses, .long rol, .int opn, .int awl, .int aws, .int oct, .int ksf, .int p2, .ref tu, .ref tk]))] H := hP
  have hD : va_D A [(h0, .inr (5, [.int num, .int ses, .long rol, .int opn, .int awl, .int aws, .int oct, .int ksf, .int p2, .ref tu, .ref tk]))] := hD
  refine lv_aload_n hx hb dX3_awaitKey_5 rfl (lv_at hl 0 rfl) ?_
  refine lv_iload_n hx hb dX3_awaitKey_6 rfl (lv_at hl 1 rfl) ?_
  refine va_put (D := G.1) (ci := 5) (v := .int p1) (ty := .int) (C := RX3) (T := TX3) (N := 11) hx hb hts iX3 tyX3 tyX3_ok nmX3 hown hK.1 hP hD hS 0 rfl rfl 4 (by decide) (hts (.fieldLink RX3 24 "RightsSteps$Tester" "awaitedLevel" "I") (by decide +kernel)) (fun _ h9 => h9) rfl (by decide +kernel) rfl rfl (Nat.le_of_ble_eq_true rfl) dX3_awaitKey_7 (fun H locs hP hD hS => ?_)
  have hP : va_P G.1 vwCl [(h0, .inr (5, [.int num, .int ses, .long rol, .int opn, .int p1, .int aws, .int oct, .int ksf, .int p2, .ref tu, .ref tk]))] H := hP
  have hD : va_D A [(h0, .inr (5, [.int num, .int ses, .long rol, .int opn, .int p1, .int aws, .int oct, .int ksf, .int p2, .ref tu, .ref tk]))] := hD
  refine lv_aload_n hx hb dX3_awaitKey_10 rfl (lv_at hl 0 rfl) ?_
  refine lv_iload_n hx hb dX3_awaitKey_11 rfl (lv_at hl 2 rfl) ?_
  refine va_put (D := G.1) (ci := 5) (v := .int p2) (ty := .int) (C := RX3) (T := TX3) (N := 11) hx hb hts iX3 tyX3 tyX3_ok nmX3 hown hK.1 hP hD hS 0 rfl rfl 5 (by decide) (hts (.fieldLink RX3 47 "RightsSteps$Tester" "awaitedSeed" "I") (by decide +kernel)) (fun _ h9 => h9) rfl (by decide +kernel) rfl rfl (Nat.le_of_ble_eq_true rfl) dX3_awaitKey_12 (fun H locs hP hD hS => ?_)
  have hP : va_P G.1 vwCl [(h0, .inr (5, [.int num, .int ses, .long rol, .int opn, .int p1, .int p2, .int oct, .int ksf, .int p2, .ref tu, .ref tk]))] H := hP
  have hD : va_D A [(h0, .inr (5, [.int num, .int ses, .long rol, .int opn, .int p1, .int p2, .int oct, .int ksf, .int p2, .ref tu, .ref tk]))] := hD
  exact W.vret hx hb hr (fun t ht hW => ⟨⟨(p1, p2, p2), rfl, hF.symm, by rw [ht]; exact hP.sub [0] rfl, hD.sub [0] (by decide) rfl⟩, hS.F ht⟩) hS.2.2 dX3_awaitKey_15

def F_X3_addOctet (num : Int32) (ses : Int32) (rol : Int64) (opn : Int32) (awl : Int32) (aws : Int32) (oct : Int32) (ksf : Int32) (ou : Int32) (p1 : Int32) : Int32 × Int32 :=
  (if 4 < oct then (oct, ((ksf <<< (8 &&& 31)) ||| (p1 &&& 255))) else ((oct + 1), ((ksf <<< (8 &&& 31)) ||| (p1 &&& 255))))
set_option maxHeartbeats 4000000 in
set_option maxRecDepth 100000 in
theorem c_X3_addOctet (l : Launch) (G : gG) (h0 tu tk : Nat) (sz : Nat) (num : Int32) (ses : Int32) (rol : Int64) (opn : Int32) (awl : Int32) (aws : Int32) (oct : Int32) (ksf : Int32) (ou : Int32) (p1 : Int32) : Met l yX3_addOctet wsX3_addOctet ({ frames := 0, cells := 0, slots := 0, locals := 0 }) (va_Pc [.ref h0, .int p1] (pR G [(h0, .inr (5, [.int num, .int ses, .long rol, .int opn, .int awl, .int aws, .int oct, .int ksf, .int ou, .ref tu, .ref tk]))] sz)) (va_Qv (fun (u : Int32 × Int32) => u = F_X3_addOctet num ses rol opn awl aws oct ksf ou p1) (fun u t => pO G [(h0, .inr (5, [.int num, .int ses, .long rol, .int opn, .int awl, .int aws, .int u.1, .int u.2, .int ou, .ref tu, .ref tk]))] (va_A [(h0, .inr (5, [.int num, .int ses, .long rol, .int opn, .int awl, .int aws, .int oct, .int ksf, .int ou, .ref tu, .ref tk]))] sz) t) (va_A [(h0, .inr (5, [.int num, .int ses, .long rol, .int opn, .int awl, .int aws, .int oct, .int ksf, .int ou, .ref tu, .ref tk]))] sz)) 0 0 (va_A [(h0, .inr (5, [.int num, .int ses, .long rol, .int opn, .int awl, .int aws, .int oct, .int ksf, .int ou, .ref tu, .ref tk]))] sz) := by
  refine Met.ofW (cc := cX3_addOctet) (maxL := 2) (ret := none) (by decide) rfl ?_
  intro p e s m args below meth c s₁ B hml hv
  obtain ⟨rfl, hsz, hP, hK, hD0⟩ := hv
  have hx := B.exec
  have hb := B.bytes
  have hr := B.returns
  have hts := atoms_spec (ws := wsX3_addOctet) B.pre
  have hown : s.vm.findClass RX3 = some m.cls := findClass_of_methodNamed B.named
  have hlocks := B.notSynchronized
  subst hsz
  have iX3 : ∀ w ∈ wsX30, w ∈ wsX3_addOctet := by decide +kernel
  have hD := hD0.self (sz := s.heap.size)
  generalize hAe : va_A [(h0, .inr (5, [.int num, .int ses, .long rol, .int opn, .int awl, .int aws, .int oct, .int ksf, .int ou, .ref tu, .ref tk]))] s.heap.size = A at hD ⊢
  have hA : ∀ q : Nat, s.heap.size ≤ q → A q := fun q h => by rw [← hAe]; exact Or.inr h
  have hS : va_S A s.heap s.heap [] := va_S.rf
  have hP : va_P G.1 vwCl [(h0, .inr (5, [.int num, .int ses, .long rol, .int opn, .int awl, .int aws, .int oct, .int ksf, .int ou, .ref tu, .ref tk]))] s.heap := hP
  have hl := lv_entry ([.ref h0, .int p1]) (n := 2) (Nat.le_of_ble_eq_true rfl)
  rw [lg_entry_eq]
  generalize (lg_sl ([.ref h0, .int p1]) ++ List.replicate (2 - (lg_sl ([.ref h0, .int p1])).length) Slot.unset).toArray = ls at hl ⊢
  have hl : lv_has ls 2 [(0, .ref h0), (1, .int p1)] := hl
  have hF : F_X3_addOctet num ses rol opn awl aws oct ksf ou p1 = F_X3_addOctet num ses rol opn awl aws oct ksf ou p1 := rfl
  refine lv_aload_n hx hb dX3_addOctet_0 rfl (lv_at hl 0 rfl) ?_
  refine va_get (D := G.1) (ci := 5) (v := .int oct) (C := RX3) (T := TX3) (N := 11) hx hb hts iX3 hown hK.1 hP 0 rfl rfl 6 (by decide) (hts (.fieldLink RX3 50 "RightsSteps$Tester" "octets" "I") (by decide +kernel)) (fun _ h9 => h9) rfl dX3_addOctet_1 ?_
  refine lv_iconst (v := 4) hx hb dX3_addOctet_4 (by decide) ?_
  refine lv_icmp_gt (tgt := 18) hx hb dX3_addOctet_5 (by decide) (fun c_5 => ?_) (fun c_5 => ?_)
  · have hF := if_t hF c_5
    refine lv_aload_n hx hb dX3_addOctet_18 rfl (lv_at hl 0 rfl) ?_
    refine lv_aload_n hx hb dX3_addOctet_19 rfl (lv_at hl 0 rfl) ?_
    refine va_get (D := G.1) (ci := 5) (v := .int ksf) (C := RX3) (T := TX3) (N := 11) hx hb hts iX3 hown hK.1 hP 0 rfl rfl 7 (by decide) (hts (.fieldLink RX3 53 "RightsSteps$Tester" "keySoFar" "I") (by decide +kernel)) (fun _ h9 => h9) rfl dX3_addOctet_20 ?_
    refine lv_bipush (v := 8) hx hb dX3_addOctet_23 (by decide) ?_
    refine lv_ishl hx hb dX3_addOctet_25 ?_
    refine lv_iload_n hx hb dX3_addOctet_26 rfl (lv_at hl 1 rfl) ?_
    refine lv_sipush (v := 255) hx hb dX3_addOctet_27 (by decide) ?_
    refine lv_iand hx hb dX3_addOctet_30 ?_
    refine lv_ior hx hb dX3_addOctet_31 ?_
    refine va_put (D := G.1) (ci := 5) (v := .int ((ksf <<< (8 &&& 31)) ||| (p1 &&& 255))) (ty := .int) (C := RX3) (T := TX3) (N := 11) hx hb hts iX3 tyX3 tyX3_ok nmX3 hown hK.1 hP hD hS 0 rfl rfl 7 (by decide) (hts (.fieldLink RX3 53 "RightsSteps$Tester" "keySoFar" "I") (by decide +kernel)) (fun _ h9 => h9) rfl (by decide +kernel) rfl rfl (Nat.le_of_ble_eq_true rfl) dX3_addOctet_32 (fun H locs hP hD hS => ?_)
    have hP : va_P G.1 vwCl [(h0, .inr (5, [.int num, .int ses, .long rol, .int opn, .int awl, .int aws, .int oct, .int ((ksf <<< (8 &&& 31)) ||| (p1 &&& 255)), .int ou, .ref tu, .ref tk]))] H := hP
    have hD : va_D A [(h0, .inr (5, [.int num, .int ses, .long rol, .int opn, .int awl, .int aws, .int oct, .int ((ksf <<< (8 &&& 31)) ||| (p1 &&& 255)), .int ou, .ref tu, .ref tk]))] := hD
    exact W.vret hx hb hr (fun t ht hW => ⟨⟨(oct, ((ksf <<< (8 &&& 31)) ||| (p1 &&& 255))), rfl, hF.symm, by rw [ht]; exact hP.sub [0] rfl, hD.sub [0] (by decide) rfl⟩, hS.F ht⟩) hS.2.2 dX3_addOctet_35
  · have hF := if_f hF c_5
    refine lv_aload_n hx hb dX3_addOctet_8 rfl (lv_at hl 0 rfl) ?_
    refine lv_dup hx hb dX3_addOctet_9 rfl ?_
    refine va_get (D := G.1) (ci := 5) (v := .int oct) (C := RX3) (T := TX3) (N := 11) hx hb hts iX3 hown hK.1 hP 0 rfl rfl 6 (by decide) (hts (.fieldLink RX3 50 "RightsSteps$Tester" "octets" "I") (by decide +kernel)) (fun _ h9 => h9) rfl dX3_addOctet_10 ?_
    refine lv_iconst (v := 1) hx hb dX3_addOctet_13 (by decide) ?_
    refine lv_iadd hx hb dX3_addOctet_14 ?_
    refine va_put (D := G.1) (ci := 5) (v := .int (oct + 1)) (ty := .int) (C := RX3) (T := TX3) (N := 11) hx hb hts iX3 tyX3 tyX3_ok nmX3 hown hK.1 hP hD hS 0 rfl rfl 6 (by decide) (hts (.fieldLink RX3 50 "RightsSteps$Tester" "octets" "I") (by decide +kernel)) (fun _ h9 => h9) rfl (by decide +kernel) rfl rfl (Nat.le_of_ble_eq_true rfl) dX3_addOctet_15 (fun H locs hP hD hS => ?_)
    have hP : va_P G.1 vwCl [(h0, .inr (5, [.int num, .int ses, .long rol, .int opn, .int awl, .int aws, .int (oct + 1), .int ksf, .int ou, .ref tu, .ref tk]))] H := hP
    have hD : va_D A [(h0, .inr (5, [.int num, .int ses, .long rol, .int opn, .int awl, .int aws, .int (oct + 1), .int ksf, .int ou, .ref tu, .ref tk]))] := hD
    refine lv_aload_n hx hb dX3_addOctet_18 rfl (lv_at hl 0 rfl) ?_
    refine lv_aload_n hx hb dX3_addOctet_19 rfl (lv_at hl 0 rfl) ?_
    refine va_get (D := G.1) (ci := 5) (v := .int ksf) (C := RX3) (T := TX3) (N := 11) hx hb hts iX3 hown hK.1 hP 0 rfl rfl 7 (by decide) (hts (.fieldLink RX3 53 "RightsSteps$Tester" "keySoFar" "I") (by decide +kernel)) (fun _ h9 => h9) rfl dX3_addOctet_20 ?_
    refine lv_bipush (v := 8) hx hb dX3_addOctet_23 (by decide) ?_
    refine lv_ishl hx hb dX3_addOctet_25 ?_
    refine lv_iload_n hx hb dX3_addOctet_26 rfl (lv_at hl 1 rfl) ?_
    refine lv_sipush (v := 255) hx hb dX3_addOctet_27 (by decide) ?_
    refine lv_iand hx hb dX3_addOctet_30 ?_
    refine lv_ior hx hb dX3_addOctet_31 ?_
    refine va_put (D := G.1) (ci := 5) (v := .int ((ksf <<< (8 &&& 31)) ||| (p1 &&& 255))) (ty := .int) (C := RX3) (T := TX3) (N := 11) hx hb hts iX3 tyX3 tyX3_ok nmX3 hown hK.1 hP hD hS 0 rfl rfl 7 (by decide) (hts (.fieldLink RX3 53 "RightsSteps$Tester" "keySoFar" "I") (by decide +kernel)) (fun _ h9 => h9) rfl (by decide +kernel) rfl rfl (Nat.le_of_ble_eq_true rfl) dX3_addOctet_32 (fun H locs hP hD hS => ?_)
    have hP : va_P G.1 vwCl [(h0, .inr (5, [.int num, .int ses, .long rol, .int opn, .int awl, .int aws, .int (oct + 1), .int ((ksf <<< (8 &&& 31)) ||| (p1 &&& 255)), .int ou, .ref tu, .ref tk]))] H := hP
    have hD : va_D A [(h0, .inr (5, [.int num, .int ses, .long rol, .int opn, .int awl, .int aws, .int (oct + 1), .int ((ksf <<< (8 &&& 31)) ||| (p1 &&& 255)), .int ou, .ref tu, .ref tk]))] := hD
    exact W.vret hx hb hr (fun t ht hW => ⟨⟨((oct + 1), ((ksf <<< (8 &&& 31)) ||| (p1 &&& 255))), rfl, hF.symm, by rw [ht]; exact hP.sub [0] rfl, hD.sub [0] (by decide) rfl⟩, hS.F ht⟩) hS.2.2 dX3_addOctet_35

def F_X3_dropOctets (num : Int32) (ses : Int32) (rol : Int64) (opn : Int32) (awl : Int32) (aws : Int32) (oct : Int32) (ksf : Int32) (ou : Int32) : Int32 × Int32 :=
  (0, 0)
set_option maxHeartbeats 4000000 in
set_option maxRecDepth 100000 in
theorem c_X3_dropOctets (l : Launch) (G : gG) (h0 tu tk : Nat) (sz : Nat) (num : Int32) (ses : Int32) (rol : Int64) (opn : Int32) (awl : Int32) (aws : Int32) (oct : Int32) (ksf : Int32) (ou : Int32) : Met l yX3_dropOctets wsX3_dropOctets ({ frames := 0, cells := 0, slots := 0, locals := 0 }) (va_Pc [.ref h0] (pR G [(h0, .inr (5, [.int num, .int ses, .long rol, .int opn, .int awl, .int aws, .int oct, .int ksf, .int ou, .ref tu, .ref tk]))] sz)) (va_Qv (fun (u : Int32 × Int32) => u = F_X3_dropOctets num ses rol opn awl aws oct ksf ou) (fun u t => pO G [(h0, .inr (5, [.int num, .int ses, .long rol, .int opn, .int awl, .int aws, .int u.1, .int u.2, .int ou, .ref tu, .ref tk]))] (va_A [(h0, .inr (5, [.int num, .int ses, .long rol, .int opn, .int awl, .int aws, .int oct, .int ksf, .int ou, .ref tu, .ref tk]))] sz) t) (va_A [(h0, .inr (5, [.int num, .int ses, .long rol, .int opn, .int awl, .int aws, .int oct, .int ksf, .int ou, .ref tu, .ref tk]))] sz)) 0 0 (va_A [(h0, .inr (5, [.int num, .int ses, .long rol, .int opn, .int awl, .int aws, .int oct, .int ksf, .int ou, .ref tu, .ref tk]))] sz) := by
  refine Met.ofW (cc := cX3_dropOctets) (maxL := 1) (ret := none) (by decide) rfl ?_
  intro p e s m args below meth c s₁ B hml hv
  obtain ⟨rfl, hsz, hP, hK, hD0⟩ := hv
  have hx := B.exec
  have hb := B.bytes
  have hr := B.returns
  have hts := atoms_spec (ws := wsX3_dropOctets) B.pre
  have hown : s.vm.findClass RX3 = some m.cls := findClass_of_methodNamed B.named
  have hlocks := B.notSynchronized
  subst hsz
  have iX3 : ∀ w ∈ wsX30, w ∈ wsX3_dropOctets := by decide +kernel
  have hD := hD0.self (sz := s.heap.size)
  generalize hAe : va_A [(h0, .inr (5, [.int num, .int ses, .long rol, .int opn, .int awl, .int aws, .int oct, .int ksf, .int ou, .ref tu, .ref tk]))] s.heap.size = A at hD ⊢
  have hA : ∀ q : Nat, s.heap.size ≤ q → A q := fun q h => by rw [← hAe]; exact Or.inr h
  have hS : va_S A s.heap s.heap [] := va_S.rf
  have hP : va_P G.1 vwCl [(h0, .inr (5, [.int num, .int ses, .long rol, .int opn, .int awl, .int aws, .int oct, .int ksf, .int ou, .ref tu, .ref tk]))] s.heap := hP
  have hl := lv_entry ([.ref h0]) (n := 1) (Nat.le_of_ble_eq_true rfl)
  rw [lg_entry_eq]
  generalize (lg_sl ([.ref h0]) ++ List.replicate (1 - (lg_sl ([.ref h0])).length) Slot.unset).toArray = ls at hl ⊢
  have hl : lv_has ls 1 [(0, .ref h0)] := hl
  have hF : F_X3_dropOctets num ses rol opn awl aws oct ksf ou = F_X3_dropOctets num ses rol opn awl aws oct ksf ou := rfl
  refine lv_aload_n hx hb dX3_dropOctets_0 rfl (lv_at hl 0 rfl) ?_
  refine lv_iconst (v := 0) hx hb dX3_dropOctets_1 (by decide) ?_
  refine va_put (D := G.1) (ci := 5) (v := .int 0) (ty := .int) (C := RX3) (T := TX3) (N := 11) hx hb hts iX3 tyX3 tyX3_ok nmX3 hown hK.1 hP hD hS 0 rfl rfl 6 (by decide) (hts (.fieldLink RX3 50 "RightsSteps$Tester" "octets" "I") (by decide +kernel)) (fun _ h9 => h9) rfl (by decide +kernel) rfl rfl (Nat.le_of_ble_eq_true rfl) dX3_dropOctets_2 (fun H locs hP hD hS => ?_)
  have hP : va_P G.1 vwCl [(h0, .inr (5, [.int num, .int ses, .long rol, .int opn, .int awl, .int aws, .int 0, .int ksf, .int ou, .ref tu, .ref tk]))] H := hP
  have hD : va_D A [(h0, .inr (5, [.int num, .int ses, .long rol, .int opn, .int awl, .int aws, .int 0, .int ksf, .int ou, .ref tu, .ref tk]))] := hD
  refine lv_aload_n hx hb dX3_dropOctets_5 rfl (lv_at hl 0 rfl) ?_
  refine lv_iconst (v := 0) hx hb dX3_dropOctets_6 (by decide) ?_
  refine va_put (D := G.1) (ci := 5) (v := .int 0) (ty := .int) (C := RX3) (T := TX3) (N := 11) hx hb hts iX3 tyX3 tyX3_ok nmX3 hown hK.1 hP hD hS 0 rfl rfl 7 (by decide) (hts (.fieldLink RX3 53 "RightsSteps$Tester" "keySoFar" "I") (by decide +kernel)) (fun _ h9 => h9) rfl (by decide +kernel) rfl rfl (Nat.le_of_ble_eq_true rfl) dX3_dropOctets_7 (fun H locs hP hD hS => ?_)
  have hP : va_P G.1 vwCl [(h0, .inr (5, [.int num, .int ses, .long rol, .int opn, .int awl, .int aws, .int 0, .int 0, .int ou, .ref tu, .ref tk]))] H := hP
  have hD : va_D A [(h0, .inr (5, [.int num, .int ses, .long rol, .int opn, .int awl, .int aws, .int 0, .int 0, .int ou, .ref tu, .ref tk]))] := hD
  exact W.vret hx hb hr (fun t ht hW => ⟨⟨(0, 0), rfl, hF.symm, by rw [ht]; exact hP.sub [0] rfl, hD.sub [0] (by decide) rfl⟩, hS.F ht⟩) hS.2.2 dX3_dropOctets_10

def F_X3_usedTries (num : Int32) (ses : Int32) (rol : Int64) (opn : Int32) (awl : Int32) (aws : Int32) (oct : Int32) (ksf : Int32) (ou : Int32) (ut : Nat → Int32) (p1 : Int32) : Int32 :=
  (if p1 < 0 then 0 else (if p1 < 21 then (ut (p1 : Int32).toNatClampNeg) else 0))
set_option maxHeartbeats 4000000 in
set_option maxRecDepth 100000 in
theorem c_X3_usedTries (l : Launch) (G : gG) (h0 tu tk : Nat) (sz : Nat) (num : Int32) (ses : Int32) (rol : Int64) (opn : Int32) (awl : Int32) (aws : Int32) (oct : Int32) (ksf : Int32) (ou : Int32) (ut : Nat → Int32) (p1 : Int32) : Met l yX3_usedTries wsX3_usedTries ({ frames := 0, cells := 0, slots := 0, locals := 0 }) (va_Pc [.ref h0, .int p1] (pR G [(h0, .inr (5, [.int num, .int ses, .long rol, .int opn, .int awl, .int aws, .int oct, .int ksf, .int ou, .ref tu, .ref tk])), (tu, .inl (G.2 0, 21, .inl ut))] sz)) (pQ (.int (F_X3_usedTries num ses rol opn awl aws oct ksf ou ut p1))) 0 0 (fun _ => False) := by
  refine Met.ofW (cc := cX3_usedTries) (maxL := 2) (ret := (some .int)) (by decide) rfl ?_
  intro p e s m args below meth c s₁ B hml hv
  obtain ⟨rfl, hsz, hP, hK, hD0⟩ := hv
  have hx := B.exec
  have hb := B.bytes
  have hr := B.returns
  have hts := atoms_spec (ws := wsX3_usedTries) B.pre
  have hown : s.vm.findClass RX3 = some m.cls := findClass_of_methodNamed B.named
  have hlocks := B.notSynchronized
  subst hsz
  have iX3 : ∀ w ∈ wsX30, w ∈ wsX3_usedTries := by decide +kernel
  have hD := hD0
  have hP : va_P G.1 vwCl [(h0, .inr (5, [.int num, .int ses, .long rol, .int opn, .int awl, .int aws, .int oct, .int ksf, .int ou, .ref tu, .ref tk])), (tu, .inl (G.2 0, 21, .inl ut))] s.heap := hP
  have hl := lv_entry ([.ref h0, .int p1]) (n := 2) (Nat.le_of_ble_eq_true rfl)
  rw [lg_entry_eq]
  generalize (lg_sl ([.ref h0, .int p1]) ++ List.replicate (2 - (lg_sl ([.ref h0, .int p1])).length) Slot.unset).toArray = ls at hl ⊢
  have hl : lv_has ls 2 [(0, .ref h0), (1, .int p1)] := hl
  have hF : F_X3_usedTries num ses rol opn awl aws oct ksf ou ut p1 = F_X3_usedTries num ses rol opn awl aws oct ksf ou ut p1 := rfl
  refine lv_iload_n hx hb dX3_usedTries_0 rfl (lv_at hl 1 rfl) ?_
  refine lv_if_lt (tgt := 13) hx hb dX3_usedTries_1 (by decide) (fun c_1 => ?_) (fun c_1 => ?_)
  · have hF := if_t hF c_1
    refine lv_iconst (v := 0) hx hb dX3_usedTries_13 (by decide) ?_
    refine lv_goto (tgt := 23) hx hb dX3_usedTries_14 (by decide) ?_
    exact W.iret (v := 0) hx hb hr (fun t ht hW => ⟨by rw [hF], ht⟩) (fun _ h => by cases h) dX3_usedTries_23
  · have hF := if_f hF c_1
    refine lv_iload_n hx hb dX3_usedTries_4 rfl (lv_at hl 1 rfl) ?_
    refine lv_aload_n hx hb dX3_usedTries_5 rfl (lv_at hl 0 rfl) ?_
    refine va_get (D := G.1) (ci := 5) (v := .ref tu) (C := RX3) (T := TX3) (N := 11) hx hb hts iX3 hown hK.1 hP 0 rfl rfl 9 (by decide) (hts (.fieldLink RX3 27 "RightsSteps$Tester" "usedTries" "[I") (by decide +kernel)) (fun _ h9 => h9) rfl dX3_usedTries_6 ?_
    refine va_alen (v := 21) hx hb hK.1 hP 1 0 rfl rfl rfl dX3_usedTries_9 ?_
    refine lv_icmp_lt (tgt := 17) hx hb dX3_usedTries_10 (by decide) (fun c_10 => ?_) (fun c_10 => ?_)
    · have hF := if_t hF c_10
      refine lv_aload_n hx hb dX3_usedTries_17 rfl (lv_at hl 0 rfl) ?_
      refine va_get (D := G.1) (ci := 5) (v := .ref tu) (C := RX3) (T := TX3) (N := 11) hx hb hts iX3 hown hK.1 hP 0 rfl rfl 9 (by decide) (hts (.fieldLink RX3 27 "RightsSteps$Tester" "usedTries" "[I") (by decide +kernel)) (fun _ h9 => h9) rfl dX3_usedTries_18 ?_
      refine lv_iload_n hx hb dX3_usedTries_21 rfl (lv_at hl 1 rfl) ?_
      refine va_iald (f := ut) hx hb hK.1 hP 1 0 rfl rfl (in_lo c_1 c_10 rfl) dX3_usedTries_22 ?_
      exact W.iret (v := (ut (p1 : Int32).toNatClampNeg)) hx hb hr (fun t ht hW => ⟨by rw [hF], ht⟩) (fun _ h => by cases h) dX3_usedTries_23
    · have hF := if_f hF c_10
      refine lv_iconst (v := 0) hx hb dX3_usedTries_13 (by decide) ?_
      refine lv_goto (tgt := 23) hx hb dX3_usedTries_14 (by decide) ?_
      exact W.iret (v := 0) hx hb hr (fun t ht hW => ⟨by rw [hF], ht⟩) (fun _ h => by cases h) dX3_usedTries_23

def F_X3_setUsedTries (num : Int32) (ses : Int32) (rol : Int64) (opn : Int32) (awl : Int32) (aws : Int32) (oct : Int32) (ksf : Int32) (ou : Int32) (ut : Nat → Int32) (p1 : Int32) (p2 : Int32) : (Nat → Int32) :=
  (if p1 < 0 then ut else (if 21 ≤ p1 then ut else (upd ut (p1 : Int32).toNatClampNeg p2)))
set_option maxHeartbeats 4000000 in
set_option maxRecDepth 100000 in
theorem c_X3_setUsedTries (l : Launch) (G : gG) (h0 tu tk : Nat) (sz : Nat) (num : Int32) (ses : Int32) (rol : Int64) (opn : Int32) (awl : Int32) (aws : Int32) (oct : Int32) (ksf : Int32) (ou : Int32) (ut : Nat → Int32) (p1 : Int32) (p2 : Int32) : Met l yX3_setUsedTries wsX3_setUsedTries ({ frames := 0, cells := 0, slots := 0, locals := 0 }) (va_Pc [.ref h0, .int p1, .int p2] (pR G [(h0, .inr (5, [.int num, .int ses, .long rol, .int opn, .int awl, .int aws, .int oct, .int ksf, .int ou, .ref tu, .ref tk])), (tu, .inl (G.2 0, 21, .inl ut))] sz)) (va_Qv (fun (u : (Nat → Int32)) => u = F_X3_setUsedTries num ses rol opn awl aws oct ksf ou ut p1 p2) (fun u t => pO G [(h0, .inr (5, [.int num, .int ses, .long rol, .int opn, .int awl, .int aws, .int oct, .int ksf, .int ou, .ref tu, .ref tk])), (tu, .inl (G.2 0, 21, .inl u))] (va_A [(h0, .inr (5, [.int num, .int ses, .long rol, .int opn, .int awl, .int aws, .int oct, .int ksf, .int ou, .ref tu, .ref tk])), (tu, .inl (G.2 0, 21, .inl ut))] sz) t) (va_A [(h0, .inr (5, [.int num, .int ses, .long rol, .int opn, .int awl, .int aws, .int oct, .int ksf, .int ou, .ref tu, .ref tk])), (tu, .inl (G.2 0, 21, .inl ut))] sz)) 0 0 (va_A [(h0, .inr (5, [.int num, .int ses, .long rol, .int opn, .int awl, .int aws, .int oct, .int ksf, .int ou, .ref tu, .ref tk])), (tu, .inl (G.2 0, 21, .inl ut))] sz) := by
  refine Met.ofW (cc := cX3_setUsedTries) (maxL := 3) (ret := none) (by decide) rfl ?_
  intro p e s m args below meth c s₁ B hml hv
  obtain ⟨rfl, hsz, hP, hK, hD0⟩ := hv
  have hx := B.exec
  have hb := B.bytes
  have hr := B.returns
  have hts := atoms_spec (ws := wsX3_setUsedTries) B.pre
  have hown : s.vm.findClass RX3 = some m.cls := findClass_of_methodNamed B.named
  have hlocks := B.notSynchronized
  subst hsz
  have iX3 : ∀ w ∈ wsX30, w ∈ wsX3_setUsedTries := by decide +kernel
  have hD := hD0.self (sz := s.heap.size)
  generalize hAe : va_A [(h0, .inr (5, [.int num, .int ses, .long rol, .int opn, .int awl, .int aws, .int oct, .int ksf, .int ou, .ref tu, .ref tk])), (tu, .inl (G.2 0, 21, .inl ut))] s.heap.size = A at hD ⊢
  have hA : ∀ q : Nat, s.heap.size ≤ q → A q := fun q h => by rw [← hAe]; exact Or.inr h
  have hS : va_S A s.heap s.heap [] := va_S.rf
  have hP : va_P G.1 vwCl [(h0, .inr (5, [.int num, .int ses, .long rol, .int opn, .int awl, .int aws, .int oct, .int ksf, .int ou, .ref tu, .ref tk])), (tu, .inl (G.2 0, 21, .inl ut))] s.heap := hP
  have hl := lv_entry ([.ref h0, .int p1, .int p2]) (n := 3) (Nat.le_of_ble_eq_true rfl)
  rw [lg_entry_eq]
  generalize (lg_sl ([.ref h0, .int p1, .int p2]) ++ List.replicate (3 - (lg_sl ([.ref h0, .int p1, .int p2])).length) Slot.unset).toArray = ls at hl ⊢
  have hl : lv_has ls 3 [(0, .ref h0), (1, .int p1), (2, .int p2)] := hl
  have hF : F_X3_setUsedTries num ses rol opn awl aws oct ksf ou ut p1 p2 = F_X3_setUsedTries num ses rol opn awl aws oct ksf ou ut p1 p2 := rfl
  refine lv_iload_n hx hb dX3_setUsedTries_0 rfl (lv_at hl 1 rfl) ?_
  refine lv_if_lt (tgt := 20) hx hb dX3_setUsedTries_1 (by decide) (fun c_1 => ?_) (fun c_1 => ?_)
  · have hF := if_t hF c_1
    exact W.vret hx hb hr (fun t ht hW => ⟨⟨ut, rfl, hF.symm, by rw [ht]; exact hP.sub [0, 1] rfl, hD.sub [0, 1] (by decide) rfl⟩, hS.F ht⟩) hS.2.2 dX3_setUsedTries_20
  · have hF := if_f hF c_1
    refine lv_iload_n hx hb dX3_setUsedTries_4 rfl (lv_at hl 1 rfl) ?_
    refine lv_aload_n hx hb dX3_setUsedTries_5 rfl (lv_at hl 0 rfl) ?_
    refine va_get (D := G.1) (ci := 5) (v := .ref tu) (C := RX3) (T := TX3) (N := 11) hx hb hts iX3 hown hK.1 hP 0 rfl rfl 9 (by decide) (hts (.fieldLink RX3 27 "RightsSteps$Tester" "usedTries" "[I") (by decide +kernel)) (fun _ h9 => h9) rfl dX3_setUsedTries_6 ?_
    refine va_alen (v := 21) hx hb hK.1 hP 1 0 rfl rfl rfl dX3_setUsedTries_9 ?_
    refine lv_icmp_ge (tgt := 20) hx hb dX3_setUsedTries_10 (by decide) (fun c_10 => ?_) (fun c_10 => ?_)
    · have hF := if_t hF c_10
      exact W.vret hx hb hr (fun t ht hW => ⟨⟨ut, rfl, hF.symm, by rw [ht]; exact hP.sub [0, 1] rfl, hD.sub [0, 1] (by decide) rfl⟩, hS.F ht⟩) hS.2.2 dX3_setUsedTries_20
    · have hF := if_f hF c_10
      refine lv_aload_n hx hb dX3_setUsedTries_13 rfl (lv_at hl 0 rfl) ?_
      refine va_get (D := G.1) (ci := 5) (v := .ref tu) (C := RX3) (T := TX3) (N := 11) hx hb hts iX3 hown hK.1 hP 0 rfl rfl 9 (by decide) (hts (.fieldLink RX3 27 "RightsSteps$Tester" "usedTries" "[I") (by decide +kernel)) (fun _ h9 => h9) rfl dX3_setUsedTries_14 ?_
      refine lv_iload_n hx hb dX3_setUsedTries_17 rfl (lv_at hl 1 rfl) ?_
      refine lv_iload_n hx hb dX3_setUsedTries_18 rfl (lv_at hl 2 rfl) ?_
      refine va_iast (f := ut) hx hb hK.1 hP hD hS 1 0 rfl rfl (in_le c_1 c_10 rfl) dX3_setUsedTries_19 (fun H locs hP hD hS => ?_)
      have hP : va_P G.1 vwCl [(h0, .inr (5, [.int num, .int ses, .long rol, .int opn, .int awl, .int aws, .int oct, .int ksf, .int ou, .ref tu, .ref tk])), (tu, .inl (G.2 0, 21, .inl (upd ut (p1 : Int32).toNatClampNeg p2)))] H := hP
      have hD : va_D A [(h0, .inr (5, [.int num, .int ses, .long rol, .int opn, .int awl, .int aws, .int oct, .int ksf, .int ou, .ref tu, .ref tk])), (tu, .inl (G.2 0, 21, .inl (upd ut (p1 : Int32).toNatClampNeg p2)))] := hD
      exact W.vret hx hb hr (fun t ht hW => ⟨⟨(upd ut (p1 : Int32).toNatClampNeg p2), rfl, hF.symm, by rw [ht]; exact hP.sub [0, 1] rfl, hD.sub [0, 1] (by decide) rfl⟩, hS.F ht⟩) hS.2.2 dX3_setUsedTries_20

def F_X3_lockedUntil (num : Int32) (ses : Int32) (rol : Int64) (opn : Int32) (awl : Int32) (aws : Int32) (oct : Int32) (ksf : Int32) (ou : Int32) (lk : Nat → Int64) (p1 : Int32) : Int64 :=
  (if p1 < 0 then (-9223372036854775808) else (if p1 < 21 then (lk (p1 : Int32).toNatClampNeg) else (-9223372036854775808)))
set_option maxHeartbeats 4000000 in
set_option maxRecDepth 100000 in
theorem c_X3_lockedUntil (l : Launch) (G : gG) (h0 tk tu : Nat) (sz : Nat) (num : Int32) (ses : Int32) (rol : Int64) (opn : Int32) (awl : Int32) (aws : Int32) (oct : Int32) (ksf : Int32) (ou : Int32) (lk : Nat → Int64) (p1 : Int32) : Met l yX3_lockedUntil wsX3_lockedUntil ({ frames := 0, cells := 0, slots := 0, locals := 0 }) (va_Pc [.ref h0, .int p1] (pR G [(h0, .inr (5, [.int num, .int ses, .long rol, .int opn, .int awl, .int aws, .int oct, .int ksf, .int ou, .ref tu, .ref tk])), (tk, .inl (G.2 1, 21, .inr (.inl lk)))] sz)) (pQ (.long (F_X3_lockedUntil num ses rol opn awl aws oct ksf ou lk p1))) 0 0 (fun _ => False) := by
  refine Met.ofW (cc := cX3_lockedUntil) (maxL := 2) (ret := (some .long)) (by decide) rfl ?_
  intro p e s m args below meth c s₁ B hml hv
  obtain ⟨rfl, hsz, hP, hK, hD0⟩ := hv
  have hx := B.exec
  have hb := B.bytes
  have hr := B.returns
  have hts := atoms_spec (ws := wsX3_lockedUntil) B.pre
  have hown : s.vm.findClass RX3 = some m.cls := findClass_of_methodNamed B.named
  have hlocks := B.notSynchronized
  subst hsz
  have iX3 : ∀ w ∈ wsX30, w ∈ wsX3_lockedUntil := by decide +kernel
  have hD := hD0
  have hP : va_P G.1 vwCl [(h0, .inr (5, [.int num, .int ses, .long rol, .int opn, .int awl, .int aws, .int oct, .int ksf, .int ou, .ref tu, .ref tk])), (tk, .inl (G.2 1, 21, .inr (.inl lk)))] s.heap := hP
  have hl := lv_entry ([.ref h0, .int p1]) (n := 2) (Nat.le_of_ble_eq_true rfl)
  rw [lg_entry_eq]
  generalize (lg_sl ([.ref h0, .int p1]) ++ List.replicate (2 - (lg_sl ([.ref h0, .int p1])).length) Slot.unset).toArray = ls at hl ⊢
  have hl : lv_has ls 2 [(0, .ref h0), (1, .int p1)] := hl
  have hF : F_X3_lockedUntil num ses rol opn awl aws oct ksf ou lk p1 = F_X3_lockedUntil num ses rol opn awl aws oct ksf ou lk p1 := rfl
  refine lv_iload_n hx hb dX3_lockedUntil_0 rfl (lv_at hl 1 rfl) ?_
  refine lv_if_lt (tgt := 13) hx hb dX3_lockedUntil_1 (by decide) (fun c_1 => ?_) (fun c_1 => ?_)
  · have hF := if_t hF c_1
    refine lv_ldc2 (v := (-9223372036854775808)) hx hb hown (hts (.constantLong RX3 15 (-9223372036854775808)) (by decide +kernel)) dX3_lockedUntil_13 ?_
    refine lv_goto (tgt := 25) hx hb dX3_lockedUntil_16 (by decide) ?_
    exact W.lret (v := (-9223372036854775808)) hx hb hr (fun t ht hW => ⟨by rw [hF], ht⟩) (fun _ h => by cases h) dX3_lockedUntil_25
  · have hF := if_f hF c_1
    refine lv_iload_n hx hb dX3_lockedUntil_4 rfl (lv_at hl 1 rfl) ?_
    refine lv_aload_n hx hb dX3_lockedUntil_5 rfl (lv_at hl 0 rfl) ?_
    refine va_get (D := G.1) (ci := 5) (v := .ref tk) (C := RX3) (T := TX3) (N := 11) hx hb hts iX3 hown hK.1 hP 0 rfl rfl 10 (by decide) (hts (.fieldLink RX3 31 "RightsSteps$Tester" "lockedUntil" "[J") (by decide +kernel)) (fun _ h9 => h9) rfl dX3_lockedUntil_6 ?_
    refine va_alen (v := 21) hx hb hK.1 hP 1 1 rfl rfl rfl dX3_lockedUntil_9 ?_
    refine lv_icmp_lt (tgt := 19) hx hb dX3_lockedUntil_10 (by decide) (fun c_10 => ?_) (fun c_10 => ?_)
    · have hF := if_t hF c_10
      refine lv_aload_n hx hb dX3_lockedUntil_19 rfl (lv_at hl 0 rfl) ?_
      refine va_get (D := G.1) (ci := 5) (v := .ref tk) (C := RX3) (T := TX3) (N := 11) hx hb hts iX3 hown hK.1 hP 0 rfl rfl 10 (by decide) (hts (.fieldLink RX3 31 "RightsSteps$Tester" "lockedUntil" "[J") (by decide +kernel)) (fun _ h9 => h9) rfl dX3_lockedUntil_20 ?_
      refine lv_iload_n hx hb dX3_lockedUntil_23 rfl (lv_at hl 1 rfl) ?_
      refine va_lald (f := lk) hx hb hK.1 hP 1 1 rfl rfl (in_lo c_1 c_10 rfl) dX3_lockedUntil_24 ?_
      exact W.lret (v := (lk (p1 : Int32).toNatClampNeg)) hx hb hr (fun t ht hW => ⟨by rw [hF], ht⟩) (fun _ h => by cases h) dX3_lockedUntil_25
    · have hF := if_f hF c_10
      refine lv_ldc2 (v := (-9223372036854775808)) hx hb hown (hts (.constantLong RX3 15 (-9223372036854775808)) (by decide +kernel)) dX3_lockedUntil_13 ?_
      refine lv_goto (tgt := 25) hx hb dX3_lockedUntil_16 (by decide) ?_
      exact W.lret (v := (-9223372036854775808)) hx hb hr (fun t ht hW => ⟨by rw [hF], ht⟩) (fun _ h => by cases h) dX3_lockedUntil_25

def F_X3_lock (num : Int32) (ses : Int32) (rol : Int64) (opn : Int32) (awl : Int32) (aws : Int32) (oct : Int32) (ksf : Int32) (ou : Int32) (lk : Nat → Int64) (p1 : Int32) (p2 : Int64) : (Nat → Int64) :=
  (if p1 < 0 then lk else (if 21 ≤ p1 then lk else (vp_updL lk (p1 : Int32).toNatClampNeg p2)))
set_option maxHeartbeats 4000000 in
set_option maxRecDepth 100000 in
theorem c_X3_lock (l : Launch) (G : gG) (h0 tk tu : Nat) (sz : Nat) (num : Int32) (ses : Int32) (rol : Int64) (opn : Int32) (awl : Int32) (aws : Int32) (oct : Int32) (ksf : Int32) (ou : Int32) (lk : Nat → Int64) (p1 : Int32) (p2 : Int64) : Met l yX3_lock wsX3_lock ({ frames := 0, cells := 0, slots := 0, locals := 0 }) (va_Pc [.ref h0, .int p1, .long p2] (pR G [(h0, .inr (5, [.int num, .int ses, .long rol, .int opn, .int awl, .int aws, .int oct, .int ksf, .int ou, .ref tu, .ref tk])), (tk, .inl (G.2 1, 21, .inr (.inl lk)))] sz)) (va_Qv (fun (u : (Nat → Int64)) => u = F_X3_lock num ses rol opn awl aws oct ksf ou lk p1 p2) (fun u t => pO G [(h0, .inr (5, [.int num, .int ses, .long rol, .int opn, .int awl, .int aws, .int oct, .int ksf, .int ou, .ref tu, .ref tk])), (tk, .inl (G.2 1, 21, .inr (.inl u)))] (va_A [(h0, .inr (5, [.int num, .int ses, .long rol, .int opn, .int awl, .int aws, .int oct, .int ksf, .int ou, .ref tu, .ref tk])), (tk, .inl (G.2 1, 21, .inr (.inl lk)))] sz) t) (va_A [(h0, .inr (5, [.int num, .int ses, .long rol, .int opn, .int awl, .int aws, .int oct, .int ksf, .int ou, .ref tu, .ref tk])), (tk, .inl (G.2 1, 21, .inr (.inl lk)))] sz)) 0 0 (va_A [(h0, .inr (5, [.int num, .int ses, .long rol, .int opn, .int awl, .int aws, .int oct, .int ksf, .int ou, .ref tu, .ref tk])), (tk, .inl (G.2 1, 21, .inr (.inl lk)))] sz) := by
  refine Met.ofW (cc := cX3_lock) (maxL := 4) (ret := none) (by decide) rfl ?_
  intro p e s m args below meth c s₁ B hml hv
  obtain ⟨rfl, hsz, hP, hK, hD0⟩ := hv
  have hx := B.exec
  have hb := B.bytes
  have hr := B.returns
  have hts := atoms_spec (ws := wsX3_lock) B.pre
  have hown : s.vm.findClass RX3 = some m.cls := findClass_of_methodNamed B.named
  have hlocks := B.notSynchronized
  subst hsz
  have iX3 : ∀ w ∈ wsX30, w ∈ wsX3_lock := by decide +kernel
  have hD := hD0.self (sz := s.heap.size)
  generalize hAe : va_A [(h0, .inr (5, [.int num, .int ses, .long rol, .int opn, .int awl, .int aws, .int oct, .int ksf, .int ou, .ref tu, .ref tk])), (tk, .inl (G.2 1, 21, .inr (.inl lk)))] s.heap.size = A at hD ⊢
  have hA : ∀ q : Nat, s.heap.size ≤ q → A q := fun q h => by rw [← hAe]; exact Or.inr h
  have hS : va_S A s.heap s.heap [] := va_S.rf
  have hP : va_P G.1 vwCl [(h0, .inr (5, [.int num, .int ses, .long rol, .int opn, .int awl, .int aws, .int oct, .int ksf, .int ou, .ref tu, .ref tk])), (tk, .inl (G.2 1, 21, .inr (.inl lk)))] s.heap := hP
  have hl := lv_entry ([.ref h0, .int p1, .long p2]) (n := 4) (Nat.le_of_ble_eq_true rfl)
  rw [lg_entry_eq]
  generalize (lg_sl ([.ref h0, .int p1, .long p2]) ++ List.replicate (4 - (lg_sl ([.ref h0, .int p1, .long p2])).length) Slot.unset).toArray = ls at hl ⊢
  have hl : lv_has ls 4 [(0, .ref h0), (1, .int p1), (2, .long p2)] := hl
  have hF : F_X3_lock num ses rol opn awl aws oct ksf ou lk p1 p2 = F_X3_lock num ses rol opn awl aws oct ksf ou lk p1 p2 := rfl
  refine lv_iload_n hx hb dX3_lock_0 rfl (lv_at hl 1 rfl) ?_
  refine lv_if_lt (tgt := 20) hx hb dX3_lock_1 (by decide) (fun c_1 => ?_) (fun c_1 => ?_)
  · have hF := if_t hF c_1
    exact W.vret hx hb hr (fun t ht hW => ⟨⟨lk, rfl, hF.symm, by rw [ht]; exact hP.sub [0, 1] rfl, hD.sub [0, 1] (by decide) rfl⟩, hS.F ht⟩) hS.2.2 dX3_lock_20
  · have hF := if_f hF c_1
    refine lv_iload_n hx hb dX3_lock_4 rfl (lv_at hl 1 rfl) ?_
    refine lv_aload_n hx hb dX3_lock_5 rfl (lv_at hl 0 rfl) ?_
    refine va_get (D := G.1) (ci := 5) (v := .ref tk) (C := RX3) (T := TX3) (N := 11) hx hb hts iX3 hown hK.1 hP 0 rfl rfl 10 (by decide) (hts (.fieldLink RX3 31 "RightsSteps$Tester" "lockedUntil" "[J") (by decide +kernel)) (fun _ h9 => h9) rfl dX3_lock_6 ?_
    refine va_alen (v := 21) hx hb hK.1 hP 1 1 rfl rfl rfl dX3_lock_9 ?_
    refine lv_icmp_ge (tgt := 20) hx hb dX3_lock_10 (by decide) (fun c_10 => ?_) (fun c_10 => ?_)
    · have hF := if_t hF c_10
      exact W.vret hx hb hr (fun t ht hW => ⟨⟨lk, rfl, hF.symm, by rw [ht]; exact hP.sub [0, 1] rfl, hD.sub [0, 1] (by decide) rfl⟩, hS.F ht⟩) hS.2.2 dX3_lock_20
    · have hF := if_f hF c_10
      refine lv_aload_n hx hb dX3_lock_13 rfl (lv_at hl 0 rfl) ?_
      refine va_get (D := G.1) (ci := 5) (v := .ref tk) (C := RX3) (T := TX3) (N := 11) hx hb hts iX3 hown hK.1 hP 0 rfl rfl 10 (by decide) (hts (.fieldLink RX3 31 "RightsSteps$Tester" "lockedUntil" "[J") (by decide +kernel)) (fun _ h9 => h9) rfl dX3_lock_14 ?_
      refine lv_iload_n hx hb dX3_lock_17 rfl (lv_at hl 1 rfl) ?_
      refine lv_lload_n hx hb dX3_lock_18 rfl (lv_at hl 2 rfl) ?_
      refine va_last (f := lk) hx hb hK.1 hP hD hS 1 1 rfl rfl (in_le c_1 c_10 rfl) dX3_lock_19 (fun H locs hP hD hS => ?_)
      have hP : va_P G.1 vwCl [(h0, .inr (5, [.int num, .int ses, .long rol, .int opn, .int awl, .int aws, .int oct, .int ksf, .int ou, .ref tu, .ref tk])), (tk, .inl (G.2 1, 21, .inr (.inl (vp_updL lk (p1 : Int32).toNatClampNeg p2))))] H := hP
      have hD : va_D A [(h0, .inr (5, [.int num, .int ses, .long rol, .int opn, .int awl, .int aws, .int oct, .int ksf, .int ou, .ref tu, .ref tk])), (tk, .inl (G.2 1, 21, .inr (.inl (vp_updL lk (p1 : Int32).toNatClampNeg p2))))] := hD
      exact W.vret hx hb hr (fun t ht hW => ⟨⟨(vp_updL lk (p1 : Int32).toNatClampNeg p2), rfl, hF.symm, by rw [ht]; exact hP.sub [0, 1] rfl, hD.sub [0, 1] (by decide) rfl⟩, hS.F ht⟩) hS.2.2 dX3_lock_20

def F_X1_needsRole (lnum : Int32) (lkind : Int32) (ltries : Int32) (ldelay : Int64) : Int32 :=
  (if lnum ≤ 10 then 0 else 1)
set_option maxHeartbeats 4000000 in
set_option maxRecDepth 100000 in
theorem c_X1_needsRole (l : Launch) (G : gG) (h0 : Nat) (sz : Nat) (lnum : Int32) (lkind : Int32) (ltries : Int32) (ldelay : Int64) : Met l yX1_needsRole wsX1_needsRole ({ frames := 0, cells := 0, slots := 0, locals := 0 }) (va_Pc [.ref h0] (pR G [(h0, .inr (3, [.int lnum, .int lkind, .int ltries, .long ldelay]))] sz)) (pQ (.int (F_X1_needsRole lnum lkind ltries ldelay))) 0 0 (fun _ => False) := by
  refine Met.ofW (cc := cX1_needsRole) (maxL := 1) (ret := (some .boolean)) (by decide) rfl ?_
  intro p e s m args below meth c s₁ B hml hv
  obtain ⟨rfl, hsz, hP, hK, hD0⟩ := hv
  have hx := B.exec
  have hb := B.bytes
  have hr := B.returns
  have hts := atoms_spec (ws := wsX1_needsRole) B.pre
  have hown : s.vm.findClass RX1 = some m.cls := findClass_of_methodNamed B.named
  have hlocks := B.notSynchronized
  subst hsz
  have iX1 : ∀ w ∈ wsX10, w ∈ wsX1_needsRole := by decide +kernel
  have hD := hD0
  have hP : va_P G.1 vwCl [(h0, .inr (3, [.int lnum, .int lkind, .int ltries, .long ldelay]))] s.heap := hP
  have hl := lv_entry ([.ref h0]) (n := 1) (Nat.le_of_ble_eq_true rfl)
  rw [lg_entry_eq]
  generalize (lg_sl ([.ref h0]) ++ List.replicate (1 - (lg_sl ([.ref h0])).length) Slot.unset).toArray = ls at hl ⊢
  have hl : lv_has ls 1 [(0, .ref h0)] := hl
  have hF : F_X1_needsRole lnum lkind ltries ldelay = F_X1_needsRole lnum lkind ltries ldelay := rfl
  refine lv_aload_n hx hb dX1_needsRole_0 rfl (lv_at hl 0 rfl) ?_
  refine va_get (D := G.1) (ci := 3) (v := .int lnum) (C := RX1) (T := TX1) (N := 4) hx hb hts iX1 hown hK.1 hP 0 rfl rfl 0 (by decide) (hts (.fieldLink RX1 9 "RightsSteps$Level" "number" "I") (by decide +kernel)) (fun _ h9 => h9) rfl dX1_needsRole_1 ?_
  refine lv_bipush (v := 10) hx hb dX1_needsRole_4 (by decide) ?_
  refine lv_icmp_le (tgt := 13) hx hb dX1_needsRole_6 (by decide) (fun c_6 => ?_) (fun c_6 => ?_)
  · have hF := if_t hF c_6
    refine lv_iconst (v := 0) hx hb dX1_needsRole_13 (by decide) ?_
    exact W.zret (v := 0) (ty := .boolean) hx hb hr rfl (fun t ht hW => ⟨by rw [hF], ht⟩) (fun _ h => by cases h) dX1_needsRole_14
  · have hF := if_f hF c_6
    refine lv_iconst (v := 1) hx hb dX1_needsRole_9 (by decide) ?_
    refine lv_goto (tgt := 14) hx hb dX1_needsRole_10 (by decide) ?_
    exact W.zret (v := 1) (ty := .boolean) hx hb hr rfl (fun t ht hW => ⟨by rw [hF], ht⟩) (fun _ h => by cases h) dX1_needsRole_14

def F_X1_isForSession (lnum : Int32) (lkind : Int32) (ltries : Int32) (ldelay : Int64) (p1 : Int32) : Int32 :=
  (if p1 = 3 then 1 else (if p1 = 2 then (if 10 < lnum then 0 else 1) else 0))
set_option maxHeartbeats 4000000 in
set_option maxRecDepth 100000 in
theorem c_X1_isForSession (l : Launch) (G : gG) (h0 : Nat) (sz : Nat) (lnum : Int32) (lkind : Int32) (ltries : Int32) (ldelay : Int64) (p1 : Int32) : Met l yX1_isForSession wsX1_isForSession ({ frames := 0, cells := 0, slots := 0, locals := 0 }) (va_Pc [.ref h0, .int p1] (pR G [(h0, .inr (3, [.int lnum, .int lkind, .int ltries, .long ldelay]))] sz)) (pQ (.int (F_X1_isForSession lnum lkind ltries ldelay p1))) 0 0 (fun _ => False) := by
  refine Met.ofW (cc := cX1_isForSession) (maxL := 2) (ret := (some .boolean)) (by decide) rfl ?_
  intro p e s m args below meth c s₁ B hml hv
  obtain ⟨rfl, hsz, hP, hK, hD0⟩ := hv
  have hx := B.exec
  have hb := B.bytes
  have hr := B.returns
  have hts := atoms_spec (ws := wsX1_isForSession) B.pre
  have hown : s.vm.findClass RX1 = some m.cls := findClass_of_methodNamed B.named
  have hlocks := B.notSynchronized
  subst hsz
  have iX1 : ∀ w ∈ wsX10, w ∈ wsX1_isForSession := by decide +kernel
  have hD := hD0
  have hP : va_P G.1 vwCl [(h0, .inr (3, [.int lnum, .int lkind, .int ltries, .long ldelay]))] s.heap := hP
  have hl := lv_entry ([.ref h0, .int p1]) (n := 2) (Nat.le_of_ble_eq_true rfl)
  rw [lg_entry_eq]
  generalize (lg_sl ([.ref h0, .int p1]) ++ List.replicate (2 - (lg_sl ([.ref h0, .int p1])).length) Slot.unset).toArray = ls at hl ⊢
  have hl : lv_has ls 2 [(0, .ref h0), (1, .int p1)] := hl
  have hF : F_X1_isForSession lnum lkind ltries ldelay p1 = F_X1_isForSession lnum lkind ltries ldelay p1 := rfl
  refine lv_iload_n hx hb dX1_isForSession_0 rfl (lv_at hl 1 rfl) ?_
  refine lv_iconst (v := 3) hx hb dX1_isForSession_1 (by decide) ?_
  refine lv_icmp_eq (tgt := 19) hx hb dX1_isForSession_2 (by decide) (fun c_2 => ?_) (fun c_2 => ?_)
  · have hF := if_t hF c_2
    refine lv_iconst (v := 1) hx hb dX1_isForSession_19 (by decide) ?_
    refine lv_goto (tgt := 24) hx hb dX1_isForSession_20 (by decide) ?_
    exact W.zret (v := 1) (ty := .boolean) hx hb hr rfl (fun t ht hW => ⟨by rw [hF], ht⟩) (fun _ h => by cases h) dX1_isForSession_24
  · have hF := if_f hF c_2
    refine lv_iload_n hx hb dX1_isForSession_5 rfl (lv_at hl 1 rfl) ?_
    refine lv_iconst (v := 2) hx hb dX1_isForSession_6 (by decide) ?_
    refine lv_icmp_ne (tgt := 23) hx hb dX1_isForSession_7 (by decide) (fun c_7 => ?_) (fun c_7 => ?_)
    · have hF := if_f hF c_7
      refine lv_iconst (v := 0) hx hb dX1_isForSession_23 (by decide) ?_
      exact W.zret (v := 0) (ty := .boolean) hx hb hr rfl (fun t ht hW => ⟨by rw [hF], ht⟩) (fun _ h => by cases h) dX1_isForSession_24
    · have hF := if_t hF c_7
      refine lv_aload_n hx hb dX1_isForSession_10 rfl (lv_at hl 0 rfl) ?_
      refine va_get (D := G.1) (ci := 3) (v := .int lnum) (C := RX1) (T := TX1) (N := 4) hx hb hts iX1 hown hK.1 hP 0 rfl rfl 0 (by decide) (hts (.fieldLink RX1 9 "RightsSteps$Level" "number" "I") (by decide +kernel)) (fun _ h9 => h9) rfl dX1_isForSession_11 ?_
      refine lv_bipush (v := 10) hx hb dX1_isForSession_14 (by decide) ?_
      refine lv_icmp_gt (tgt := 23) hx hb dX1_isForSession_16 (by decide) (fun c_16 => ?_) (fun c_16 => ?_)
      · have hF := if_t hF c_16
        refine lv_iconst (v := 0) hx hb dX1_isForSession_23 (by decide) ?_
        exact W.zret (v := 0) (ty := .boolean) hx hb hr rfl (fun t ht hW => ⟨by rw [hF], ht⟩) (fun _ h => by cases h) dX1_isForSession_24
      · have hF := if_f hF c_16
        refine lv_iconst (v := 1) hx hb dX1_isForSession_19 (by decide) ?_
        refine lv_goto (tgt := 24) hx hb dX1_isForSession_20 (by decide) ?_
        exact W.zret (v := 1) (ty := .boolean) hx hb hr rfl (fun t ht hW => ⟨by rw [hF], ht⟩) (fun _ h => by cases h) dX1_isForSession_24

def FL_X1_shiftedKeyTo_9 (lnum : Int32) (lkind : Int32) (ltries : Int32) (ldelay : Int64) (p1 : Int32) : Nat → Int32 → Int32 → Int32
  | 0, _, _ => 0
  | n + 1, rest, k => (if 32 ≤ k then rest else (if (rest &&& 1) = 1 then (FL_X1_shiftedKeyTo_9 lnum lkind ltries ldelay p1 n ((((rest : Int32).toUInt32 >>> ((1 : Int32).toUInt32 &&& Int32.toUInt32 31)).toInt32) ^^^ (-306674912)) (k + 1)) else (FL_X1_shiftedKeyTo_9 lnum lkind ltries ldelay p1 n (((rest : Int32).toUInt32 >>> ((1 : Int32).toUInt32 &&& Int32.toUInt32 31)).toInt32) (k + 1))))
def F_X1_shiftedKeyTo (lnum : Int32) (lkind : Int32) (ltries : Int32) (ldelay : Int64) (p1 : Int32) : Int32 :=
  (FL_X1_shiftedKeyTo_9 lnum lkind ltries ldelay p1 34 (p1 ^^^ lnum) 0)
set_option maxHeartbeats 4000000 in
set_option maxRecDepth 100000 in
theorem c_X1_shiftedKeyTo (l : Launch) (G : gG) (h0 : Nat) (sz : Nat) (lnum : Int32) (lkind : Int32) (ltries : Int32) (ldelay : Int64) (p1 : Int32) : Met l yX1_shiftedKeyTo wsX1_shiftedKeyTo ({ frames := 0, cells := 0, slots := 0, locals := 0 }) (va_Pc [.ref h0, .int p1] (pR G [(h0, .inr (3, [.int lnum, .int lkind, .int ltries, .long ldelay]))] sz)) (pQ (.int (F_X1_shiftedKeyTo lnum lkind ltries ldelay p1))) 0 0 (fun _ => False) := by
  refine Met.ofW (cc := cX1_shiftedKeyTo) (maxL := 5) (ret := (some .int)) (by decide) rfl ?_
  intro p e s m args below meth c s₁ B hml hv
  obtain ⟨rfl, hsz, hP, hK, hD0⟩ := hv
  have hx := B.exec
  have hb := B.bytes
  have hr := B.returns
  have hts := atoms_spec (ws := wsX1_shiftedKeyTo) B.pre
  have hown : s.vm.findClass RX1 = some m.cls := findClass_of_methodNamed B.named
  have hlocks := B.notSynchronized
  subst hsz
  have iX1 : ∀ w ∈ wsX10, w ∈ wsX1_shiftedKeyTo := by decide +kernel
  have hD := hD0
  have hP : va_P G.1 vwCl [(h0, .inr (3, [.int lnum, .int lkind, .int ltries, .long ldelay]))] s.heap := hP
  have hl := lv_entry ([.ref h0, .int p1]) (n := 5) (Nat.le_of_ble_eq_true rfl)
  rw [lg_entry_eq]
  generalize (lg_sl ([.ref h0, .int p1]) ++ List.replicate (5 - (lg_sl ([.ref h0, .int p1])).length) Slot.unset).toArray = ls at hl ⊢
  have hl : lv_has ls 5 [(0, .ref h0), (1, .int p1)] := hl
  have hF : F_X1_shiftedKeyTo lnum lkind ltries ldelay p1 = F_X1_shiftedKeyTo lnum lkind ltries ldelay p1 := rfl
  refine lv_iload_n hx hb dX1_shiftedKeyTo_0 rfl (lv_at hl 1 rfl) ?_
  refine lv_aload_n hx hb dX1_shiftedKeyTo_1 rfl (lv_at hl 0 rfl) ?_
  refine va_get (D := G.1) (ci := 3) (v := .int lnum) (C := RX1) (T := TX1) (N := 4) hx hb hts iX1 hown hK.1 hP 0 rfl rfl 0 (by decide) (hts (.fieldLink RX1 9 "RightsSteps$Level" "number" "I") (by decide +kernel)) (fun _ h9 => h9) rfl dX1_shiftedKeyTo_2 ?_
  refine lv_ixor hx hb dX1_shiftedKeyTo_5 ?_
  refine lv_istore_n (lv' := [(2, .int (p1 ^^^ lnum)), (0, .ref h0), (1, .int p1)]) hx hb dX1_shiftedKeyTo_6 rfl hl (by decide) rfl (fun ls hl => ?_)
  refine lv_iconst (v := 0) hx hb dX1_shiftedKeyTo_7 (by decide) ?_
  refine lv_istore_n (lv' := [(3, .int 0), (2, .int (p1 ^^^ lnum)), (0, .ref h0), (1, .int p1)]) hx hb dX1_shiftedKeyTo_8 rfl hl (by decide) rfl (fun ls hl => ?_)
  refine W.loop (σ := Int32 × Int32) (fun (n : Nat) (v : Int32 × Int32) (H : Heap) (locs : List Loc) (ls : Array Slot) => (vp_in v.2 33) ∧ 33 < v.2.toNatClampNeg + n ∧ (F_X1_shiftedKeyTo lnum lkind ltries ldelay p1 = FL_X1_shiftedKeyTo_9 lnum lkind ltries ldelay p1 n v.1 v.2) ∧ H = s.heap ∧ locs = [] ∧ va_P G.1 vwCl [(h0, .inr (3, [.int lnum, .int lkind, .int ltries, .long ldelay]))] H ∧ lv_has ls 5 [(3, .int v.2), (2, .int v.1)]) ?_ ?_ 34 ((p1 ^^^ lnum), 0) ⟨(show vp_in 0 33 from vp_in_iff.mpr (by decide)), (show 33 < (0 : Int32).toNatClampNeg + 34 by decide), hF, rfl, rfl, hP, lv_sub hl [0, 1] rfl⟩
  · rintro ⟨rest, k⟩ H locs ls ⟨hi0, hi1, _, _, _, _, _⟩
    exact absurd (hi_lt hi0) (by omega)
  · rintro n ih ⟨rest, k⟩ H locs ls ⟨hi0, hi1, hF, rfl, rfl, hP, hl⟩
    have hP : va_P G.1 vwCl [(h0, .inr (3, [.int lnum, .int lkind, .int ltries, .long ldelay]))] s.heap := hP
    have hl : lv_has ls 5 [(3, .int k), (2, .int rest)] := hl
    have hF : F_X1_shiftedKeyTo lnum lkind ltries ldelay p1 = FL_X1_shiftedKeyTo_9 lnum lkind ltries ldelay p1 (n + 1) rest k := hF
    refine lv_iload_n hx hb dX1_shiftedKeyTo_9 rfl (lv_at hl 0 rfl) ?_
    refine lv_bipush (v := 32) hx hb dX1_shiftedKeyTo_10 (by decide) ?_
    refine lv_icmp_ge (tgt := 49) hx hb dX1_shiftedKeyTo_12 (by decide) (fun c_12 => ?_) (fun c_12 => ?_)
    · have hF := if_t hF c_12
      refine lv_iload_n hx hb dX1_shiftedKeyTo_49 rfl (lv_at hl 1 rfl) ?_
      exact W.iret (v := rest) hx hb hr (fun t ht hW => ⟨by rw [hF], ht⟩) (fun _ h => by cases h) dX1_shiftedKeyTo_50
    · have hF := if_f hF c_12
      refine lv_iload_n hx hb dX1_shiftedKeyTo_15 rfl (lv_at hl 1 rfl) ?_
      refine lv_iconst (v := 1) hx hb dX1_shiftedKeyTo_16 (by decide) ?_
      refine lv_iand hx hb dX1_shiftedKeyTo_17 ?_
      refine lv_iconst (v := 1) hx hb dX1_shiftedKeyTo_18 (by decide) ?_
      refine lv_icmp_ne (tgt := 26) hx hb dX1_shiftedKeyTo_19 (by decide) (fun c_19 => ?_) (fun c_19 => ?_)
      · have hF := if_f hF c_19
        refine lv_iconst (v := 0) hx hb dX1_shiftedKeyTo_26 (by decide) ?_
        refine lv_istore (lv' := [(4, .int 0), (3, .int k), (2, .int rest)]) hx hb dX1_shiftedKeyTo_27 hl (by decide) rfl (fun ls hl => ?_)
        refine lv_iload_n hx hb dX1_shiftedKeyTo_29 rfl (lv_at hl 2 rfl) ?_
        refine lv_iconst (v := 1) hx hb dX1_shiftedKeyTo_30 (by decide) ?_
        refine lv_iushr (v := (((rest : Int32).toUInt32 >>> ((1 : Int32).toUInt32 &&& Int32.toUInt32 31)).toInt32)) hx hb dX1_shiftedKeyTo_31 rfl ?_
        refine lv_istore_n (lv' := [(2, .int (((rest : Int32).toUInt32 >>> ((1 : Int32).toUInt32 &&& Int32.toUInt32 31)).toInt32)), (4, .int 0), (3, .int k)]) hx hb dX1_shiftedKeyTo_32 rfl hl (by decide) rfl (fun ls hl => ?_)
        refine lv_iload hx hb dX1_shiftedKeyTo_33 (lv_at hl 1 rfl) ?_
        refine lv_if_eq (tgt := 43) hx hb dX1_shiftedKeyTo_35 (by decide) (fun _ => ?_) (fun q => absurd (by decide) q)
        refine lv_iinc (v := (k + 1)) (lv' := [(3, .int (k + 1)), (2, .int (((rest : Int32).toUInt32 >>> ((1 : Int32).toUInt32 &&& Int32.toUInt32 31)).toInt32)), (4, .int 0)]) hx hb dX1_shiftedKeyTo_43 hl (k := 2) rfl rfl (by decide) rfl (fun ls hl => ?_)
        refine lv_goto (tgt := 9) hx hb dX1_shiftedKeyTo_46 (by decide) ?_
        exact ih ((((rest : Int32).toUInt32 >>> ((1 : Int32).toUInt32 &&& Int32.toUInt32 31)).toInt32), (k + 1)) _ _ _ ⟨(i_inc hi0 (i_not c_12) rfl), (by rw [i_incN hi0 (by decide)]; omega), hF, rfl, rfl, hP, lv_sub hl [0, 1] rfl⟩
      · have hF := if_t hF c_19
        refine lv_iconst (v := 1) hx hb dX1_shiftedKeyTo_22 (by decide) ?_
        refine lv_goto (tgt := 27) hx hb dX1_shiftedKeyTo_23 (by decide) ?_
        refine lv_istore (lv' := [(4, .int 1), (3, .int k), (2, .int rest)]) hx hb dX1_shiftedKeyTo_27 hl (by decide) rfl (fun ls hl => ?_)
        refine lv_iload_n hx hb dX1_shiftedKeyTo_29 rfl (lv_at hl 2 rfl) ?_
        refine lv_iconst (v := 1) hx hb dX1_shiftedKeyTo_30 (by decide) ?_
        refine lv_iushr (v := (((rest : Int32).toUInt32 >>> ((1 : Int32).toUInt32 &&& Int32.toUInt32 31)).toInt32)) hx hb dX1_shiftedKeyTo_31 rfl ?_
        refine lv_istore_n (lv' := [(2, .int (((rest : Int32).toUInt32 >>> ((1 : Int32).toUInt32 &&& Int32.toUInt32 31)).toInt32)), (4, .int 1), (3, .int k)]) hx hb dX1_shiftedKeyTo_32 rfl hl (by decide) rfl (fun ls hl => ?_)
        refine lv_iload hx hb dX1_shiftedKeyTo_33 (lv_at hl 1 rfl) ?_
        refine lv_if_eq (tgt := 43) hx hb dX1_shiftedKeyTo_35 (by decide) (fun q => absurd q (by decide)) (fun _ => ?_)
        refine lv_iload_n hx hb dX1_shiftedKeyTo_38 rfl (lv_at hl 0 rfl) ?_
        refine lv_ldc (v := (-306674912)) hx hb hown (hts (.constant RX1 31 (-306674912)) (by decide +kernel)) dX1_shiftedKeyTo_39 ?_
        refine lv_ixor hx hb dX1_shiftedKeyTo_41 ?_
        refine lv_istore_n (lv' := [(2, .int ((((rest : Int32).toUInt32 >>> ((1 : Int32).toUInt32 &&& Int32.toUInt32 31)).toInt32) ^^^ (-306674912))), (4, .int 1), (3, .int k)]) hx hb dX1_shiftedKeyTo_42 rfl hl (by decide) rfl (fun ls hl => ?_)
        refine lv_iinc (v := (k + 1)) (lv' := [(3, .int (k + 1)), (2, .int ((((rest : Int32).toUInt32 >>> ((1 : Int32).toUInt32 &&& Int32.toUInt32 31)).toInt32) ^^^ (-306674912))), (4, .int 1)]) hx hb dX1_shiftedKeyTo_43 hl (k := 2) rfl rfl (by decide) rfl (fun ls hl => ?_)
        refine lv_goto (tgt := 9) hx hb dX1_shiftedKeyTo_46 (by decide) ?_
        exact ih (((((rest : Int32).toUInt32 >>> ((1 : Int32).toUInt32 &&& Int32.toUInt32 31)).toInt32) ^^^ (-306674912)), (k + 1)) _ _ _ ⟨(i_inc hi0 (i_not c_12) rfl), (by rw [i_incN hi0 (by decide)]; omega), hF, rfl, rfl, hP, lv_sub hl [0, 1] rfl⟩

def F_X1_keyTo (lnum : Int32) (lkind : Int32) (ltries : Int32) (ldelay : Int64) (p1 : Int32) : Int32 :=
  (if lkind = 0 then (p1 ^^^ 1515870810) else (if lkind = 1 then ((((p1 <<< (7 &&& 31)) ||| (((p1 : Int32).toUInt32 >>> ((25 : Int32).toUInt32 &&& Int32.toUInt32 31)).toInt32)) * (-1640531535)) + lnum) else (F_X1_shiftedKeyTo lnum lkind ltries ldelay p1)))
set_option maxHeartbeats 4000000 in
set_option maxRecDepth 100000 in
theorem c_X1_keyTo (l : Launch) (G : gG) (h0 : Nat) (sz : Nat) (lnum : Int32) (lkind : Int32) (ltries : Int32) (ldelay : Int64) (p1 : Int32) : Met l yX1_keyTo wsX1_keyTo ({ frames := 1, cells := 0, slots := 0, locals := 24 }) (va_Pc [.ref h0, .int p1] (pR G [(h0, .inr (3, [.int lnum, .int lkind, .int ltries, .long ldelay]))] sz)) (pQ (.int (F_X1_keyTo lnum lkind ltries ldelay p1))) 0 0 (fun _ => False) := by
  refine Met.ofW (cc := cX1_keyTo) (maxL := 2) (ret := (some .int)) (by decide) rfl ?_
  intro p e s m args below meth c s₁ B hml hv
  obtain ⟨rfl, hsz, hP, hK, hD0⟩ := hv
  have hx := B.exec
  have hb := B.bytes
  have hr := B.returns
  have hts := atoms_spec (ws := wsX1_keyTo) B.pre
  have hown : s.vm.findClass RX1 = some m.cls := findClass_of_methodNamed B.named
  have hlocks := B.notSynchronized
  subst hsz
  have iX1 : ∀ w ∈ wsX10, w ∈ wsX1_keyTo := by decide +kernel
  have hD := hD0
  have hP : va_P G.1 vwCl [(h0, .inr (3, [.int lnum, .int lkind, .int ltries, .long ldelay]))] s.heap := hP
  have hl := lv_entry ([.ref h0, .int p1]) (n := 2) (Nat.le_of_ble_eq_true rfl)
  rw [lg_entry_eq]
  generalize (lg_sl ([.ref h0, .int p1]) ++ List.replicate (2 - (lg_sl ([.ref h0, .int p1])).length) Slot.unset).toArray = ls at hl ⊢
  have hl : lv_has ls 2 [(0, .ref h0), (1, .int p1)] := hl
  have hF : F_X1_keyTo lnum lkind ltries ldelay p1 = F_X1_keyTo lnum lkind ltries ldelay p1 := rfl
  refine lv_aload_n hx hb dX1_keyTo_0 rfl (lv_at hl 0 rfl) ?_
  refine va_get (D := G.1) (ci := 3) (v := .int lkind) (C := RX1) (T := TX1) (N := 4) hx hb hts iX1 hown hK.1 hP 0 rfl rfl 1 (by decide) (hts (.fieldLink RX1 15 "RightsSteps$Level" "kind" "I") (by decide +kernel)) (fun _ h9 => h9) rfl dX1_keyTo_1 ?_
  refine lv_if_ne (tgt := 12) hx hb dX1_keyTo_4 (by decide) (fun c_4 => ?_) (fun c_4 => ?_)
  · have hF := if_f hF c_4
    refine lv_aload_n hx hb dX1_keyTo_12 rfl (lv_at hl 0 rfl) ?_
    refine va_get (D := G.1) (ci := 3) (v := .int lkind) (C := RX1) (T := TX1) (N := 4) hx hb hts iX1 hown hK.1 hP 0 rfl rfl 1 (by decide) (hts (.fieldLink RX1 15 "RightsSteps$Level" "kind" "I") (by decide +kernel)) (fun _ h9 => h9) rfl dX1_keyTo_13 ?_
    refine lv_iconst (v := 1) hx hb dX1_keyTo_16 (by decide) ?_
    refine lv_icmp_ne (tgt := 38) hx hb dX1_keyTo_17 (by decide) (fun c_17 => ?_) (fun c_17 => ?_)
    · have hF := if_f hF c_17
      refine lv_aload_n hx hb dX1_keyTo_38 rfl (lv_at hl 0 rfl) ?_
      refine lv_iload_n hx hb dX1_keyTo_39 rfl (lv_at hl 1 rfl) ?_
      have hPc := hP.sub (ws' := [(h0, .inr (3, [.int lnum, .int lkind, .int ltries, .long ldelay]))]) [0] rfl
      have hDc := hD.sub (ws' := [(h0, .inr (3, [.int lnum, .int lkind, .int ltries, .long ldelay]))]) [0] (by decide) rfl
      refine pu_call (va_runV (As := [.int p1]) (rest := []) ⟨hx, hb, hml, hown, hts⟩ (c_X1_shiftedKeyTo l G h0 _ lnum lkind ltries ldelay p1) (cwV 1 hts gX1_keyTo_X1_shiftedKeyTo rfl rfl rfl (by decide +kernel) ⟨Nat.le_of_ble_eq_true rfl, Nat.le_of_ble_eq_true rfl⟩) (pR_V hK hPc hDc (q0 := 0) rfl rfl) rfl rfl hl.1 rfl (lv_room (Nat.le_of_ble_eq_true rfl)) dX1_keyTo_40 ⟨by decide, by decide⟩) ?_
      exact W.iret (v := (F_X1_shiftedKeyTo lnum lkind ltries ldelay p1)) hx hb hr (fun t ht hW => ⟨by rw [hF], ht⟩) (fun _ h => by cases h) dX1_keyTo_43
    · have hF := if_t hF c_17
      refine lv_iload_n hx hb dX1_keyTo_20 rfl (lv_at hl 1 rfl) ?_
      refine lv_bipush (v := 7) hx hb dX1_keyTo_21 (by decide) ?_
      refine lv_ishl hx hb dX1_keyTo_23 ?_
      refine lv_iload_n hx hb dX1_keyTo_24 rfl (lv_at hl 1 rfl) ?_
      refine lv_bipush (v := 25) hx hb dX1_keyTo_25 (by decide) ?_
      refine lv_iushr (v := (((p1 : Int32).toUInt32 >>> ((25 : Int32).toUInt32 &&& Int32.toUInt32 31)).toInt32)) hx hb dX1_keyTo_27 rfl ?_
      refine lv_ior hx hb dX1_keyTo_28 ?_
      refine lv_ldc (v := (-1640531535)) hx hb hown (hts (.constant RX1 26 (-1640531535)) (by decide +kernel)) dX1_keyTo_29 ?_
      refine lv_imul hx hb dX1_keyTo_31 ?_
      refine lv_aload_n hx hb dX1_keyTo_32 rfl (lv_at hl 0 rfl) ?_
      refine va_get (D := G.1) (ci := 3) (v := .int lnum) (C := RX1) (T := TX1) (N := 4) hx hb hts iX1 hown hK.1 hP 0 rfl rfl 0 (by decide) (hts (.fieldLink RX1 9 "RightsSteps$Level" "number" "I") (by decide +kernel)) (fun _ h9 => h9) rfl dX1_keyTo_33 ?_
      refine lv_iadd hx hb dX1_keyTo_36 ?_
      exact W.iret (v := ((((p1 <<< (7 &&& 31)) ||| (((p1 : Int32).toUInt32 >>> ((25 : Int32).toUInt32 &&& Int32.toUInt32 31)).toInt32)) * (-1640531535)) + lnum)) hx hb hr (fun t ht hW => ⟨by rw [hF], ht⟩) (fun _ h => by cases h) dX1_keyTo_37
  · have hF := if_t hF c_4
    refine lv_iload_n hx hb dX1_keyTo_7 rfl (lv_at hl 1 rfl) ?_
    refine lv_ldc (v := 1515870810) hx hb hown (hts (.constant RX1 25 (1515870810)) (by decide +kernel)) dX1_keyTo_8 ?_
    refine lv_ixor hx hb dX1_keyTo_10 ?_
    exact W.iret (v := (p1 ^^^ 1515870810)) hx hb hr (fun t ht hW => ⟨by rw [hF], ht⟩) (fun _ h => by cases h) dX1_keyTo_11

def F_X5_isPlain (p1 : Int32) : Int32 :=
  (if p1 = ((p1 &&& 255) * 16843009) then 1 else 0)
set_option maxHeartbeats 4000000 in
set_option maxRecDepth 100000 in
theorem c_X5_isPlain (l : Launch) (G : gG) (sz : Nat) (p1 : Int32) : Met l yX5_isPlain wsX5_isPlain ({ frames := 0, cells := 0, slots := 0, locals := 0 }) (va_Pc [.int p1] (pR G [] sz)) (pQ (.int (F_X5_isPlain p1))) 0 0 (fun _ => False) := by
  refine Met.ofW (cc := cX5_isPlain) (maxL := 1) (ret := (some .boolean)) (by decide) rfl ?_
  intro p e s m args below meth c s₁ B hml hv
  obtain ⟨rfl, hsz, hP, hK, hD0⟩ := hv
  have hx := B.exec
  have hb := B.bytes
  have hr := B.returns
  have hts := atoms_spec (ws := wsX5_isPlain) B.pre
  have hown : s.vm.findClass RX5 = some m.cls := findClass_of_methodNamed B.named
  have hlocks := B.notSynchronized
  subst hsz
  have hD := hD0
  have hP : va_P G.1 vwCl [] s.heap := hP
  have hl := lv_entry ([.int p1]) (n := 1) (Nat.le_of_ble_eq_true rfl)
  rw [lg_entry_eq]
  generalize (lg_sl ([.int p1]) ++ List.replicate (1 - (lg_sl ([.int p1])).length) Slot.unset).toArray = ls at hl ⊢
  have hl : lv_has ls 1 [(0, .int p1)] := hl
  have hF : F_X5_isPlain p1 = F_X5_isPlain p1 := rfl
  refine lv_iload_n hx hb dX5_isPlain_0 rfl (lv_at hl 0 rfl) ?_
  refine lv_iload_n hx hb dX5_isPlain_1 rfl (lv_at hl 0 rfl) ?_
  refine lv_sipush (v := 255) hx hb dX5_isPlain_2 (by decide) ?_
  refine lv_iand hx hb dX5_isPlain_5 ?_
  refine lv_ldc (v := 16843009) hx hb hown (hts (.constant RX5 188 (16843009)) (by decide +kernel)) dX5_isPlain_6 ?_
  refine lv_imul hx hb dX5_isPlain_8 ?_
  refine lv_icmp_ne (tgt := 16) hx hb dX5_isPlain_9 (by decide) (fun c_9 => ?_) (fun c_9 => ?_)
  · have hF := if_f hF c_9
    refine lv_iconst (v := 0) hx hb dX5_isPlain_16 (by decide) ?_
    exact W.zret (v := 0) (ty := .boolean) hx hb hr rfl (fun t ht hW => ⟨by rw [hF], ht⟩) (fun _ h => by cases h) dX5_isPlain_17
  · have hF := if_t hF c_9
    refine lv_iconst (v := 1) hx hb dX5_isPlain_12 (by decide) ?_
    refine lv_goto (tgt := 17) hx hb dX5_isPlain_13 (by decide) ?_
    exact W.zret (v := 1) (ty := .boolean) hx hb hr rfl (fun t ht hW => ⟨by rw [hF], ht⟩) (fun _ h => by cases h) dX5_isPlain_17

def FL_X5_countDigits_6 (p1 : Int64) : Nat → Int32 → Int64 → Int32
  | 0, _, _ => 0
  | n + 1, dg, pw => (if 0 < (lg_cmp pw p1) then dg else (if 10 ≤ dg then dg else (FL_X5_countDigits_6 p1 n (dg + 1) (pw * 10))))
def F_X5_countDigits (p1 : Int64) : Int32 :=
  (FL_X5_countDigits_6 p1 12 1 10)
set_option maxHeartbeats 4000000 in
set_option maxRecDepth 100000 in
theorem c_X5_countDigits (l : Launch) (G : gG) (sz : Nat) (p1 : Int64) : Met l yX5_countDigits wsX5_countDigits ({ frames := 0, cells := 0, slots := 0, locals := 0 }) (va_Pc [.long p1] (pR G [] sz)) (pQ (.int (F_X5_countDigits p1))) 0 0 (fun _ => False) := by
  refine Met.ofW (cc := cX5_countDigits) (maxL := 5) (ret := (some .int)) (by decide) rfl ?_
  intro p e s m args below meth c s₁ B hml hv
  obtain ⟨rfl, hsz, hP, hK, hD0⟩ := hv
  have hx := B.exec
  have hb := B.bytes
  have hr := B.returns
  have hts := atoms_spec (ws := wsX5_countDigits) B.pre
  have hown : s.vm.findClass RX5 = some m.cls := findClass_of_methodNamed B.named
  have hlocks := B.notSynchronized
  subst hsz
  have hD := hD0
  have hP : va_P G.1 vwCl [] s.heap := hP
  have hl := lv_entry ([.long p1]) (n := 5) (Nat.le_of_ble_eq_true rfl)
  rw [lg_entry_eq]
  generalize (lg_sl ([.long p1]) ++ List.replicate (5 - (lg_sl ([.long p1])).length) Slot.unset).toArray = ls at hl ⊢
  have hl : lv_has ls 5 [(0, .long p1)] := hl
  have hF : F_X5_countDigits p1 = F_X5_countDigits p1 := rfl
  refine lv_iconst (v := 1) hx hb dX5_countDigits_0 (by decide) ?_
  refine lv_istore_n (lv' := [(2, .int 1), (0, .long p1)]) hx hb dX5_countDigits_1 rfl hl (by decide) rfl (fun ls hl => ?_)
  refine lv_ldc2 (v := 10) hx hb hown (hts (.constantLong RX5 143 (10)) (by decide +kernel)) dX5_countDigits_2 ?_
  refine lv_lstore_n (lv' := [(3, .long 10), (2, .int 1), (0, .long p1)]) hx hb dX5_countDigits_5 rfl hl (by decide) rfl (fun ls hl => ?_)
  refine W.loop (σ := Int32 × Int64) (fun (n : Nat) (v : Int32 × Int64) (H : Heap) (locs : List Loc) (ls : Array Slot) => (vp_in v.1 11) ∧ 11 < v.1.toNatClampNeg + n ∧ (F_X5_countDigits p1 = FL_X5_countDigits_6 p1 n v.1 v.2) ∧ H = s.heap ∧ locs = [] ∧ va_P G.1 vwCl [] H ∧ lv_has ls 5 [(3, .long v.2), (2, .int v.1), (0, .long p1)]) ?_ ?_ 12 (1, 10) ⟨(show vp_in 1 11 from vp_in_iff.mpr (by decide)), (show 11 < (1 : Int32).toNatClampNeg + 12 by decide), hF, rfl, rfl, hP, lv_sub hl [0, 1, 2] rfl⟩
  · rintro ⟨dg, pw⟩ H locs ls ⟨hi0, hi1, _, _, _, _, _⟩
    exact absurd (hi_lt hi0) (by omega)
  · rintro n ih ⟨dg, pw⟩ H locs ls ⟨hi0, hi1, hF, rfl, rfl, hP, hl⟩
    have hP : va_P G.1 vwCl [] s.heap := hP
    have hl : lv_has ls 5 [(3, .long pw), (2, .int dg), (0, .long p1)] := hl
    have hF : F_X5_countDigits p1 = FL_X5_countDigits_6 p1 (n + 1) dg pw := hF
    refine lv_lload_n hx hb dX5_countDigits_6 rfl (lv_at hl 0 rfl) ?_
    refine lv_lload_n hx hb dX5_countDigits_7 rfl (lv_at hl 2 rfl) ?_
    refine W.lcmp hx hb dX5_countDigits_8 ?_
    refine lv_if_gt (tgt := 30) hx hb dX5_countDigits_9 (by decide) (fun c_9 => ?_) (fun c_9 => ?_)
    · have hF := if_t hF c_9
      refine lv_iload_n hx hb dX5_countDigits_30 rfl (lv_at hl 1 rfl) ?_
      exact W.iret (v := dg) hx hb hr (fun t ht hW => ⟨by rw [hF], ht⟩) (fun _ h => by cases h) dX5_countDigits_31
    · have hF := if_f hF c_9
      refine lv_iload_n hx hb dX5_countDigits_12 rfl (lv_at hl 1 rfl) ?_
      refine lv_bipush (v := 10) hx hb dX5_countDigits_13 (by decide) ?_
      refine lv_icmp_ge (tgt := 30) hx hb dX5_countDigits_15 (by decide) (fun c_15 => ?_) (fun c_15 => ?_)
      · have hF := if_t hF c_15
        refine lv_iload_n hx hb dX5_countDigits_30 rfl (lv_at hl 1 rfl) ?_
        exact W.iret (v := dg) hx hb hr (fun t ht hW => ⟨by rw [hF], ht⟩) (fun _ h => by cases h) dX5_countDigits_31
      · have hF := if_f hF c_15
        refine lv_iinc (v := (dg + 1)) (lv' := [(2, .int (dg + 1)), (3, .long pw), (0, .long p1)]) hx hb dX5_countDigits_18 hl (k := 1) rfl rfl (by decide) rfl (fun ls hl => ?_)
        refine lv_lload_n hx hb dX5_countDigits_21 rfl (lv_at hl 1 rfl) ?_
        refine lv_ldc2 (v := 10) hx hb hown (hts (.constantLong RX5 143 (10)) (by decide +kernel)) dX5_countDigits_22 ?_
        refine lv_lmul hx hb dX5_countDigits_25 ?_
        refine lv_lstore_n (lv' := [(3, .long (pw * 10)), (2, .int (dg + 1)), (0, .long p1)]) hx hb dX5_countDigits_26 rfl hl (by decide) rfl (fun ls hl => ?_)
        refine lv_goto (tgt := 6) hx hb dX5_countDigits_27 (by decide) ?_
        exact ih ((dg + 1), (pw * 10)) _ _ _ ⟨(i_inc hi0 (i_not c_15) rfl), (by rw [i_incN hi0 (by decide)]; omega), hF, rfl, rfl, hP, lv_sub hl [0, 1, 2] rfl⟩
