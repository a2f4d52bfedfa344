theorem tf_first {first size : Int32} {nums : Nat → Int32} {r : Int32} {u : Int32 × Int32} (h : (r, u) = F_X2_takeFirst first size nums) (hf : vp_in first 201) : vp_in u.1 201 := by
  have a := vp_in_iff.mp hf
  by_cases h1 : first < 200
  · have e : F_X2_takeFirst first size nums = _ := if_pos h1
    rw [e] at h
    cases h
    exact i_inc hf h1 rfl
  · have e : F_X2_takeFirst first size nums = _ := if_neg h1
    rw [e] at h
    cases h
    exact (show vp_in 1 201 from vp_in_iff.mpr (by decide))
theorem in_lw {x : Int32} (h0 : ¬ x < 1) (h1 : x ≤ 20) : vp_in x 21 := in_lv h0 (fun q => absurd (i_le h1) (Int.not_le.mpr (i_lt q)))
/-- the levels that were made: what the objects in the row hold -/
def LV (lv : Nat → Option Nat) (kd tr : Nat → Int32) (dl : Nat → Int64) (pl : va_W) : Prop := ∀ n : Int32, vp_in n 21 → ∀ y : Nat, lv n.toNatClampNeg = some y → ((y, .inr (3, [.int n, .int (kd n.toNatClampNeg), .int (tr n.toNatClampNeg), .long (dl n.toNatClampNeg)])) : Nat × va_E) ∈ pl

def FL_X2_takeSeed_5 (first : Int32) (size : Int32) (nums : Nat → Int32) (gsz : Int32) (seeds : Nat → Int32) : Nat → Int32 → Int32 → Int32 → Int32 × Int32 × Int32
  | 0, _, _, _ => (0, (0, 0))
  | n + 1, rest, fst, siz => (if rest ≤ 0 then (0, (fst, siz)) else (lz2 (F_X2_takeFirst fst siz nums) (fun r1 u1 => (if (F_X5_isPlain r1) = 0 then (if (F_X0_has gsz seeds r1) = 0 then (r1, (u1.1, u1.2)) else (FL_X2_takeSeed_5 first size nums gsz seeds n (rest + (-1)) u1.1 u1.2)) else (FL_X2_takeSeed_5 first size nums gsz seeds n (rest + (-1)) u1.1 u1.2)))))
def F_X2_takeSeed (first : Int32) (size : Int32) (nums : Nat → Int32) (gsz : Int32) (seeds : Nat → Int32) : Int32 × Int32 × Int32 :=
  (FL_X2_takeSeed_5 first size nums gsz seeds 201 size first size)
set_option maxHeartbeats 4000000 in
set_option maxRecDepth 100000 in
theorem c_X2_takeSeed (l : Launch) (G : gG) (h0 h1 g0 g1 : Nat) (sz : Nat) (first : Int32) (size : Int32) (nums : Nat → Int32) (gsz : Int32) (seeds : Nat → Int32) (hf : vp_in first 201) (hz : vp_in size 201) : Met l yX2_takeSeed wsX2_takeSeed ({ frames := 1, cells := 0, slots := 0, locals := 22 }) (va_Pc [.ref h0, .ref g0] (pR G [(h0, .inr (4, [.ref h1, .int first, .int size])), (h1, .inl (G.2 0, 200, .inl nums)), (g0, .inr (2, [.ref g1, .int gsz])), (g1, .inl (G.2 0, 256, .inl seeds))] sz)) (va_Qi (fun (r : Int32) (u : Int32 × Int32) => (r, u) = F_X2_takeSeed first size nums gsz seeds) (fun u t => pO G [(h0, .inr (4, [.ref h1, .int u.1, .int u.2])), (h1, .inl (G.2 0, 200, .inl nums)), (g0, .inr (2, [.ref g1, .int gsz])), (g1, .inl (G.2 0, 256, .inl seeds))] (va_A [(h0, .inr (4, [.ref h1, .int first, .int size])), (h1, .inl (G.2 0, 200, .inl nums)), (g0, .inr (2, [.ref g1, .int gsz])), (g1, .inl (G.2 0, 256, .inl seeds))] sz) t) (va_A [(h0, .inr (4, [.ref h1, .int first, .int size])), (h1, .inl (G.2 0, 200, .inl nums)), (g0, .inr (2, [.ref g1, .int gsz])), (g1, .inl (G.2 0, 256, .inl seeds))] sz)) 0 0 (va_A [(h0, .inr (4, [.ref h1, .int first, .int size])), (h1, .inl (G.2 0, 200, .inl nums)), (g0, .inr (2, [.ref g1, .int gsz])), (g1, .inl (G.2 0, 256, .inl seeds))] sz) := by
  refine Met.ofW (cc := cX2_takeSeed) (maxL := 4) (ret := (some .int)) (by decide) rfl ?_
  intro p e s m args below meth c s₁ B hml hv
  obtain ⟨rfl, hsz, hP, hK, hD0⟩ := hv
  have hx := B.exec
  have hb := B.bytes
  have hr := B.returns
  have hts := atoms_spec (ws := wsX2_takeSeed) B.pre
  have hown : s.vm.findClass RX2 = some m.cls := findClass_of_methodNamed B.named
  have hlocks := B.notSynchronized
  subst hsz
  have iX2 : ∀ w ∈ wsX20, w ∈ wsX2_takeSeed := by decide +kernel
  have hD := hD0.self (sz := s.heap.size)
  generalize hAe : va_A [(h0, .inr (4, [.ref h1, .int first, .int size])), (h1, .inl (G.2 0, 200, .inl nums)), (g0, .inr (2, [.ref g1, .int gsz])), (g1, .inl (G.2 0, 256, .inl seeds))] s.heap.size = A at hD ⊢
  have hA : ∀ q : Nat, s.heap.size ≤ q → A q := fun q h => by rw [← hAe]; exact Or.inr h
  have hS : va_S A s.heap s.heap [] := va_S.rf
  have hP : va_P G.1 vwCl [(h0, .inr (4, [.ref h1, .int first, .int size])), (h1, .inl (G.2 0, 200, .inl nums)), (g0, .inr (2, [.ref g1, .int gsz])), (g1, .inl (G.2 0, 256, .inl seeds))] s.heap := hP
  have hl := lv_entry ([.ref h0, .ref g0]) (n := 4) (Nat.le_of_ble_eq_true rfl)
  rw [lg_entry_eq]
  generalize (lg_sl ([.ref h0, .ref g0]) ++ List.replicate (4 - (lg_sl ([.ref h0, .ref g0])).length) Slot.unset).toArray = ls at hl ⊢
  have hl : lv_has ls 4 [(0, .ref h0), (1, .ref g0)] := hl
  have hF : F_X2_takeSeed first size nums gsz seeds = F_X2_takeSeed first size nums gsz seeds := rfl
  refine lv_aload_n hx hb dX2_takeSeed_0 rfl (lv_at hl 0 rfl) ?_
  refine va_get (D := G.1) (ci := 4) (v := .int size) (C := RX2) (T := TX2) (N := 3) hx hb hts iX2 hown hK.1 hP 0 rfl rfl 2 (by decide) (hts (.fieldLink RX2 15 "RightsSteps$Tape" "size" "I") (by decide +kernel)) (fun _ h9 => h9) rfl dX2_takeSeed_1 ?_
  refine lv_istore_n (lv' := [(2, .int size), (0, .ref h0), (1, .ref g0)]) hx hb dX2_takeSeed_4 rfl hl (by decide) rfl (fun ls hl => ?_)
  refine W.loop (σ := Int32 × Int32 × Int32) (fun (n : Nat) (v : Int32 × Int32 × Int32) (H : Heap) (locs : List Loc) (ls : Array Slot) => (vp_in v.2.1 201) ∧ (vp_in v.1 201) ∧ v.1.toNatClampNeg < n ∧ (F_X2_takeSeed first size nums gsz seeds = FL_X2_takeSeed_5 first size nums gsz seeds n v.1 v.2.1 v.2.2) ∧ va_P G.1 vwCl [(h0, .inr (4, [.ref h1, .int v.2.1, .int v.2.2])), (h1, .inl (G.2 0, 200, .inl nums)), (g0, .inr (2, [.ref g1, .int gsz])), (g1, .inl (G.2 0, 256, .inl seeds))] H ∧ va_D A [(h0, .inr (4, [.ref h1, .int v.2.1, .int v.2.2])), (h1, .inl (G.2 0, 200, .inl nums)), (g0, .inr (2, [.ref g1, .int gsz])), (g1, .inl (G.2 0, 256, .inl seeds))] ∧ va_S A s.heap H locs ∧ lv_has ls 4 [(2, .int v.1), (0, .ref h0), (1, .ref g0)]) ?_ ?_ 201 (size, first, size) ⟨(hf), (hz), (hi_lt hz), hF, hP, hD, hS, lv_sub hl [0, 1, 2] rfl⟩
  · rintro ⟨rest, fst, siz⟩ H locs ls ⟨hi0, hi1, hi2, _, _, _, _, _⟩
    have hi0 : (vp_in fst 201) := hi0
    have hi1 : (vp_in rest 201) := hi1
    have hi2 : rest.toNatClampNeg < 0 := hi2
    exact absurd hi2 (Nat.not_lt_zero _)
  · rintro n ih ⟨rest, fst, siz⟩ H locs ls ⟨hi0, hi1, hi2, hF, hP, hD, hS, hl⟩
    have hi0 : (vp_in fst 201) := hi0
    have hi1 : (vp_in rest 201) := hi1
    have hi2 : rest.toNatClampNeg < (n + 1) := hi2
    have hP : va_P G.1 vwCl [(h0, .inr (4, [.ref h1, .int fst, .int siz])), (h1, .inl (G.2 0, 200, .inl nums)), (g0, .inr (2, [.ref g1, .int gsz])), (g1, .inl (G.2 0, 256, .inl seeds))] H := hP
    have hD : va_D A [(h0, .inr (4, [.ref h1, .int fst, .int siz])), (h1, .inl (G.2 0, 200, .inl nums)), (g0, .inr (2, [.ref g1, .int gsz])), (g1, .inl (G.2 0, 256, .inl seeds))] := hD
    have hl : lv_has ls 4 [(2, .int rest), (0, .ref h0), (1, .ref g0)] := hl
    have hF : F_X2_takeSeed first size nums gsz seeds = FL_X2_takeSeed_5 first size nums gsz seeds (n + 1) rest fst siz := hF
    refine lv_iload_n hx hb dX2_takeSeed_5 rfl (lv_at hl 0 rfl) ?_
    refine lv_if_le (tgt := 37) hx hb dX2_takeSeed_6 (by decide) (fun c_6 => ?_) (fun c_6 => ?_)
    · have hF := if_t hF c_6
      refine lv_iconst (v := 0) hx hb dX2_takeSeed_37 (by decide) ?_
      exact W.iret (v := 0) hx hb hr (fun t ht hW => ⟨⟨0, (fst, siz), rfl, hF.symm, by rw [ht]; exact hP.sub [0, 1, 2, 3] rfl, hD.sub [0, 1, 2, 3] (by decide) rfl⟩, hS.F ht⟩) hS.2.2 dX2_takeSeed_38
    · have hF := if_f hF c_6
      refine lv_aload_n hx hb dX2_takeSeed_9 rfl (lv_at hl 1 rfl) ?_
      have hPc := hP.sub (ws' := [(h0, .inr (4, [.ref h1, .int fst, .int siz])), (h1, .inl (G.2 0, 200, .inl nums))]) [0, 1] rfl
      have hDc := hD.sub (ws' := [(h0, .inr (4, [.ref h1, .int fst, .int siz])), (h1, .inl (G.2 0, 200, .inl nums))]) [0, 1] (by decide) rfl
      refine cl_i (wr := [(g0, .inr (2, [.ref g1, .int gsz])), (g1, .inl (G.2 0, 256, .inl seeds))]) (va_runV (As := []) (rest := []) ⟨hx, hb, hml, hown, hts⟩ (c_X2_takeFirst l G h0 h1 _ fst siz nums hi0) (cwV 0 hts gX2_takeSeed_X2_takeFirst rfl rfl rfl (by decide +kernel) ⟨Nat.le_of_ble_eq_true rfl, Nat.le_of_ble_eq_true rfl⟩) (pR_V hK hPc hDc (q0 := 0) rfl rfl) rfl rfl hl.1 rfl (lv_room (Nat.le_of_ble_eq_true rfl)) dX2_takeSeed_10 ⟨Nat.le_of_ble_eq_true rfl, Nat.le_of_ble_eq_true rfl⟩) hP hD hS hA [0, 1] [2, 3] rfl rfl (by decide) (by decide) (fun r1 u1 ez1 H locs hP hD hS => ?_)
      have hP : va_P G.1 vwCl [(g0, .inr (2, [.ref g1, .int gsz])), (g1, .inl (G.2 0, 256, .inl seeds)), (h0, .inr (4, [.ref h1, .int u1.1, .int u1.2])), (h1, .inl (G.2 0, 200, .inl nums))] H := hP
      have hD : va_D A [(g0, .inr (2, [.ref g1, .int gsz])), (g1, .inl (G.2 0, 256, .inl seeds)), (h0, .inr (4, [.ref h1, .int u1.1, .int u1.2])), (h1, .inl (G.2 0, 200, .inl nums))] := hD
      have hF := lz2_e hF ez1
      refine lv_istore_n (lv' := [(3, .int r1), (2, .int rest), (0, .ref h0), (1, .ref g0)]) hx hb dX2_takeSeed_13 rfl hl (by decide) rfl (fun ls hl => ?_)
      refine lv_iload_n hx hb dX2_takeSeed_14 rfl (lv_at hl 0 rfl) ?_
      refine pu_call (va_runSN (As := [.int r1]) (rest := []) ⟨hx, hb, hml, hown, hts⟩ (c_X5_isPlain l G _ r1) ⟨va_cnB 1 hts gX2_takeSeed_X5_isPlain_n26 rfl rfl rfl hK.2.2.2.2.2.2.2.2.2.2.2.2.2.2.2.2.2.1 (hts (.initialized RX5) (by decide +kernel)) (by decide +kernel) ⟨Nat.le_of_ble_eq_true rfl, Nat.le_of_ble_eq_true rfl⟩, hts (.static yX5_isPlain) (by decide +kernel), True.intro⟩ (pR_S hK (va_P.nil) (va_D.nil)) rfl rfl hl.1 rfl (lv_room (Nat.le_of_ble_eq_true rfl)) dX2_takeSeed_15 ⟨Nat.le_of_ble_eq_true rfl, Nat.le_of_ble_eq_true rfl⟩) ?_
      refine lv_if_ne (tgt := 31) hx hb dX2_takeSeed_18 (by decide) (fun c_18 => ?_) (fun c_18 => ?_)
      · have hF := if_f hF c_18
        refine lv_iinc (v := (rest + (-1))) (lv' := [(2, .int (rest + (-1))), (3, .int r1), (0, .ref h0), (1, .ref g0)]) hx hb dX2_takeSeed_31 hl (k := 1) rfl rfl (by decide) rfl (fun ls hl => ?_)
        refine lv_goto (tgt := 5) hx hb dX2_takeSeed_34 (by decide) ?_
        exact ih ((rest + (-1)), u1.1, u1.2) _ _ _ ⟨(tf_first ez1 hi0), ((i_dec hi1 (by decide) c_6).1), (by show (rest + (-1)).toNatClampNeg < n; have := (i_dec hi1 (by decide) c_6).2; omega), hF, hP.sub [2, 3, 0, 1] rfl, hD.sub [2, 3, 0, 1] (by decide) rfl, hS, lv_sub hl [0, 2, 3] rfl⟩
      · have hF := if_t hF c_18
        refine lv_aload_n hx hb dX2_takeSeed_21 rfl (lv_at hl 3 rfl) ?_
        refine lv_iload_n hx hb dX2_takeSeed_22 rfl (lv_at hl 0 rfl) ?_
        have hPc := hP.sub (ws' := [(g0, .inr (2, [.ref g1, .int gsz])), (g1, .inl (G.2 0, 256, .inl seeds))]) [0, 1] rfl
        have hDc := hD.sub (ws' := [(g0, .inr (2, [.ref g1, .int gsz])), (g1, .inl (G.2 0, 256, .inl seeds))]) [0, 1] (by decide) rfl
        refine pu_call (va_runV (As := [.int r1]) (rest := []) ⟨hx, hb, hml, hown, hts⟩ (c_X0_has l G g0 g1 _ gsz seeds r1) (cwV 1 hts gX2_takeSeed_X0_has rfl rfl rfl (by decide +kernel) ⟨Nat.le_of_ble_eq_true rfl, Nat.le_of_ble_eq_true rfl⟩) (pR_V hK hPc hDc (q0 := 0) rfl rfl) rfl rfl hl.1 rfl (lv_room (Nat.le_of_ble_eq_true rfl)) dX2_takeSeed_23 ⟨Nat.le_of_ble_eq_true rfl, Nat.le_of_ble_eq_true rfl⟩) ?_
        refine lv_if_ne (tgt := 31) hx hb dX2_takeSeed_26 (by decide) (fun c_26 => ?_) (fun c_26 => ?_)
        · have hF := if_f hF c_26
          refine lv_iinc (v := (rest + (-1))) (lv' := [(2, .int (rest + (-1))), (3, .int r1), (0, .ref h0), (1, .ref g0)]) hx hb dX2_takeSeed_31 hl (k := 1) rfl rfl (by decide) rfl (fun ls hl => ?_)
          refine lv_goto (tgt := 5) hx hb dX2_takeSeed_34 (by decide) ?_
          exact ih ((rest + (-1)), u1.1, u1.2) _ _ _ ⟨(tf_first ez1 hi0), ((i_dec hi1 (by decide) c_6).1), (by show (rest + (-1)).toNatClampNeg < n; have := (i_dec hi1 (by decide) c_6).2; omega), hF, hP.sub [2, 3, 0, 1] rfl, hD.sub [2, 3, 0, 1] (by decide) rfl, hS, lv_sub hl [0, 2, 3] rfl⟩
        · have hF := if_t hF c_26
          refine lv_iload_n hx hb dX2_takeSeed_29 rfl (lv_at hl 0 rfl) ?_
          exact W.iret (v := r1) hx hb hr (fun t ht hW => ⟨⟨r1, (u1.1, u1.2), rfl, hF.symm, by rw [ht]; exact hP.sub [2, 3, 0, 1] rfl, hD.sub [2, 3, 0, 1] (by decide) rfl⟩, hS.F ht⟩) hS.2.2 dX2_takeSeed_30

set_option maxHeartbeats 4000000 in
set_option maxRecDepth 100000 in
theorem c_X2_init (l : Launch) (G : gG) (h0 : Nat) (sz : Nat) : Met l yX2_init wsX2_init ({ frames := 1, cells := 1, slots := 200, locals := 12 }) (va_Pc [.ref h0] (pR G [(h0, .inr (4, [.null, .int 0, .int 0]))] sz)) (va_Qv (fun u : Nat => True) (fun u t => pO G [(h0, .inr (4, [.ref u, .int 0, .int 0])), (u, .inl (G.2 0, 200, .inl (fun _ => 0)))] (va_A [(h0, .inr (4, [.null, .int 0, .int 0]))] sz) t) (va_A [(h0, .inr (4, [.null, .int 0, .int 0]))] sz)) 1 200 (va_A [(h0, .inr (4, [.null, .int 0, .int 0]))] sz) := by
  refine Met.ofW (cc := cX2_init) (maxL := 1) (ret := none) (by decide) rfl ?_
  intro p e s m args below meth c s₁ B hml hv
  obtain ⟨rfl, hsz, hP, hK, hD0⟩ := hv
  have hx := B.exec
  have hb := B.bytes
  have hr := B.returns
  have hts := atoms_spec (ws := wsX2_init) B.pre
  have hown : s.vm.findClass RX2 = some m.cls := findClass_of_methodNamed B.named
  have hlocks := B.notSynchronized
  have hin : meth.name = "<init>" := (name_of_methodNamed B.named B.method).1
  subst hsz
  have iX2 : ∀ w ∈ wsX20, w ∈ wsX2_init := by decide +kernel
  have hD := hD0.self (sz := s.heap.size)
  generalize hAe : va_A [(h0, .inr (4, [.null, .int 0, .int 0]))] s.heap.size = A at hD ⊢
  have hA : ∀ q : Nat, s.heap.size ≤ q → A q := fun q h => by rw [← hAe]; exact Or.inr h
  have hS : va_S A s.heap s.heap [] := va_S.rf
  have hP : va_P G.1 vwCl [(h0, .inr (4, [.null, .int 0, .int 0]))] s.heap := hP
  have hl := lv_entry ([.ref h0]) (n := 1) (Nat.le_of_ble_eq_true rfl)
  rw [lg_entry_eq]
  generalize (lg_sl ([.ref h0]) ++ List.replicate (1 - (lg_sl ([.ref h0])).length) Slot.unset).toArray = ls at hl ⊢
  have hl : lv_has ls 1 [(0, .ref h0)] := hl
  refine lv_aload_n hx hb dX2_init_0 rfl (lv_at hl 0 rfl) ?_
  refine W.objInit hx hb hown (hts (.methodLink RX2 3 objectInit) (by decide +kernel)) (hts (.instanceMethod objectInit) (by decide +kernel)) (hts (.code objectInit ⟨#[0xb1]⟩ 1 none) (by decide +kernel)) rfl (by rw [hml]; exact hl.1) rfl dX2_init_1 (Nat.le_of_ble_eq_true rfl) (Nat.le_of_ble_eq_true rfl) ?_
  refine W.eq (g2 := F0 m 4 ls ([])) rfl ?_
  refine lv_aload_n hx hb dX2_init_4 rfl (lv_at hl 0 rfl) ?_
  refine lv_sipush (v := 200) hx hb dX2_init_5 (by decide) ?_
  refine my_newa (atype := .int) hx hb (hts (.arrayClass .int) (by decide +kernel)) rfl hK hP hD hS hA 0 rfl (fun _ h => by cases h) (a0 := (200, .inl (fun _ => 0))) (fun _ => rfl) (by decide) rfl (Nat.le_of_ble_eq_true rfl) (Nat.le_of_ble_eq_true rfl) (Nat.le_of_ble_eq_true rfl) dX2_init_8 (fun q1 H hP hD hS => ?_)
  refine W.widen (k := 1) (n := 200) (Nat.le_of_ble_eq_true rfl) (Nat.le_of_ble_eq_true rfl) ?_
  have hP : va_P G.1 vwCl [(h0, .inr (4, [.null, .int 0, .int 0])), (q1, .inl (G.2 0, 200, .inl (fun _ => 0)))] H := hP
  have hD : va_D A [(h0, .inr (4, [.null, .int 0, .int 0])), (q1, .inl (G.2 0, 200, .inl (fun _ => 0)))] := hD
  refine va_putF (D := G.1) (ci := 4) (v := .ref q1) (ty := .array .int) (C := RX2) (T := TX2) (N := 3) hx hb hts iX2 tyX2 tyX2_ok nmX2 hown hK.1 hP hD hS 0 rfl rfl 0 (by decide) (hts (.fieldLink RX2 11 "RightsSteps$Tape" "numbers" "[I") (by decide +kernel)) (fun _ h9 => h9) rfl hin rfl (by decide +kernel) rfl rfl (Nat.le_of_ble_eq_true rfl) dX2_init_10 (fun H locs hP hD hS => ?_)
  have hP : va_P G.1 vwCl [(h0, .inr (4, [.ref q1, .int 0, .int 0])), (q1, .inl (G.2 0, 200, .inl (fun _ => 0)))] H := hP
  have hD : va_D A [(h0, .inr (4, [.ref q1, .int 0, .int 0])), (q1, .inl (G.2 0, 200, .inl (fun _ => 0)))] := hD
  exact W.vret hx hb hr (fun t ht hW => ⟨⟨q1, rfl, True.intro, by rw [ht]; exact hP.sub [0, 1] rfl, hD.sub [0, 1] (by decide) rfl⟩, hS.F ht⟩) hS.2.2 dX2_init_13

set_option maxHeartbeats 4000000 in
set_option maxRecDepth 100000 in
theorem c_X0_init (l : Launch) (G : gG) (h0 : Nat) (sz : Nat) : Met l yX0_init wsX0_init ({ frames := 1, cells := 1, slots := 256, locals := 12 }) (va_Pc [.ref h0] (pR G [(h0, .inr (2, [.null, .int 0]))] sz)) (va_Qv (fun u : Nat => True) (fun u t => pO G [(h0, .inr (2, [.ref u, .int 0])), (u, .inl (G.2 0, 256, .inl (fun _ => 0)))] (va_A [(h0, .inr (2, [.null, .int 0]))] sz) t) (va_A [(h0, .inr (2, [.null, .int 0]))] sz)) 1 256 (va_A [(h0, .inr (2, [.null, .int 0]))] sz) := by
  refine Met.ofW (cc := cX0_init) (maxL := 1) (ret := none) (by decide) rfl ?_
  intro p e s m args below meth c s₁ B hml hv
  obtain ⟨rfl, hsz, hP, hK, hD0⟩ := hv
  have hx := B.exec
  have hb := B.bytes
  have hr := B.returns
  have hts := atoms_spec (ws := wsX0_init) B.pre
  have hown : s.vm.findClass RX0 = some m.cls := findClass_of_methodNamed B.named
  have hlocks := B.notSynchronized
  have hin : meth.name = "<init>" := (name_of_methodNamed B.named B.method).1
  subst hsz
  have iX0 : ∀ w ∈ wsX00, w ∈ wsX0_init := by decide +kernel
  have hD := hD0.self (sz := s.heap.size)
  generalize hAe : va_A [(h0, .inr (2, [.null, .int 0]))] s.heap.size = A at hD ⊢
  have hA : ∀ q : Nat, s.heap.size ≤ q → A q := fun q h => by rw [← hAe]; exact Or.inr h
  have hS : va_S A s.heap s.heap [] := va_S.rf
  have hP : va_P G.1 vwCl [(h0, .inr (2, [.null, .int 0]))] s.heap := hP
  have hl := lv_entry ([.ref h0]) (n := 1) (Nat.le_of_ble_eq_true rfl)
  rw [lg_entry_eq]
  generalize (lg_sl ([.ref h0]) ++ List.replicate (1 - (lg_sl ([.ref h0])).length) Slot.unset).toArray = ls at hl ⊢
  have hl : lv_has ls 1 [(0, .ref h0)] := hl
  refine lv_aload_n hx hb dX0_init_0 rfl (lv_at hl 0 rfl) ?_
  refine W.objInit hx hb hown (hts (.methodLink RX0 1 objectInit) (by decide +kernel)) (hts (.instanceMethod objectInit) (by decide +kernel)) (hts (.code objectInit ⟨#[0xb1]⟩ 1 none) (by decide +kernel)) rfl (by rw [hml]; exact hl.1) rfl dX0_init_1 (Nat.le_of_ble_eq_true rfl) (Nat.le_of_ble_eq_true rfl) ?_
  refine W.eq (g2 := F0 m 4 ls ([])) rfl ?_
  refine lv_aload_n hx hb dX0_init_4 rfl (lv_at hl 0 rfl) ?_
  refine lv_sipush (v := 256) hx hb dX0_init_5 (by decide) ?_
  refine my_newa (atype := .int) hx hb (hts (.arrayClass .int) (by decide +kernel)) rfl hK hP hD hS hA 0 rfl (fun _ h => by cases h) (a0 := (256, .inl (fun _ => 0))) (fun _ => rfl) (by decide) rfl (Nat.le_of_ble_eq_true rfl) (Nat.le_of_ble_eq_true rfl) (Nat.le_of_ble_eq_true rfl) dX0_init_8 (fun q1 H hP hD hS => ?_)
  refine W.widen (k := 1) (n := 256) (Nat.le_of_ble_eq_true rfl) (Nat.le_of_ble_eq_true rfl) ?_
  have hP : va_P G.1 vwCl [(h0, .inr (2, [.null, .int 0])), (q1, .inl (G.2 0, 256, .inl (fun _ => 0)))] H := hP
  have hD : va_D A [(h0, .inr (2, [.null, .int 0])), (q1, .inl (G.2 0, 256, .inl (fun _ => 0)))] := hD
  refine va_putF (D := G.1) (ci := 2) (v := .ref q1) (ty := .array .int) (C := RX0) (T := TX0) (N := 2) hx hb hts iX0 tyX0 tyX0_ok nmX0 hown hK.1 hP hD hS 0 rfl rfl 0 (by decide) (hts (.fieldLink RX0 9 "RightsSteps$GivenSeeds" "seeds" "[I") (by decide +kernel)) (fun _ h9 => h9) rfl hin rfl (by decide +kernel) rfl rfl (Nat.le_of_ble_eq_true rfl) dX0_init_10 (fun H locs hP hD hS => ?_)
  have hP : va_P G.1 vwCl [(h0, .inr (2, [.ref q1, .int 0])), (q1, .inl (G.2 0, 256, .inl (fun _ => 0)))] H := hP
  have hD : va_D A [(h0, .inr (2, [.ref q1, .int 0])), (q1, .inl (G.2 0, 256, .inl (fun _ => 0)))] := hD
  exact W.vret hx hb hr (fun t ht hW => ⟨⟨q1, rfl, True.intro, by rw [ht]; exact hP.sub [0, 1] rfl, hD.sub [0, 1] (by decide) rfl⟩, hS.F ht⟩) hS.2.2 dX0_init_13

set_option maxHeartbeats 4000000 in
set_option maxRecDepth 100000 in
theorem c_X4_init (l : Launch) (G : gG) (h0 : Nat) (sz : Nat) : Met l yX4_init wsX4_init ({ frames := 1, cells := 1, slots := 900, locals := 12 }) (va_Pc [.ref h0] (pR G [(h0, .inr (6, [.null, .int 0, .int 0]))] sz)) (va_Qv (fun u : Nat => True) (fun u t => pO G [(h0, .inr (6, [.ref u, .int 0, .int 0])), (u, .inl (G.2 0, 900, .inl (fun _ => 0)))] (va_A [(h0, .inr (6, [.null, .int 0, .int 0]))] sz) t) (va_A [(h0, .inr (6, [.null, .int 0, .int 0]))] sz)) 1 900 (va_A [(h0, .inr (6, [.null, .int 0, .int 0]))] sz) := by
  refine Met.ofW (cc := cX4_init) (maxL := 1) (ret := none) (by decide) rfl ?_
  intro p e s m args below meth c s₁ B hml hv
  obtain ⟨rfl, hsz, hP, hK, hD0⟩ := hv
  have hx := B.exec
  have hb := B.bytes
  have hr := B.returns
  have hts := atoms_spec (ws := wsX4_init) B.pre
  have hown : s.vm.findClass RX4 = some m.cls := findClass_of_methodNamed B.named
  have hlocks := B.notSynchronized
  have hin : meth.name = "<init>" := (name_of_methodNamed B.named B.method).1
  subst hsz
  have iX4 : ∀ w ∈ wsX40, w ∈ wsX4_init := by decide +kernel
  have hD := hD0.self (sz := s.heap.size)
  generalize hAe : va_A [(h0, .inr (6, [.null, .int 0, .int 0]))] s.heap.size = A at hD ⊢
  have hA : ∀ q : Nat, s.heap.size ≤ q → A q := fun q h => by rw [← hAe]; exact Or.inr h
  have hS : va_S A s.heap s.heap [] := va_S.rf
  have hP : va_P G.1 vwCl [(h0, .inr (6, [.null, .int 0, .int 0]))] s.heap := hP
  have hl := lv_entry ([.ref h0]) (n := 1) (Nat.le_of_ble_eq_true rfl)
  rw [lg_entry_eq]
  generalize (lg_sl ([.ref h0]) ++ List.replicate (1 - (lg_sl ([.ref h0])).length) Slot.unset).toArray = ls at hl ⊢
  have hl : lv_has ls 1 [(0, .ref h0)] := hl
  refine lv_aload_n hx hb dX4_init_0 rfl (lv_at hl 0 rfl) ?_
  refine W.objInit hx hb hown (hts (.methodLink RX4 1 objectInit) (by decide +kernel)) (hts (.instanceMethod objectInit) (by decide +kernel)) (hts (.code objectInit ⟨#[0xb1]⟩ 1 none) (by decide +kernel)) rfl (by rw [hml]; exact hl.1) rfl dX4_init_1 (Nat.le_of_ble_eq_true rfl) (Nat.le_of_ble_eq_true rfl) ?_
  refine W.eq (g2 := F0 m 4 ls ([])) rfl ?_
  refine lv_aload_n hx hb dX4_init_4 rfl (lv_at hl 0 rfl) ?_
  refine lv_sipush (v := 900) hx hb dX4_init_5 (by decide) ?_
  refine my_newa (atype := .int) hx hb (hts (.arrayClass .int) (by decide +kernel)) rfl hK hP hD hS hA 0 rfl (fun _ h => by cases h) (a0 := (900, .inl (fun _ => 0))) (fun _ => rfl) (by decide) rfl (Nat.le_of_ble_eq_true rfl) (Nat.le_of_ble_eq_true rfl) (Nat.le_of_ble_eq_true rfl) dX4_init_8 (fun q1 H hP hD hS => ?_)
  refine W.widen (k := 1) (n := 900) (Nat.le_of_ble_eq_true rfl) (Nat.le_of_ble_eq_true rfl) ?_
  have hP : va_P G.1 vwCl [(h0, .inr (6, [.null, .int 0, .int 0])), (q1, .inl (G.2 0, 900, .inl (fun _ => 0)))] H := hP
  have hD : va_D A [(h0, .inr (6, [.null, .int 0, .int 0])), (q1, .inl (G.2 0, 900, .inl (fun _ => 0)))] := hD
  refine va_putF (D := G.1) (ci := 6) (v := .ref q1) (ty := .array .int) (C := RX4) (T := TX4) (N := 3) hx hb hts iX4 tyX4 tyX4_ok nmX4 hown hK.1 hP hD hS 0 rfl rfl 0 (by decide) (hts (.fieldLink RX4 9 "RightsSteps$UseLog" "parts" "[I") (by decide +kernel)) (fun _ h9 => h9) rfl hin rfl (by decide +kernel) rfl rfl (Nat.le_of_ble_eq_true rfl) dX4_init_10 (fun H locs hP hD hS => ?_)
  have hP : va_P G.1 vwCl [(h0, .inr (6, [.ref q1, .int 0, .int 0])), (q1, .inl (G.2 0, 900, .inl (fun _ => 0)))] H := hP
  have hD : va_D A [(h0, .inr (6, [.ref q1, .int 0, .int 0])), (q1, .inl (G.2 0, 900, .inl (fun _ => 0)))] := hD
  exact W.vret hx hb hr (fun t ht hW => ⟨⟨q1, rfl, True.intro, by rw [ht]; exact hP.sub [0, 1] rfl, hD.sub [0, 1] (by decide) rfl⟩, hS.F ht⟩) hS.2.2 dX4_init_13

set_option maxHeartbeats 4000000 in
set_option maxRecDepth 100000 in
theorem c_X1_init (l : Launch) (G : gG) (h0 : Nat) (sz : Nat) (p1 : Int32) (p2 : Int32) (p3 : Int32) (p4 : Int64) : Met l yX1_init wsX1_init ({ frames := 1, cells := 0, slots := 0, locals := 12 }) (va_Pc [.ref h0, .int p1, .int p2, .int p3, .long p4] (pR G [(h0, .inr (3, [.int 0, .int 0, .int 0, .long 0]))] sz)) (va_Qv (fun u : Unit => True) (fun u t => pO G [(h0, .inr (3, [.int p1, .int p2, .int p3, .long p4]))] (va_A [(h0, .inr (3, [.int 0, .int 0, .int 0, .long 0]))] sz) t) (va_A [(h0, .inr (3, [.int 0, .int 0, .int 0, .long 0]))] sz)) 0 0 (va_A [(h0, .inr (3, [.int 0, .int 0, .int 0, .long 0]))] sz) := by
  refine Met.ofW (cc := cX1_init) (maxL := 6) (ret := none) (by decide) rfl ?_
  intro p e s m args below meth c s₁ B hml hv
  obtain ⟨rfl, hsz, hP, hK, hD0⟩ := hv
  have hx := B.exec
  have hb := B.bytes
  have hr := B.returns
  have hts := atoms_spec (ws := wsX1_init) B.pre
  have hown : s.vm.findClass RX1 = some m.cls := findClass_of_methodNamed B.named
  have hlocks := B.notSynchronized
  have hin : meth.name = "<init>" := (name_of_methodNamed B.named B.method).1
  subst hsz
  have iX1 : ∀ w ∈ wsX10, w ∈ wsX1_init := by decide +kernel
  have hD := hD0.self (sz := s.heap.size)
  generalize hAe : va_A [(h0, .inr (3, [.int 0, .int 0, .int 0, .long 0]))] s.heap.size = A at hD ⊢
  have hA : ∀ q : Nat, s.heap.size ≤ q → A q := fun q h => by rw [← hAe]; exact Or.inr h
  have hS : va_S A s.heap s.heap [] := va_S.rf
  have hP : va_P G.1 vwCl [(h0, .inr (3, [.int 0, .int 0, .int 0, .long 0]))] s.heap := hP
  have hl := lv_entry ([.ref h0, .int p1, .int p2, .int p3, .long p4]) (n := 6) (Nat.le_of_ble_eq_true rfl)
  rw [lg_entry_eq]
  generalize (lg_sl ([.ref h0, .int p1, .int p2, .int p3, .long p4]) ++ List.replicate (6 - (lg_sl ([.ref h0, .int p1, .int p2, .int p3, .long p4])).length) Slot.unset).toArray = ls at hl ⊢
  have hl : lv_has ls 6 [(0, .ref h0), (1, .int p1), (2, .int p2), (3, .int p3), (4, .long p4)] := hl
  refine lv_aload_n hx hb dX1_init_0 rfl (lv_at hl 0 rfl) ?_
  refine W.objInit hx hb hown (hts (.methodLink RX1 3 objectInit) (by decide +kernel)) (hts (.instanceMethod objectInit) (by decide +kernel)) (hts (.code objectInit ⟨#[0xb1]⟩ 1 none) (by decide +kernel)) rfl (by rw [hml]; exact hl.1) rfl dX1_init_1 (Nat.le_of_ble_eq_true rfl) (Nat.le_of_ble_eq_true rfl) ?_
  refine W.eq (g2 := F0 m 4 ls ([])) rfl ?_
  refine lv_aload_n hx hb dX1_init_4 rfl (lv_at hl 0 rfl) ?_
  refine lv_iload_n hx hb dX1_init_5 rfl (lv_at hl 1 rfl) ?_
  refine va_putF (D := G.1) (ci := 3) (v := .int p1) (ty := .int) (C := RX1) (T := TX1) (N := 4) hx hb hts iX1 tyX1 tyX1_ok nmX1 hown hK.1 hP hD hS 0 rfl rfl 0 (by decide) (hts (.fieldLink RX1 9 "RightsSteps$Level" "number" "I") (by decide +kernel)) (fun _ h9 => h9) rfl hin rfl (by decide +kernel) rfl rfl (Nat.le_of_ble_eq_true rfl) dX1_init_6 (fun H locs hP hD hS => ?_)
  have hP : va_P G.1 vwCl [(h0, .inr (3, [.int p1, .int 0, .int 0, .long 0]))] H := hP
  have hD : va_D A [(h0, .inr (3, [.int p1, .int 0, .int 0, .long 0]))] := hD
  refine lv_aload_n hx hb dX1_init_9 rfl (lv_at hl 0 rfl) ?_
  refine lv_iload_n hx hb dX1_init_10 rfl (lv_at hl 2 rfl) ?_
  refine va_putF (D := G.1) (ci := 3) (v := .int p2) (ty := .int) (C := RX1) (T := TX1) (N := 4) hx hb hts iX1 tyX1 tyX1_ok nmX1 hown hK.1 hP hD hS 0 rfl rfl 1 (by decide) (hts (.fieldLink RX1 15 "RightsSteps$Level" "kind" "I") (by decide +kernel)) (fun _ h9 => h9) rfl hin rfl (by decide +kernel) rfl rfl (Nat.le_of_ble_eq_true rfl) dX1_init_11 (fun H locs hP hD hS => ?_)
  have hP : va_P G.1 vwCl [(h0, .inr (3, [.int p1, .int p2, .int 0, .long 0]))] H := hP
  have hD : va_D A [(h0, .inr (3, [.int p1, .int p2, .int 0, .long 0]))] := hD
  refine lv_aload_n hx hb dX1_init_14 rfl (lv_at hl 0 rfl) ?_
  refine lv_iload_n hx hb dX1_init_15 rfl (lv_at hl 3 rfl) ?_
  refine va_putF (D := G.1) (ci := 3) (v := .int p3) (ty := .int) (C := RX1) (T := TX1) (N := 4) hx hb hts iX1 tyX1 tyX1_ok nmX1 hown hK.1 hP hD hS 0 rfl rfl 2 (by decide) (hts (.fieldLink RX1 18 "RightsSteps$Level" "tries" "I") (by decide +kernel)) (fun _ h9 => h9) rfl hin rfl (by decide +kernel) rfl rfl (Nat.le_of_ble_eq_true rfl) dX1_init_16 (fun H locs hP hD hS => ?_)
  have hP : va_P G.1 vwCl [(h0, .inr (3, [.int p1, .int p2, .int p3, .long 0]))] H := hP
  have hD : va_D A [(h0, .inr (3, [.int p1, .int p2, .int p3, .long 0]))] := hD
  refine lv_aload_n hx hb dX1_init_19 rfl (lv_at hl 0 rfl) ?_
  refine lv_lload hx hb dX1_init_20 (lv_at hl 4 rfl) ?_
  refine va_putF (D := G.1) (ci := 3) (v := .long p4) (ty := .long) (C := RX1) (T := TX1) (N := 4) hx hb hts iX1 tyX1 tyX1_ok nmX1 hown hK.1 hP hD hS 0 rfl rfl 3 (by decide) (hts (.fieldLink RX1 21 "RightsSteps$Level" "delay" "J") (by decide +kernel)) (fun _ h9 => h9) rfl hin rfl (by decide +kernel) rfl rfl (Nat.le_of_ble_eq_true rfl) dX1_init_22 (fun H locs hP hD hS => ?_)
  have hP : va_P G.1 vwCl [(h0, .inr (3, [.int p1, .int p2, .int p3, .long p4]))] H := hP
  have hD : va_D A [(h0, .inr (3, [.int p1, .int p2, .int p3, .long p4]))] := hD
  exact W.vret hx hb hr (fun t ht hW => ⟨⟨(), rfl, True.intro, by rw [ht]; exact hP.sub [0] rfl, hD.sub [0] (by decide) rfl⟩, hS.F ht⟩) hS.2.2 dX1_init_25

def FL_J7_fill_d0a16_6 (lk : Nat → Int64) (p1 : Int64) : Nat → Int32 → (Nat → Int64) → (Nat → Int64)
  | 0, _, _ => (fun _ => 0)
  | n + 1, k, lrow => (if 21 ≤ k then lrow else (FL_J7_fill_d0a16_6 lk p1 n (k + 1) (vp_updL lrow (k : Int32).toNatClampNeg p1)))
def F_J7_fill_d0a16 (lk : Nat → Int64) (p1 : Int64) : (Nat → Int64) :=
  (FL_J7_fill_d0a16_6 lk p1 23 0 lk)
set_option maxHeartbeats 4000000 in
set_option maxRecDepth 100000 in
theorem c_J7_fill_d0a16 (l : Launch) (G : gG) (h0 : Nat) (sz : Nat) (lk : Nat → Int64) (p1 : Int64) : Met l yJ7_fill_d0a16 wsJ7_fill_d0a16 ({ frames := 0, cells := 0, slots := 0, locals := 0 }) (va_Pc [.ref h0, .long p1] (pR G [(h0, .inl (G.2 1, 21, .inr (.inl lk)))] sz)) (va_Qv (fun (u : (Nat → Int64)) => u = F_J7_fill_d0a16 lk p1) (fun u t => pO G [(h0, .inl (G.2 1, 21, .inr (.inl u)))] (va_A [(h0, .inl (G.2 1, 21, .inr (.inl lk)))] sz) t) (va_A [(h0, .inl (G.2 1, 21, .inr (.inl lk)))] sz)) 0 0 (va_A [(h0, .inl (G.2 1, 21, .inr (.inl lk)))] sz) := by
  refine Met.ofW (cc := cJ7_fill_d0a16) (maxL := 5) (ret := none) (by decide) rfl ?_
  intro p e s m args below meth c s₁ B hml hv
  obtain ⟨rfl, hsz, hP, hK, hD0⟩ := hv
  have hx := B.exec
  have hb := B.bytes
  have hr := B.returns
  have hts := atoms_spec (ws := wsJ7_fill_d0a16) B.pre
  have hown : s.vm.findClass RJ7 = some m.cls := findClass_of_methodNamed B.named
  have hlocks := B.notSynchronized
  subst hsz
  have hD := hD0.self (sz := s.heap.size)
  generalize hAe : va_A [(h0, .inl (G.2 1, 21, .inr (.inl lk)))] s.heap.size = A at hD ⊢
  have hA : ∀ q : Nat, s.heap.size ≤ q → A q := fun q h => by rw [← hAe]; exact Or.inr h
  have hS : va_S A s.heap s.heap [] := va_S.rf
  have hP : va_P G.1 vwCl [(h0, .inl (G.2 1, 21, .inr (.inl lk)))] s.heap := hP
  have hl := lv_entry ([.ref h0, .long p1]) (n := 5) (Nat.le_of_ble_eq_true rfl)
  rw [lg_entry_eq]
  generalize (lg_sl ([.ref h0, .long p1]) ++ List.replicate (5 - (lg_sl ([.ref h0, .long p1])).length) Slot.unset).toArray = ls at hl ⊢
  have hl : lv_has ls 5 [(0, .ref h0), (1, .long p1)] := hl
  have hF : F_J7_fill_d0a16 lk p1 = F_J7_fill_d0a16 lk p1 := rfl
  refine lv_iconst (v := 0) hx hb dJ7_fill_d0a16_0 (by decide) ?_
  refine lv_istore_n (lv' := [(3, .int 0), (0, .ref h0), (1, .long p1)]) hx hb dJ7_fill_d0a16_1 rfl hl (by decide) rfl (fun ls hl => ?_)
  refine lv_aload_n hx hb dJ7_fill_d0a16_2 rfl (lv_at hl 1 rfl) ?_
  refine va_alen (v := 21) hx hb hK.1 hP 0 1 rfl rfl rfl dJ7_fill_d0a16_3 ?_
  refine lv_istore (lv' := [(4, .int 21), (3, .int 0), (0, .ref h0), (1, .long p1)]) hx hb dJ7_fill_d0a16_4 hl (by decide) rfl (fun ls hl => ?_)
  refine W.loop (σ := Int32 × (Nat → Int64)) (fun (n : Nat) (v : Int32 × (Nat → Int64)) (H : Heap) (locs : List Loc) (ls : Array Slot) => (vp_in v.1 22) ∧ 22 < v.1.toNatClampNeg + n ∧ (F_J7_fill_d0a16 lk p1 = FL_J7_fill_d0a16_6 lk p1 n v.1 v.2) ∧ va_P G.1 vwCl [(h0, .inl (G.2 1, 21, .inr (.inl v.2)))] H ∧ va_D A [(h0, .inl (G.2 1, 21, .inr (.inl v.2)))] ∧ va_S A s.heap H locs ∧ lv_has ls 5 [(4, .int 21), (3, .int v.1), (0, .ref h0), (1, .long p1)]) ?_ ?_ 23 (0, lk) ⟨(show vp_in 0 22 from vp_in_iff.mpr (by decide)), (show 22 < (0 : Int32).toNatClampNeg + 23 by decide), hF, hP, hD, hS, lv_sub hl [0, 1, 2, 3] rfl⟩
  · rintro ⟨k, lrow⟩ H locs ls ⟨hi0, hi1, _, _, _, _, _⟩
    have hi0 : (vp_in k 22) := hi0
    have hi1 : 22 < k.toNatClampNeg + 0 := hi1
    exact absurd (hi_lt hi0) (by omega)
  · rintro n ih ⟨k, lrow⟩ H locs ls ⟨hi0, hi1, hF, hP, hD, hS, hl⟩
    have hi0 : (vp_in k 22) := hi0
    have hi1 : 22 < k.toNatClampNeg + (n + 1) := hi1
    have hP : va_P G.1 vwCl [(h0, .inl (G.2 1, 21, .inr (.inl lrow)))] H := hP
    have hD : va_D A [(h0, .inl (G.2 1, 21, .inr (.inl lrow)))] := hD
    have hl : lv_has ls 5 [(4, .int 21), (3, .int k), (0, .ref h0), (1, .long p1)] := hl
    have hF : F_J7_fill_d0a16 lk p1 = FL_J7_fill_d0a16_6 lk p1 (n + 1) k lrow := hF
    refine lv_iload_n hx hb dJ7_fill_d0a16_6 rfl (lv_at hl 1 rfl) ?_
    refine lv_iload hx hb dJ7_fill_d0a16_7 (lv_at hl 0 rfl) ?_
    refine lv_icmp_ge (tgt := 22) hx hb dJ7_fill_d0a16_9 (by decide) (fun c_9 => ?_) (fun c_9 => ?_)
    · have hF := if_t hF c_9
      exact W.vret hx hb hr (fun t ht hW => ⟨⟨lrow, rfl, hF.symm, by rw [ht]; exact hP.sub [0] rfl, hD.sub [0] (by decide) rfl⟩, hS.F ht⟩) hS.2.2 dJ7_fill_d0a16_22
    · have hF := if_f hF c_9
      refine lv_aload_n hx hb dJ7_fill_d0a16_12 rfl (lv_at hl 2 rfl) ?_
      refine lv_iload_n hx hb dJ7_fill_d0a16_13 rfl (lv_at hl 1 rfl) ?_
      refine lv_lload_n hx hb dJ7_fill_d0a16_14 rfl (lv_at hl 3 rfl) ?_
      refine va_last (f := lrow) hx hb hK.1 hP hD hS 0 1 rfl rfl (in_le (in_n0 hi0) c_9 rfl) dJ7_fill_d0a16_15 (fun H locs hP hD hS => ?_)
      have hP : va_P G.1 vwCl [(h0, .inl (G.2 1, 21, .inr (.inl (vp_updL lrow (k : Int32).toNatClampNeg p1))))] H := hP
      have hD : va_D A [(h0, .inl (G.2 1, 21, .inr (.inl (vp_updL lrow (k : Int32).toNatClampNeg p1))))] := hD
      refine lv_iinc (v := (k + 1)) (lv' := [(3, .int (k + 1)), (4, .int 21), (0, .ref h0), (1, .long p1)]) hx hb dJ7_fill_d0a16_16 hl (k := 1) rfl rfl (by decide) rfl (fun ls hl => ?_)
      refine lv_goto (tgt := 6) hx hb dJ7_fill_d0a16_19 (by decide) ?_
      exact ih ((k + 1), (vp_updL lrow (k : Int32).toNatClampNeg p1)) _ _ _ ⟨(i_inc hi0 (i_not c_9) rfl), (by show 22 < (k + 1).toNatClampNeg + n; rw [i_incN hi0 (by decide)]; omega), hF, hP.sub [0] rfl, hD.sub [0] (by decide) rfl, hS, lv_sub hl [1, 0, 2, 3] rfl⟩

set_option maxHeartbeats 4000000 in
set_option maxRecDepth 100000 in
theorem c_X3_init (l : Launch) (G : gG) (h0 : Nat) (sz : Nat) (p1 : Int32) : Met l yX3_init wsX3_init ({ frames := 1, cells := 2, slots := 42, locals := 24 }) (va_Pc [.ref h0, .int p1] (pR G [(h0, .inr (5, [.int 0, .int 0, .long 0, .int 0, .int 0, .int 0, .int 0, .int 0, .int 0, .null, .null]))] sz)) (va_Qv (fun u : Nat × Nat => True) (fun u t => pO G [(h0, .inr (5, [.int p1, .int 1, .long (-9223372036854775808), .int 0, .int 0, .int 0, .int 0, .int 0, .int 0, .ref u.1, .ref u.2])), (u.1, .inl (G.2 0, 21, .inl (fun _ => 0))), (u.2, .inl (G.2 1, 21, .inr (.inl (F_J7_fill_d0a16 (fun _ => 0) (-9223372036854775808)))))] (va_A [(h0, .inr (5, [.int 0, .int 0, .long 0, .int 0, .int 0, .int 0, .int 0, .int 0, .int 0, .null, .null]))] sz) t) (va_A [(h0, .inr (5, [.int 0, .int 0, .long 0, .int 0, .int 0, .int 0, .int 0, .int 0, .int 0, .null, .null]))] sz)) 2 42 (va_A [(h0, .inr (5, [.int 0, .int 0, .long 0, .int 0, .int 0, .int 0, .int 0, .int 0, .int 0, .null, .null]))] sz) := by
  refine Met.ofW (cc := cX3_init) (maxL := 2) (ret := none) (by decide) rfl ?_
  intro p e s m args below meth c s₁ B hml hv
  obtain ⟨rfl, hsz, hP, hK, hD0⟩ := hv
  have hx := B.exec
  have hb := B.bytes
  have hr := B.returns
  have hts := atoms_spec (ws := wsX3_init) B.pre
  have hown : s.vm.findClass RX3 = some m.cls := findClass_of_methodNamed B.named
  have hlocks := B.notSynchronized
  have hin : meth.name = "<init>" := (name_of_methodNamed B.named B.method).1
  subst hsz
  have iX3 : ∀ w ∈ wsX30, w ∈ wsX3_init := by decide +kernel
  have hD := hD0.self (sz := s.heap.size)
  generalize hAe : va_A [(h0, .inr (5, [.int 0, .int 0, .long 0, .int 0, .int 0, .int 0, .int 0, .int 0, .int 0, .null, .null]))] s.heap.size = A at hD ⊢
  have hA : ∀ q : Nat, s.heap.size ≤ q → A q := fun q h => by rw [← hAe]; exact Or.inr h
  have hS : va_S A s.heap s.heap [] := va_S.rf
  have hP : va_P G.1 vwCl [(h0, .inr (5, [.int 0, .int 0, .long 0, .int 0, .int 0, .int 0, .int 0, .int 0, .int 0, .null, .null]))] s.heap := hP
  have hl := lv_entry ([.ref h0, .int p1]) (n := 2) (Nat.le_of_ble_eq_true rfl)
  rw [lg_entry_eq]
  generalize (lg_sl ([.ref h0, .int p1]) ++ List.replicate (2 - (lg_sl ([.ref h0, .int p1])).length) Slot.unset).toArray = ls at hl ⊢
  have hl : lv_has ls 2 [(0, .ref h0), (1, .int p1)] := hl
  refine lv_aload_n hx hb dX3_init_0 rfl (lv_at hl 0 rfl) ?_
  refine W.objInit hx hb hown (hts (.methodLink RX3 3 objectInit) (by decide +kernel)) (hts (.instanceMethod objectInit) (by decide +kernel)) (hts (.code objectInit ⟨#[0xb1]⟩ 1 none) (by decide +kernel)) rfl (by rw [hml]; exact hl.1) rfl dX3_init_1 (Nat.le_of_ble_eq_true rfl) (Nat.le_of_ble_eq_true rfl) ?_
  refine W.eq (g2 := F0 m 4 ls ([])) rfl ?_
  refine lv_aload_n hx hb dX3_init_4 rfl (lv_at hl 0 rfl) ?_
  refine lv_iconst (v := 1) hx hb dX3_init_5 (by decide) ?_
  refine va_put (D := G.1) (ci := 5) (v := .int 1) (ty := .int) (C := RX3) (T := TX3) (N := 11) hx hb hts iX3 tyX3 tyX3_ok nmX3 hown hK.1 hP hD hS 0 rfl rfl 1 (by decide) (hts (.fieldLink RX3 9 "RightsSteps$Tester" "session" "I") (by decide +kernel)) (fun _ h9 => h9) rfl (by decide +kernel) rfl rfl (Nat.le_of_ble_eq_true rfl) dX3_init_6 (fun H locs hP hD hS => ?_)
  have hP : va_P G.1 vwCl [(h0, .inr (5, [.int 0, .int 1, .long 0, .int 0, .int 0, .int 0, .int 0, .int 0, .int 0, .null, .null]))] H := hP
  have hD : va_D A [(h0, .inr (5, [.int 0, .int 1, .long 0, .int 0, .int 0, .int 0, .int 0, .int 0, .int 0, .null, .null]))] := hD
  refine lv_aload_n hx hb dX3_init_9 rfl (lv_at hl 0 rfl) ?_
  refine lv_ldc2 (v := (-9223372036854775808)) hx hb hown (hts (.constantLong RX3 15 (-9223372036854775808)) (by decide +kernel)) dX3_init_10 ?_
  refine va_put (D := G.1) (ci := 5) (v := .long (-9223372036854775808)) (ty := .long) (C := RX3) (T := TX3) (N := 11) hx hb hts iX3 tyX3 tyX3_ok nmX3 hown hK.1 hP hD hS 0 rfl rfl 2 (by decide) (hts (.fieldLink RX3 17 "RightsSteps$Tester" "roleUntil" "J") (by decide +kernel)) (fun _ h9 => h9) rfl (by decide +kernel) rfl rfl (Nat.le_of_ble_eq_true rfl) dX3_init_13 (fun H locs hP hD hS => ?_)
  have hP : va_P G.1 vwCl [(h0, .inr (5, [.int 0, .int 1, .long (-9223372036854775808), .int 0, .int 0, .int 0, .int 0, .int 0, .int 0, .null, .null]))] H := hP
  have hD : va_D A [(h0, .inr (5, [.int 0, .int 1, .long (-9223372036854775808), .int 0, .int 0, .int 0, .int 0, .int 0, .int 0, .null, .null]))] := hD
  refine lv_aload_n hx hb dX3_init_16 rfl (lv_at hl 0 rfl) ?_
  refine lv_iconst (v := 0) hx hb dX3_init_17 (by decide) ?_
  refine va_put (D := G.1) (ci := 5) (v := .int 0) (ty := .int) (C := RX3) (T := TX3) (N := 11) hx hb hts iX3 tyX3 tyX3_ok nmX3 hown hK.1 hP hD hS 0 rfl rfl 3 (by decide) (hts (.fieldLink RX3 21 "RightsSteps$Tester" "openLevel" "I") (by decide +kernel)) (fun _ h9 => h9) rfl (by decide +kernel) rfl rfl (Nat.le_of_ble_eq_true rfl) dX3_init_18 (fun H locs hP hD hS => ?_)
  have hP : va_P G.1 vwCl [(h0, .inr (5, [.int 0, .int 1, .long (-9223372036854775808), .int 0, .int 0, .int 0, .int 0, .int 0, .int 0, .null, .null]))] H := hP
  have hD : va_D A [(h0, .inr (5, [.int 0, .int 1, .long (-9223372036854775808), .int 0, .int 0, .int 0, .int 0, .int 0, .int 0, .null, .null]))] := hD
  refine lv_aload_n hx hb dX3_init_21 rfl (lv_at hl 0 rfl) ?_
  refine lv_iconst (v := 0) hx hb dX3_init_22 (by decide) ?_
  refine va_put (D := G.1) (ci := 5) (v := .int 0) (ty := .int) (C := RX3) (T := TX3) (N := 11) hx hb hts iX3 tyX3 tyX3_ok nmX3 hown hK.1 hP hD hS 0 rfl rfl 4 (by decide) (hts (.fieldLink RX3 24 "RightsSteps$Tester" "awaitedLevel" "I") (by decide +kernel)) (fun _ h9 => h9) rfl (by decide +kernel) rfl rfl (Nat.le_of_ble_eq_true rfl) dX3_init_23 (fun H locs hP hD hS => ?_)
  have hP : va_P G.1 vwCl [(h0, .inr (5, [.int 0, .int 1, .long (-9223372036854775808), .int 0, .int 0, .int 0, .int 0, .int 0, .int 0, .null, .null]))] H := hP
  have hD : va_D A [(h0, .inr (5, [.int 0, .int 1, .long (-9223372036854775808), .int 0, .int 0, .int 0, .int 0, .int 0, .int 0, .null, .null]))] := hD
  refine lv_aload_n hx hb dX3_init_26 rfl (lv_at hl 0 rfl) ?_
  refine lv_bipush (v := 21) hx hb dX3_init_27 (by decide) ?_
  refine my_newa (atype := .int) hx hb (hts (.arrayClass .int) (by decide +kernel)) rfl hK hP hD hS hA 0 rfl (fun _ h => by cases h) (a0 := (21, .inl (fun _ => 0))) (fun _ => rfl) (by decide) rfl (Nat.le_of_ble_eq_true rfl) (Nat.le_of_ble_eq_true rfl) (Nat.le_of_ble_eq_true rfl) dX3_init_29 (fun q1 H hP hD hS => ?_)
  refine W.widen (k := 1) (n := 21) (Nat.le_of_ble_eq_true rfl) (Nat.le_of_ble_eq_true rfl) ?_
  have hP : va_P G.1 vwCl [(h0, .inr (5, [.int 0, .int 1, .long (-9223372036854775808), .int 0, .int 0, .int 0, .int 0, .int 0, .int 0, .null, .null])), (q1, .inl (G.2 0, 21, .inl (fun _ => 0)))] H := hP
  have hD : va_D A [(h0, .inr (5, [.int 0, .int 1, .long (-9223372036854775808), .int 0, .int 0, .int 0, .int 0, .int 0, .int 0, .null, .null])), (q1, .inl (G.2 0, 21, .inl (fun _ => 0)))] := hD
  refine va_putF (D := G.1) (ci := 5) (v := .ref q1) (ty := .array .int) (C := RX3) (T := TX3) (N := 11) hx hb hts iX3 tyX3 tyX3_ok nmX3 hown hK.1 hP hD hS 0 rfl rfl 9 (by decide) (hts (.fieldLink RX3 27 "RightsSteps$Tester" "usedTries" "[I") (by decide +kernel)) (fun _ h9 => h9) rfl hin rfl (by decide +kernel) rfl rfl (Nat.le_of_ble_eq_true rfl) dX3_init_31 (fun H locs hP hD hS => ?_)
  have hP : va_P G.1 vwCl [(h0, .inr (5, [.int 0, .int 1, .long (-9223372036854775808), .int 0, .int 0, .int 0, .int 0, .int 0, .int 0, .ref q1, .null])), (q1, .inl (G.2 0, 21, .inl (fun _ => 0)))] H := hP
  have hD : va_D A [(h0, .inr (5, [.int 0, .int 1, .long (-9223372036854775808), .int 0, .int 0, .int 0, .int 0, .int 0, .int 0, .ref q1, .null])), (q1, .inl (G.2 0, 21, .inl (fun _ => 0)))] := hD
  refine lv_aload_n hx hb dX3_init_34 rfl (lv_at hl 0 rfl) ?_
  refine lv_bipush (v := 21) hx hb dX3_init_35 (by decide) ?_
  refine my_newa (atype := .long) hx hb (hts (.arrayClass .long) (by decide +kernel)) rfl hK hP hD hS hA 1 rfl (fun _ h => by cases h) (a0 := (21, .inr (.inl (fun _ => 0)))) (fun _ => rfl) (by decide) rfl (Nat.le_of_ble_eq_true rfl) (Nat.le_of_ble_eq_true rfl) (Nat.le_of_ble_eq_true rfl) dX3_init_37 (fun q2 H hP hD hS => ?_)
  refine W.widen (k := 2) (n := 42) (Nat.le_of_ble_eq_true rfl) (Nat.le_of_ble_eq_true rfl) ?_
  have hP : va_P G.1 vwCl [(h0, .inr (5, [.int 0, .int 1, .long (-9223372036854775808), .int 0, .int 0, .int 0, .int 0, .int 0, .int 0, .ref q1, .null])), (q1, .inl (G.2 0, 21, .inl (fun _ => 0))), (q2, .inl (G.2 1, 21, .inr (.inl (fun _ => 0))))] H := hP
  have hD : va_D A [(h0, .inr (5, [.int 0, .int 1, .long (-9223372036854775808), .int 0, .int 0, .int 0, .int 0, .int 0, .int 0, .ref q1, .null])), (q1, .inl (G.2 0, 21, .inl (fun _ => 0))), (q2, .inl (G.2 1, 21, .inr (.inl (fun _ => 0))))] := hD
  refine va_putF (D := G.1) (ci := 5) (v := .ref q2) (ty := .array .long) (C := RX3) (T := TX3) (N := 11) hx hb hts iX3 tyX3 tyX3_ok nmX3 hown hK.1 hP hD hS 0 rfl rfl 10 (by decide) (hts (.fieldLink RX3 31 "RightsSteps$Tester" "lockedUntil" "[J") (by decide +kernel)) (fun _ h9 => h9) rfl hin rfl (by decide +kernel) rfl rfl (Nat.le_of_ble_eq_true rfl) dX3_init_39 (fun H locs hP hD hS => ?_)
  have hP : va_P G.1 vwCl [(h0, .inr (5, [.int 0, .int 1, .long (-9223372036854775808), .int 0, .int 0, .int 0, .int 0, .int 0, .int 0, .ref q1, .ref q2])), (q1, .inl (G.2 0, 21, .inl (fun _ => 0))), (q2, .inl (G.2 1, 21, .inr (.inl (fun _ => 0))))] H := hP
  have hD : va_D A [(h0, .inr (5, [.int 0, .int 1, .long (-9223372036854775808), .int 0, .int 0, .int 0, .int 0, .int 0, .int 0, .ref q1, .ref q2])), (q1, .inl (G.2 0, 21, .inl (fun _ => 0))), (q2, .inl (G.2 1, 21, .inr (.inl (fun _ => 0))))] := hD
  refine lv_aload_n hx hb dX3_init_42 rfl (lv_at hl 0 rfl) ?_
  refine lv_iload_n hx hb dX3_init_43 rfl (lv_at hl 1 rfl) ?_
  refine va_putF (D := G.1) (ci := 5) (v := .int p1) (ty := .int) (C := RX3) (T := TX3) (N := 11) hx hb hts iX3 tyX3 tyX3_ok nmX3 hown hK.1 hP hD hS 0 rfl rfl 0 (by decide) (hts (.fieldLink RX3 35 "RightsSteps$Tester" "number" "I") (by decide +kernel)) (fun _ h9 => h9) rfl hin rfl (by decide +kernel) rfl rfl (Nat.le_of_ble_eq_true rfl) dX3_init_44 (fun H locs hP hD hS => ?_)
  have hP : va_P G.1 vwCl [(h0, .inr (5, [.int p1, .int 1, .long (-9223372036854775808), .int 0, .int 0, .int 0, .int 0, .int 0, .int 0, .ref q1, .ref q2])), (q1, .inl (G.2 0, 21, .inl (fun _ => 0))), (q2, .inl (G.2 1, 21, .inr (.inl (fun _ => 0))))] H := hP
  have hD : va_D A [(h0, .inr (5, [.int p1, .int 1, .long (-9223372036854775808), .int 0, .int 0, .int 0, .int 0, .int 0, .int 0, .ref q1, .ref q2])), (q1, .inl (G.2 0, 21, .inl (fun _ => 0))), (q2, .inl (G.2 1, 21, .inr (.inl (fun _ => 0))))] := hD
  refine lv_aload_n hx hb dX3_init_47 rfl (lv_at hl 0 rfl) ?_
  refine va_get (D := G.1) (ci := 5) (v := .ref q2) (C := RX3) (T := TX3) (N := 11) hx hb hts iX3 hown hK.1 hP 0 rfl rfl 10 (by decide) (hts (.fieldLink RX3 31 "RightsSteps$Tester" "lockedUntil" "[J") (by decide +kernel)) (fun _ h9 => h9) rfl dX3_init_48 ?_
  refine lv_ldc2 (v := (-9223372036854775808)) hx hb hown (hts (.constantLong RX3 15 (-9223372036854775808)) (by decide +kernel)) dX3_init_51 ?_
  have hPc := hP.sub (ws' := [(q2, .inl (G.2 1, 21, .inr (.inl (fun _ => 0))))]) [2] rfl
  have hDc := hD.sub (ws' := [(q2, .inl (G.2 1, 21, .inr (.inl (fun _ => 0))))]) [2] (by decide) rfl
  refine cl_v (wr := [(h0, .inr (5, [.int p1, .int 1, .long (-9223372036854775808), .int 0, .int 0, .int 0, .int 0, .int 0, .int 0, .ref q1, .ref q2])), (q1, .inl (G.2 0, 21, .inl (fun _ => 0)))]) (va_runS (As := [.ref q2, .long (-9223372036854775808)]) (rest := []) ⟨hx, hb, hml, hown, hts⟩ (c_J7_fill_d0a16 l G q2 _ (fun _ => 0) (-9223372036854775808)) (va_cwS 2 hts gX3_init_J7_fill_d0a16 rfl rfl rfl (by decide +kernel) ⟨Nat.le_of_ble_eq_true rfl, Nat.le_of_ble_eq_true rfl⟩) (pR_S hK hPc hDc) rfl rfl hl.1 rfl (lv_room (Nat.le_of_ble_eq_true rfl)) dX3_init_54 ⟨Nat.le_of_ble_eq_true rfl, Nat.le_of_ble_eq_true rfl⟩) hP hD hS hA [2] [0, 1] rfl rfl (by decide) (by decide) (fun u3 ez3 H locs hP hD hS => ?_)
  obtain rfl : u3 = F_J7_fill_d0a16 (fun _ => 0) (-9223372036854775808) := ez3
  have hP : va_P G.1 vwCl [(h0, .inr (5, [.int p1, .int 1, .long (-9223372036854775808), .int 0, .int 0, .int 0, .int 0, .int 0, .int 0, .ref q1, .ref q2])), (q1, .inl (G.2 0, 21, .inl (fun _ => 0))), (q2, .inl (G.2 1, 21, .inr (.inl (F_J7_fill_d0a16 (fun _ => 0) (-9223372036854775808)))))] H := hP
  have hD : va_D A [(h0, .inr (5, [.int p1, .int 1, .long (-9223372036854775808), .int 0, .int 0, .int 0, .int 0, .int 0, .int 0, .ref q1, .ref q2])), (q1, .inl (G.2 0, 21, .inl (fun _ => 0))), (q2, .inl (G.2 1, 21, .inr (.inl (F_J7_fill_d0a16 (fun _ => 0) (-9223372036854775808)))))] := hD
  exact W.vret hx hb hr (fun t ht hW => ⟨⟨(q1, q2), rfl, True.intro, by rw [ht]; exact hP.sub [0, 1, 2] rfl, hD.sub [0, 1, 2] (by decide) rfl⟩, hS.F ht⟩) hS.2.2 dX3_init_57

def F_X5_madeLevel (made : Int32) (tim : Int64) (lv : Nat → Option Nat) (p1 : Int32) : Option Nat :=
  (if p1 < 1 then none else (if p1 ≤ 20 then (lv (p1 : Int32).toNatClampNeg) else none))
set_option maxHeartbeats 4000000 in
set_option maxRecDepth 100000 in
theorem c_X5_madeLevel (l : Launch) (G : gG) (h0 xl xt xg xu xT xh : Nat) (sz : Nat) (made : Int32) (tim : Int64) (lv : Nat → Option Nat) (p1 : Int32) : Met l yX5_madeLevel wsX5_madeLevel ({ frames := 0, cells := 0, slots := 0, locals := 0 }) (va_Pc [.ref h0, .int p1] (pR G [(h0, .inr (7, [.ref xl, .ref xt, .ref xg, .ref xu, .ref xT, .ref xh, .int made, .long tim])), (xl, .inl (G.2 3, 21, .inr (.inr (.inr (.inr lv)))))] sz)) (pQ (va_rf (F_X5_madeLevel made tim lv p1))) 0 0 (fun _ => False) := by
  refine Met.ofW (cc := cX5_madeLevel) (maxL := 2) (ret := (some (.object "RightsSteps$Level"))) (by decide) rfl ?_
  intro p e s m args below meth c s₁ B hml hv
  obtain ⟨rfl, hsz, hP, hK, hD0⟩ := hv
  have hx := B.exec
  have hb := B.bytes
  have hr := B.returns
  have hts := atoms_spec (ws := wsX5_madeLevel) B.pre
  have hown : s.vm.findClass RX5 = some m.cls := findClass_of_methodNamed B.named
  have hlocks := B.notSynchronized
  subst hsz
  have iX5 : ∀ w ∈ wsX50, w ∈ wsX5_madeLevel := by decide +kernel
  have hD := hD0
  have hP : va_P G.1 vwCl [(h0, .inr (7, [.ref xl, .ref xt, .ref xg, .ref xu, .ref xT, .ref xh, .int made, .long tim])), (xl, .inl (G.2 3, 21, .inr (.inr (.inr (.inr lv)))))] s.heap := hP
  have hl := lv_entry ([.ref h0, .int p1]) (n := 2) (Nat.le_of_ble_eq_true rfl)
  rw [lg_entry_eq]
  generalize (lg_sl ([.ref h0, .int p1]) ++ List.replicate (2 - (lg_sl ([.ref h0, .int p1])).length) Slot.unset).toArray = ls at hl ⊢
  have hl : lv_has ls 2 [(0, .ref h0), (1, .int p1)] := hl
  have hF : F_X5_madeLevel made tim lv p1 = F_X5_madeLevel made tim lv p1 := rfl
  refine lv_iload_n hx hb dX5_madeLevel_0 rfl (lv_at hl 1 rfl) ?_
  refine lv_iconst (v := 1) hx hb dX5_madeLevel_1 (by decide) ?_
  refine lv_icmp_lt (tgt := 11) hx hb dX5_madeLevel_2 (by decide) (fun c_2 => ?_) (fun c_2 => ?_)
  · have hF := if_t hF c_2
    refine lv_null hx hb dX5_madeLevel_11 ?_
    refine lv_goto (tgt := 21) hx hb dX5_madeLevel_12 (by decide) ?_
    exact W.aret (v := .null) hx hb hr (Or.inl ⟨_, rfl⟩) (Or.inl rfl) (fun t ht hW => ⟨by rw [hF]; rfl, ht⟩) (fun _ h => by cases h) dX5_madeLevel_21
  · have hF := if_f hF c_2
    refine lv_iload_n hx hb dX5_madeLevel_5 rfl (lv_at hl 1 rfl) ?_
    refine lv_bipush (v := 20) hx hb dX5_madeLevel_6 (by decide) ?_
    refine lv_icmp_le (tgt := 15) hx hb dX5_madeLevel_8 (by decide) (fun c_8 => ?_) (fun c_8 => ?_)
    · have hF := if_t hF c_8
      refine lv_aload_n hx hb dX5_madeLevel_15 rfl (lv_at hl 0 rfl) ?_
      refine va_get (D := G.1) (ci := 7) (v := .ref xl) (C := RX5) (T := TX5) (N := 8) hx hb hts iX5 hown hK.1 hP 0 rfl rfl 0 (by decide) (hts (.fieldLink RX5 11 "RightsSteps" "levels" "[LRightsSteps$Level;") (by decide +kernel)) (fun _ h9 => h9) rfl dX5_madeLevel_16 ?_
      refine lv_iload_n hx hb dX5_madeLevel_19 rfl (lv_at hl 1 rfl) ?_
      refine va_aldq (f := lv) hx hb hK.1 hP 1 3 rfl rfl (in_lw c_2 c_8) dX5_madeLevel_20 ?_
      exact W.aret (v := va_rf (lv (p1 : Int32).toNatClampNeg)) hx hb hr (Or.inl ⟨_, rfl⟩) (va_rf_or _) (fun t ht hW => ⟨by rw [hF], ht⟩) (fun _ h => by cases h) dX5_madeLevel_21
    · have hF := if_f hF c_8
      refine lv_null hx hb dX5_madeLevel_11 ?_
      refine lv_goto (tgt := 21) hx hb dX5_madeLevel_12 (by decide) ?_
      exact W.aret (v := .null) hx hb hr (Or.inl ⟨_, rfl⟩) (Or.inl rfl) (fun t ht hW => ⟨by rw [hF]; rfl, ht⟩) (fun _ h => by cases h) dX5_madeLevel_21

theorem mk_some {made : Int32} {tim : Int64} {lv : Nat → Option Nat} {kd tr : Nat → Int32} {dl : Nat → Int64} {pl : va_W} {p1 : Int32} {y : Nat} (hLV : LV lv kd tr dl pl) (h : F_X5_madeLevel made tim lv p1 = some y) : ((y, .inr (3, [.int p1, .int (kd p1.toNatClampNeg), .int (tr p1.toNatClampNeg), .long (dl p1.toNatClampNeg)])) : Nat × va_E) ∈ pl := by
  unfold F_X5_madeLevel at h
  by_cases h1 : p1 < 1
  · rw [if_pos h1] at h; cases h
  · rw [if_neg h1] at h
    by_cases h2 : p1 ≤ 20
    · rw [if_pos h2] at h; exact hLV p1 (in_lw h1 h2) y h
    · rw [if_neg h2] at h; cases h

def F_X5_askForSeed (made : Int32) (tim : Int64) (num : Int32) (ses : Int32) (rol : Int64) (opn : Int32) (awl : Int32) (aws : Int32) (oct : Int32) (ksf : Int32) (ou : Int32) (lk : Nat → Int64) (first : Int32) (size : Int32) (nums : Nat → Int32) (gsz : Int32) (seeds : Nat → Int32) (lnum : Int32) (lkind : Int32) (ltries : Int32) (ldelay : Int64) : Int32 × Int32 × Int32 × Int32 × Int32 × Int32 × Int32 × (Nat → Int32) :=
  (if (F_X1_isForSession lnum lkind ltries ldelay ses) = 0 then ((-18), (awl, aws, ou, first, size, gsz, seeds)) else (if (F_X1_needsRole lnum lkind ltries ldelay) = 0 then (if opn = lnum then (4, (awl, aws, 0, first, size, gsz, seeds)) else (if 0 ≤ (lg_cmp tim (F_X3_lockedUntil num ses rol opn awl aws oct ksf ou lk lnum)) then (lz2 (F_X2_takeSeed first size nums gsz seeds) (fun r1 u1 => (if r1 = 0 then ((-34), (awl, aws, ou, u1.1, u1.2, gsz, seeds)) else (lz (F_X0_add gsz seeds r1) (fun u2 => (lz (F_X3_awaitKey num ses rol opn awl aws oct ksf ou lnum r1) (fun u3 => (4, (u3.1, u3.2.1, u3.2.2, u1.1, u1.2, u2.1, u2.2))))))))) else ((-55), (awl, aws, ou, first, size, gsz, seeds)))) else (if (lg_cmp tim rol) < 0 then (if opn = lnum then (4, (awl, aws, 0, first, size, gsz, seeds)) else (if 0 ≤ (lg_cmp tim (F_X3_lockedUntil num ses rol opn awl aws oct ksf ou lk lnum)) then (lz2 (F_X2_takeSeed first size nums gsz seeds) (fun r4 u4 => (if r4 = 0 then ((-34), (awl, aws, ou, u4.1, u4.2, gsz, seeds)) else (lz (F_X0_add gsz seeds r4) (fun u5 => (lz (F_X3_awaitKey num ses rol opn awl aws oct ksf ou lnum r4) (fun u6 => (4, (u6.1, u6.2.1, u6.2.2, u4.1, u4.2, u5.1, u5.2))))))))) else ((-55), (awl, aws, ou, first, size, gsz, seeds)))) else ((-51), (awl, aws, ou, first, size, gsz, seeds)))))
set_option maxHeartbeats 4000000 in
set_option maxRecDepth 100000 in
theorem c_X5_askForSeed (l : Launch) (G : gG) (h0 xh tk xt xn xg xs xl xu xT tu la : Nat) (sz : Nat) (made : Int32) (tim : Int64) (num : Int32) (ses : Int32) (rol : Int64) (opn : Int32) (awl : Int32) (aws : Int32) (oct : Int32) (ksf : Int32) (ou : Int32) (lk : Nat → Int64) (first : Int32) (size : Int32) (nums : Nat → Int32) (gsz : Int32) (seeds : Nat → Int32) (lnum : Int32) (lkind : Int32) (ltries : Int32) (ldelay : Int64) (pl : va_W) (hm : ((la, .inr (3, [.int lnum, .int lkind, .int ltries, .long ldelay])) : Nat × va_E) ∈ pl) (hf : vp_in first 201) (hz : vp_in size 201) (hg : ¬ gsz < 0) : Met l yX5_askForSeed wsX5_askForSeed ({ frames := 2, cells := 0, slots := 0, locals := 45 }) (va_Pc [.ref h0, .ref la] (pR G ([(h0, .inr (7, [.ref xl, .ref xt, .ref xg, .ref xu, .ref xT, .ref xh, .int made, .long tim])), (xh, .inr (5, [.int num, .int ses, .long rol, .int opn, .int awl, .int aws, .int oct, .int ksf, .int ou, .ref tu, .ref tk])), (tk, .inl (G.2 1, 21, .inr (.inl lk))), (xt, .inr (4, [.ref xn, .int first, .int size])), (xn, .inl (G.2 0, 200, .inl nums)), (xg, .inr (2, [.ref xs, .int gsz])), (xs, .inl (G.2 0, 256, .inl seeds))] ++ pl) sz)) (va_Qi (fun (r : Int32) (u : Int32 × Int32 × Int32 × Int32 × Int32 × Int32 × (Nat → Int32)) => (r, u) = F_X5_askForSeed made tim num ses rol opn awl aws oct ksf ou lk first size nums gsz seeds lnum lkind ltries ldelay) (fun u t => pO G ([(h0, .inr (7, [.ref xl, .ref xt, .ref xg, .ref xu, .ref xT, .ref xh, .int made, .long tim])), (xh, .inr (5, [.int num, .int ses, .long rol, .int opn, .int u.1, .int u.2.1, .int oct, .int ksf, .int u.2.2.1, .ref tu, .ref tk])), (tk, .inl (G.2 1, 21, .inr (.inl lk))), (xt, .inr (4, [.ref xn, .int u.2.2.2.1, .int u.2.2.2.2.1])), (xn, .inl (G.2 0, 200, .inl nums)), (xg, .inr (2, [.ref xs, .int u.2.2.2.2.2.1])), (xs, .inl (G.2 0, 256, .inl u.2.2.2.2.2.2))] ++ pl) (va_A ([(h0, .inr (7, [.ref xl, .ref xt, .ref xg, .ref xu, .ref xT, .ref xh, .int made, .long tim])), (xh, .inr (5, [.int num, .int ses, .long rol, .int opn, .int awl, .int aws, .int oct, .int ksf, .int ou, .ref tu, .ref tk])), (tk, .inl (G.2 1, 21, .inr (.inl lk))), (xt, .inr (4, [.ref xn, .int first, .int size])), (xn, .inl (G.2 0, 200, .inl nums)), (xg, .inr (2, [.ref xs, .int gsz])), (xs, .inl (G.2 0, 256, .inl seeds))] ++ pl) sz) t) (va_A ([(h0, .inr (7, [.ref xl, .ref xt, .ref xg, .ref xu, .ref xT, .ref xh, .int made, .long tim])), (xh, .inr (5, [.int num, .int ses, .long rol, .int opn, .int awl, .int aws, .int oct, .int ksf, .int ou, .ref tu, .ref tk])), (tk, .inl (G.2 1, 21, .inr (.inl lk))), (xt, .inr (4, [.ref xn, .int first, .int size])), (xn, .inl (G.2 0, 200, .inl nums)), (xg, .inr (2, [.ref xs, .int gsz])), (xs, .inl (G.2 0, 256, .inl seeds))] ++ pl) sz)) 0 0 (va_A ([(h0, .inr (7, [.ref xl, .ref xt, .ref xg, .ref xu, .ref xT, .ref xh, .int made, .long tim])), (xh, .inr (5, [.int num, .int ses, .long rol, .int opn, .int awl, .int aws, .int oct, .int ksf, .int ou, .ref tu, .ref tk])), (tk, .inl (G.2 1, 21, .inr (.inl lk))), (xt, .inr (4, [.ref xn, .int first, .int size])), (xn, .inl (G.2 0, 200, .inl nums)), (xg, .inr (2, [.ref xs, .int gsz])), (xs, .inl (G.2 0, 256, .inl seeds))] ++ pl) sz) := by
  refine Met.ofW (cc := cX5_askForSeed) (maxL := 3) (ret := (some .int)) (by decide) rfl ?_
  intro p e s m args below meth c s₁ B hml hv
  obtain ⟨rfl, hsz, hP, hK, hD0⟩ := hv
  have hx := B.exec
  have hb := B.bytes
  have hr := B.returns
  have hts := atoms_spec (ws := wsX5_askForSeed) B.pre
  have hown : s.vm.findClass RX5 = some m.cls := findClass_of_methodNamed B.named
  have hlocks := B.notSynchronized
  subst hsz
  have iX1 : ∀ w ∈ wsX10, w ∈ wsX5_askForSeed := by decide +kernel
  have iX3 : ∀ w ∈ wsX30, w ∈ wsX5_askForSeed := by decide +kernel
  have iX5 : ∀ w ∈ wsX50, w ∈ wsX5_askForSeed := by decide +kernel
  have hD := hD0.self (sz := s.heap.size)
  generalize hAe : va_A ([(h0, .inr (7, [.ref xl, .ref xt, .ref xg, .ref xu, .ref xT, .ref xh, .int made, .long tim])), (xh, .inr (5, [.int num, .int ses, .long rol, .int opn, .int awl, .int aws, .int oct, .int ksf, .int ou, .ref tu, .ref tk])), (tk, .inl (G.2 1, 21, .inr (.inl lk))), (xt, .inr (4, [.ref xn, .int first, .int size])), (xn, .inl (G.2 0, 200, .inl nums)), (xg, .inr (2, [.ref xs, .int gsz])), (xs, .inl (G.2 0, 256, .inl seeds))] ++ pl) s.heap.size = A at hD ⊢
  have hA : ∀ q : Nat, s.heap.size ≤ q → A q := fun q h => by rw [← hAe]; exact Or.inr h
  have hS : va_S A s.heap s.heap [] := va_S.rf
  have hP : va_P G.1 vwCl ([(h0, .inr (7, [.ref xl, .ref xt, .ref xg, .ref xu, .ref xT, .ref xh, .int made, .long tim])), (xh, .inr (5, [.int num, .int ses, .long rol, .int opn, .int awl, .int aws, .int oct, .int ksf, .int ou, .ref tu, .ref tk])), (tk, .inl (G.2 1, 21, .inr (.inl lk))), (xt, .inr (4, [.ref xn, .int first, .int size])), (xn, .inl (G.2 0, 200, .inl nums)), (xg, .inr (2, [.ref xs, .int gsz])), (xs, .inl (G.2 0, 256, .inl seeds))] ++ pl) s.heap := hP
  have hl := lv_entry ([.ref h0, .ref la]) (n := 3) (Nat.le_of_ble_eq_true rfl)
  rw [lg_entry_eq]
  generalize (lg_sl ([.ref h0, .ref la]) ++ List.replicate (3 - (lg_sl ([.ref h0, .ref la])).length) Slot.unset).toArray = ls at hl ⊢
  have hl : lv_has ls 3 [(0, .ref h0), (1, .ref la)] := hl
  have hF : F_X5_askForSeed made tim num ses rol opn awl aws oct ksf ou lk first size nums gsz seeds lnum lkind ltries ldelay = F_X5_askForSeed made tim num ses rol opn awl aws oct ksf ou lk first size nums gsz seeds lnum lkind ltries ldelay := rfl
  refine lv_aload_n hx hb dX5_askForSeed_0 rfl (lv_at hl 1 rfl) ?_
  refine lv_aload_n hx hb dX5_askForSeed_1 rfl (lv_at hl 0 rfl) ?_
  refine va_get (D := G.1) (ci := 7) (v := .ref xh) (C := RX5) (T := TX5) (N := 8) hx hb hts iX5 hown hK.1 hP 0 rfl rfl 5 (by decide) (hts (.fieldLink RX5 45 "RightsSteps" "atHand" "LRightsSteps$Tester;") (by decide +kernel)) (fun _ h9 => h9) rfl dX5_askForSeed_2 ?_
  refine va_getN (D := G.1) (ci := 5) (v := .int ses) (C := RX3) (T := TX3) (N := 11) hx hb hts iX3 hown hK.1 hP 1 rfl rfl 1 (by decide) (va_Nw.use rfl hK.2.2.2.1) (fun _ h9 => h9) rfl dX5_askForSeed_5 ?_
  refine pu_call (va_runV (As := [.int ses]) (rest := []) ⟨hx, hb, hml, hown, hts⟩ (c_X1_isForSession l G la _ lnum lkind ltries ldelay ses) (cwV 1 hts gX5_askForSeed_X1_isForSession rfl rfl rfl (by decide +kernel) ⟨Nat.le_of_ble_eq_true rfl, Nat.le_of_ble_eq_true rfl⟩) (pR_V hK (va_P.pl hP hm) (va_D.one _) (q0 := 0) rfl rfl) rfl rfl hl.1 rfl (lv_room (Nat.le_of_ble_eq_true rfl)) dX5_askForSeed_8 ⟨Nat.le_of_ble_eq_true rfl, Nat.le_of_ble_eq_true rfl⟩) ?_
  refine lv_if_ne (tgt := 17) hx hb dX5_askForSeed_11 (by decide) (fun c_11 => ?_) (fun c_11 => ?_)
  · have hF := if_f hF c_11
    refine lv_aload_n hx hb dX5_askForSeed_17 rfl (lv_at hl 1 rfl) ?_
    refine pu_call (va_runV (As := []) (rest := []) ⟨hx, hb, hml, hown, hts⟩ (c_X1_needsRole l G la _ lnum lkind ltries ldelay) (cwV 0 hts gX5_askForSeed_X1_needsRole rfl rfl rfl (by decide +kernel) ⟨Nat.le_of_ble_eq_true rfl, Nat.le_of_ble_eq_true rfl⟩) (pR_V hK (va_P.pl hP hm) (va_D.one _) (q0 := 0) rfl rfl) rfl rfl hl.1 rfl (lv_room (Nat.le_of_ble_eq_true rfl)) dX5_askForSeed_18 ⟨Nat.le_of_ble_eq_true rfl, Nat.le_of_ble_eq_true rfl⟩) ?_
    refine lv_if_eq (tgt := 42) hx hb dX5_askForSeed_21 (by decide) (fun c_21 => ?_) (fun c_21 => ?_)
    · have hF := if_t hF c_21
      refine lv_aload_n hx hb dX5_askForSeed_42 rfl (lv_at hl 0 rfl) ?_
      refine va_get (D := G.1) (ci := 7) (v := .ref xh) (C := RX5) (T := TX5) (N := 8) hx hb hts iX5 hown hK.1 hP 0 rfl rfl 5 (by decide) (hts (.fieldLink RX5 45 "RightsSteps" "atHand" "LRightsSteps$Tester;") (by decide +kernel)) (fun _ h9 => h9) rfl dX5_askForSeed_43 ?_
      refine va_getN (D := G.1) (ci := 5) (v := .int opn) (C := RX3) (T := TX3) (N := 11) hx hb hts iX3 hown hK.1 hP 1 rfl rfl 3 (by decide) (va_Nw.use rfl hK.2.2.2.2.2.1) (fun _ h9 => h9) rfl dX5_askForSeed_46 ?_
      refine lv_aload_n hx hb dX5_askForSeed_49 rfl (lv_at hl 1 rfl) ?_
      refine va_getN (D := G.1) (ci := 3) (v := .int lnum) (C := RX1) (T := TX1) (N := 4) hx hb hts iX1 hown hK.1 (va_P.pl hP hm) 0 rfl rfl 0 (by decide) (va_Nw.use rfl hK.2.2.2.2.2.2.2.2.2.2.2.1) (fun _ h9 => h9) rfl dX5_askForSeed_50 ?_
      refine lv_icmp_ne (tgt := 66) hx hb dX5_askForSeed_53 (by decide) (fun c_53 => ?_) (fun c_53 => ?_)
      · have hF := if_f hF c_53
        refine lv_aload_n hx hb dX5_askForSeed_66 rfl (lv_at hl 0 rfl) ?_
        refine va_get (D := G.1) (ci := 7) (v := .long tim) (C := RX5) (T := TX5) (N := 8) hx hb hts iX5 hown hK.1 hP 0 rfl rfl 7 (by decide) (hts (.fieldLink RX5 65 "RightsSteps" "time" "J") (by decide +kernel)) (fun _ h9 => h9) rfl dX5_askForSeed_67 ?_
        refine lv_aload_n hx hb dX5_askForSeed_70 rfl (lv_at hl 0 rfl) ?_
        refine va_get (D := G.1) (ci := 7) (v := .ref xh) (C := RX5) (T := TX5) (N := 8) hx hb hts iX5 hown hK.1 hP 0 rfl rfl 5 (by decide) (hts (.fieldLink RX5 45 "RightsSteps" "atHand" "LRightsSteps$Tester;") (by decide +kernel)) (fun _ h9 => h9) rfl dX5_askForSeed_71 ?_
        refine lv_aload_n hx hb dX5_askForSeed_74 rfl (lv_at hl 1 rfl) ?_
        refine va_getN (D := G.1) (ci := 3) (v := .int lnum) (C := RX1) (T := TX1) (N := 4) hx hb hts iX1 hown hK.1 (va_P.pl hP hm) 0 rfl rfl 0 (by decide) (va_Nw.use rfl hK.2.2.2.2.2.2.2.2.2.2.2.1) (fun _ h9 => h9) rfl dX5_askForSeed_75 ?_
        have hPc := hP.sub (ws' := [(xh, .inr (5, [.int num, .int ses, .long rol, .int opn, .int awl, .int aws, .int oct, .int ksf, .int ou, .ref tu, .ref tk])), (tk, .inl (G.2 1, 21, .inr (.inl lk)))]) [1, 2] rfl
        have hDc := hD.sub (ws' := [(xh, .inr (5, [.int num, .int ses, .long rol, .int opn, .int awl, .int aws, .int oct, .int ksf, .int ou, .ref tu, .ref tk])), (tk, .inl (G.2 1, 21, .inr (.inl lk)))]) [1, 2] (by decide) rfl
        refine pu_call (va_runV (As := [.int lnum]) (rest := [.long tim]) ⟨hx, hb, hml, hown, hts⟩ (c_X3_lockedUntil l G xh tk tu _ num ses rol opn awl aws oct ksf ou lk lnum) (cwV 1 hts gX5_askForSeed_X3_lockedUntil rfl rfl rfl (by decide +kernel) ⟨Nat.le_of_ble_eq_true rfl, Nat.le_of_ble_eq_true rfl⟩) (pR_V hK hPc hDc (q0 := 0) rfl rfl) rfl rfl hl.1 rfl (lv_room (Nat.le_of_ble_eq_true rfl)) dX5_askForSeed_78 ⟨Nat.le_of_ble_eq_true rfl, Nat.le_of_ble_eq_true rfl⟩) ?_
        refine W.lcmp hx hb dX5_askForSeed_81 ?_
        refine lv_if_ge (tgt := 88) hx hb dX5_askForSeed_82 (by decide) (fun c_82 => ?_) (fun c_82 => ?_)
        · have hF := if_t hF c_82
          refine lv_aload_n hx hb dX5_askForSeed_88 rfl (lv_at hl 0 rfl) ?_
          refine va_get (D := G.1) (ci := 7) (v := .ref xt) (C := RX5) (T := TX5) (N := 8) hx hb hts iX5 hown hK.1 hP 0 rfl rfl 1 (by decide) (hts (.fieldLink RX5 18 "RightsSteps" "tape" "LRightsSteps$Tape;") (by decide +kernel)) (fun _ h9 => h9) rfl dX5_askForSeed_89 ?_
          refine lv_aload_n hx hb dX5_askForSeed_92 rfl (lv_at hl 0 rfl) ?_
          refine va_get (D := G.1) (ci := 7) (v := .ref xg) (C := RX5) (T := TX5) (N := 8) hx hb hts iX5 hown hK.1 hP 0 rfl rfl 2 (by decide) (hts (.fieldLink RX5 25 "RightsSteps" "given" "LRightsSteps$GivenSeeds;") (by decide +kernel)) (fun _ h9 => h9) rfl dX5_askForSeed_93 ?_
          have hPc := hP.sub (ws' := [(xt, .inr (4, [.ref xn, .int first, .int size])), (xn, .inl (G.2 0, 200, .inl nums)), (xg, .inr (2, [.ref xs, .int gsz])), (xs, .inl (G.2 0, 256, .inl seeds))]) [3, 4, 5, 6] rfl
          have hDc := hD.sub (ws' := [(xt, .inr (4, [.ref xn, .int first, .int size])), (xn, .inl (G.2 0, 200, .inl nums)), (xg, .inr (2, [.ref xs, .int gsz])), (xs, .inl (G.2 0, 256, .inl seeds))]) [3, 4, 5, 6] (by decide) rfl
          refine clq_i (wr := [(h0, .inr (7, [.ref xl, .ref xt, .ref xg, .ref xu, .ref xT, .ref xh, .int made, .long tim])), (xh, .inr (5, [.int num, .int ses, .long rol, .int opn, .int awl, .int aws, .int oct, .int ksf, .int ou, .ref tu, .ref tk])), (tk, .inl (G.2 1, 21, .inr (.inl lk)))]) (va_runV (As := [.ref xg]) (rest := []) ⟨hx, hb, hml, hown, hts⟩ (c_X2_takeSeed l G xt xn xg xs _ first size nums gsz seeds hf hz) (cwV 1 hts gX5_askForSeed_X2_takeSeed rfl rfl rfl (by decide +kernel) ⟨Nat.le_of_ble_eq_true rfl, Nat.le_of_ble_eq_true rfl⟩) (pR_V hK hPc hDc (q0 := 0) rfl rfl) rfl rfl hl.1 rfl (lv_room (Nat.le_of_ble_eq_true rfl)) dX5_askForSeed_96 ⟨Nat.le_of_ble_eq_true rfl, Nat.le_of_ble_eq_true rfl⟩) hP hD hS hA [3, 4, 5, 6] [0, 1, 2] rfl rfl (by decide) (by decide) (fun r1 u1 ez1 H locs hP hD hS => ?_)
          have hP : va_P G.1 vwCl ([(h0, .inr (7, [.ref xl, .ref xt, .ref xg, .ref xu, .ref xT, .ref xh, .int made, .long tim])), (xh, .inr (5, [.int num, .int ses, .long rol, .int opn, .int awl, .int aws, .int oct, .int ksf, .int ou, .ref tu, .ref tk])), (tk, .inl (G.2 1, 21, .inr (.inl lk))), (xt, .inr (4, [.ref xn, .int u1.1, .int u1.2])), (xn, .inl (G.2 0, 200, .inl nums)), (xg, .inr (2, [.ref xs, .int gsz])), (xs, .inl (G.2 0, 256, .inl seeds))] ++ pl) H := hP
          have hD : va_D A ([(h0, .inr (7, [.ref xl, .ref xt, .ref xg, .ref xu, .ref xT, .ref xh, .int made, .long tim])), (xh, .inr (5, [.int num, .int ses, .long rol, .int opn, .int awl, .int aws, .int oct, .int ksf, .int ou, .ref tu, .ref tk])), (tk, .inl (G.2 1, 21, .inr (.inl lk))), (xt, .inr (4, [.ref xn, .int u1.1, .int u1.2])), (xn, .inl (G.2 0, 200, .inl nums)), (xg, .inr (2, [.ref xs, .int gsz])), (xs, .inl (G.2 0, 256, .inl seeds))] ++ pl) := hD
          have hF := lz2_e hF ez1
          refine lv_istore_n (lv' := [(2, .int r1), (0, .ref h0), (1, .ref la)]) hx hb dX5_askForSeed_99 rfl hl (by decide) rfl (fun ls hl => ?_)
          refine lv_iload_n hx hb dX5_askForSeed_100 rfl (lv_at hl 0 rfl) ?_
          refine lv_if_ne (tgt := 107) hx hb dX5_askForSeed_101 (by decide) (fun c_101 => ?_) (fun c_101 => ?_)
          · have hF := if_f hF c_101
            refine lv_aload_n hx hb dX5_askForSeed_107 rfl (lv_at hl 1 rfl) ?_
            refine va_get (D := G.1) (ci := 7) (v := .ref xg) (C := RX5) (T := TX5) (N := 8) hx hb hts iX5 hown hK.1 hP 0 rfl rfl 2 (by decide) (hts (.fieldLink RX5 25 "RightsSteps" "given" "LRightsSteps$GivenSeeds;") (by decide +kernel)) (fun _ h9 => h9) rfl dX5_askForSeed_108 ?_
            refine lv_iload_n hx hb dX5_askForSeed_111 rfl (lv_at hl 0 rfl) ?_
            have hPc := hP.sub (ws' := [(xg, .inr (2, [.ref xs, .int gsz])), (xs, .inl (G.2 0, 256, .inl seeds))]) [5, 6] rfl
            have hDc := hD.sub (ws' := [(xg, .inr (2, [.ref xs, .int gsz])), (xs, .inl (G.2 0, 256, .inl seeds))]) [5, 6] (by decide) rfl
            refine clq_v (wr := [(h0, .inr (7, [.ref xl, .ref xt, .ref xg, .ref xu, .ref xT, .ref xh, .int made, .long tim])), (xh, .inr (5, [.int num, .int ses, .long rol, .int opn, .int awl, .int aws, .int oct, .int ksf, .int ou, .ref tu, .ref tk])), (tk, .inl (G.2 1, 21, .inr (.inl lk))), (xt, .inr (4, [.ref xn, .int u1.1, .int u1.2])), (xn, .inl (G.2 0, 200, .inl nums))]) (va_runV (As := [.int r1]) (rest := []) ⟨hx, hb, hml, hown, hts⟩ (c_X0_add l G xg xs _ gsz seeds r1 hg) (cwV 1 hts gX5_askForSeed_X0_add rfl rfl rfl (by decide +kernel) ⟨Nat.le_of_ble_eq_true rfl, Nat.le_of_ble_eq_true rfl⟩) (pR_V hK hPc hDc (q0 := 0) rfl rfl) rfl rfl hl.1 rfl (lv_room (Nat.le_of_ble_eq_true rfl)) dX5_askForSeed_112 ⟨Nat.le_of_ble_eq_true rfl, Nat.le_of_ble_eq_true rfl⟩) hP hD hS hA [5, 6] [0, 1, 2, 3, 4] rfl rfl (by decide) (by decide) (fun u2 ez2 H locs hP hD hS => ?_)
            have hP : va_P G.1 vwCl ([(h0, .inr (7, [.ref xl, .ref xt, .ref xg, .ref xu, .ref xT, .ref xh, .int made, .long tim])), (xh, .inr (5, [.int num, .int ses, .long rol, .int opn, .int awl, .int aws, .int oct, .int ksf, .int ou, .ref tu, .ref tk])), (tk, .inl (G.2 1, 21, .inr (.inl lk))), (xt, .inr (4, [.ref xn, .int u1.1, .int u1.2])), (xn, .inl (G.2 0, 200, .inl nums)), (xg, .inr (2, [.ref xs, .int u2.1])), (xs, .inl (G.2 0, 256, .inl u2.2))] ++ pl) H := hP
            have hD : va_D A ([(h0, .inr (7, [.ref xl, .ref xt, .ref xg, .ref xu, .ref xT, .ref xh, .int made, .long tim])), (xh, .inr (5, [.int num, .int ses, .long rol, .int opn, .int awl, .int aws, .int oct, .int ksf, .int ou, .ref tu, .ref tk])), (tk, .inl (G.2 1, 21, .inr (.inl lk))), (xt, .inr (4, [.ref xn, .int u1.1, .int u1.2])), (xn, .inl (G.2 0, 200, .inl nums)), (xg, .inr (2, [.ref xs, .int u2.1])), (xs, .inl (G.2 0, 256, .inl u2.2))] ++ pl) := hD
            have hF := lz_e hF ez2
            refine lv_aload_n hx hb dX5_askForSeed_115 rfl (lv_at hl 1 rfl) ?_
            refine va_get (D := G.1) (ci := 7) (v := .ref xh) (C := RX5) (T := TX5) (N := 8) hx hb hts iX5 hown hK.1 hP 0 rfl rfl 5 (by decide) (hts (.fieldLink RX5 45 "RightsSteps" "atHand" "LRightsSteps$Tester;") (by decide +kernel)) (fun _ h9 => h9) rfl dX5_askForSeed_116 ?_
            refine lv_aload_n hx hb dX5_askForSeed_119 rfl (lv_at hl 2 rfl) ?_
            refine va_getN (D := G.1) (ci := 3) (v := .int lnum) (C := RX1) (T := TX1) (N := 4) hx hb hts iX1 hown hK.1 (va_P.pl hP hm) 0 rfl rfl 0 (by decide) (va_Nw.use rfl hK.2.2.2.2.2.2.2.2.2.2.2.1) (fun _ h9 => h9) rfl dX5_askForSeed_120 ?_
            refine lv_iload_n hx hb dX5_askForSeed_123 rfl (lv_at hl 0 rfl) ?_
            have hPc := hP.sub (ws' := [(xh, .inr (5, [.int num, .int ses, .long rol, .int opn, .int awl, .int aws, .int oct, .int ksf, .int ou, .ref tu, .ref tk]))]) [1] rfl
            have hDc := hD.sub (ws' := [(xh, .inr (5, [.int num, .int ses, .long rol, .int opn, .int awl, .int aws, .int oct, .int ksf, .int ou, .ref tu, .ref tk]))]) [1] (by decide) rfl
            refine clq_v (wr := [(h0, .inr (7, [.ref xl, .ref xt, .ref xg, .ref xu, .ref xT, .ref xh, .int made, .long tim])), (tk, .inl (G.2 1, 21, .inr (.inl lk))), (xt, .inr (4, [.ref xn, .int u1.1, .int u1.2])), (xn, .inl (G.2 0, 200, .inl nums)), (xg, .inr (2, [.ref xs, .int u2.1])), (xs, .inl (G.2 0, 256, .inl u2.2))]) (va_runV (As := [.int lnum, .int r1]) (rest := []) ⟨hx, hb, hml, hown, hts⟩ (c_X3_awaitKey l G xh tu tk _ num ses rol opn awl aws oct ksf ou lnum r1) (cwV 2 hts gX5_askForSeed_X3_awaitKey rfl rfl rfl (by decide +kernel) ⟨Nat.le_of_ble_eq_true rfl, Nat.le_of_ble_eq_true rfl⟩) (pR_V hK hPc hDc (q0 := 0) rfl rfl) rfl rfl hl.1 rfl (lv_room (Nat.le_of_ble_eq_true rfl)) dX5_askForSeed_124 ⟨Nat.le_of_ble_eq_true rfl, Nat.le_of_ble_eq_true rfl⟩) hP hD hS hA [1] [0, 2, 3, 4, 5, 6] rfl rfl (by decide) (by decide) (fun u3 ez3 H locs hP hD hS => ?_)
            have hP : va_P G.1 vwCl ([(h0, .inr (7, [.ref xl, .ref xt, .ref xg, .ref xu, .ref xT, .ref xh, .int made, .long tim])), (tk, .inl (G.2 1, 21, .inr (.inl lk))), (xt, .inr (4, [.ref xn, .int u1.1, .int u1.2])), (xn, .inl (G.2 0, 200, .inl nums)), (xg, .inr (2, [.ref xs, .int u2.1])), (xs, .inl (G.2 0, 256, .inl u2.2)), (xh, .inr (5, [.int num, .int ses, .long rol, .int opn, .int u3.1, .int u3.2.1, .int oct, .int ksf, .int u3.2.2, .ref tu, .ref tk]))] ++ pl) H := hP
            have hD : va_D A ([(h0, .inr (7, [.ref xl, .ref xt, .ref xg, .ref xu, .ref xT, .ref xh, .int made, .long tim])), (tk, .inl (G.2 1, 21, .inr (.inl lk))), (xt, .inr (4, [.ref xn, .int u1.1, .int u1.2])), (xn, .inl (G.2 0, 200, .inl nums)), (xg, .inr (2, [.ref xs, .int u2.1])), (xs, .inl (G.2 0, 256, .inl u2.2)), (xh, .inr (5, [.int num, .int ses, .long rol, .int opn, .int u3.1, .int u3.2.1, .int oct, .int ksf, .int u3.2.2, .ref tu, .ref tk]))] ++ pl) := hD
            have hF := lz_e hF ez3
            refine lv_iconst (v := 4) hx hb dX5_askForSeed_127 (by decide) ?_
            exact W.iret (v := 4) hx hb hr (fun t ht hW => ⟨⟨4, (u3.1, u3.2.1, u3.2.2, u1.1, u1.2, u2.1, u2.2), rfl, hF.symm, by rw [ht]; exact hP.part [0, 6, 1, 2, 3, 4, 5] rfl, hD.part [0, 6, 1, 2, 3, 4, 5] (by decide) rfl⟩, hS.F ht⟩) hS.2.2 dX5_askForSeed_128
          · have hF := if_t hF c_101
            refine lv_bipush (v := (-34)) hx hb dX5_askForSeed_104 (by decide) ?_
            exact W.iret (v := (-34)) hx hb hr (fun t ht hW => ⟨⟨(-34), (awl, aws, ou, u1.1, u1.2, gsz, seeds), rfl, hF.symm, by rw [ht]; exact hP.part [0, 1, 2, 3, 4, 5, 6] rfl, hD.part [0, 1, 2, 3, 4, 5, 6] (by decide) rfl⟩, hS.F ht⟩) hS.2.2 dX5_askForSeed_106
        · have hF := if_f hF c_82
          refine lv_bipush (v := (-55)) hx hb dX5_askForSeed_85 (by decide) ?_
          exact W.iret (v := (-55)) hx hb hr (fun t ht hW => ⟨⟨(-55), (awl, aws, ou, first, size, gsz, seeds), rfl, hF.symm, by rw [ht]; exact hP.part [0, 1, 2, 3, 4, 5, 6] rfl, hD.part [0, 1, 2, 3, 4, 5, 6] (by decide) rfl⟩, hS.F ht⟩) hS.2.2 dX5_askForSeed_87
      · have hF := if_t hF c_53
        refine lv_aload_n hx hb dX5_askForSeed_56 rfl (lv_at hl 0 rfl) ?_
        refine va_get (D := G.1) (ci := 7) (v := .ref xh) (C := RX5) (T := TX5) (N := 8) hx hb hts iX5 hown hK.1 hP 0 rfl rfl 5 (by decide) (hts (.fieldLink RX5 45 "RightsSteps" "atHand" "LRightsSteps$Tester;") (by decide +kernel)) (fun _ h9 => h9) rfl dX5_askForSeed_57 ?_
        refine lv_iconst (v := 0) hx hb dX5_askForSeed_60 (by decide) ?_
        refine va_putN (D := G.1) (ci := 5) (v := .int 0) (ty := .int) (C := RX3) (T := TX3) (N := 11) hx hb hts iX3 tyX3 tyX3_ok nmX3 hown hK.1 hP hD hS 1 rfl rfl 8 (by decide) (va_Nw.use rfl hK.2.2.2.2.2.2.2.2.2.2.1) (fun _ h9 => h9) rfl (by decide +kernel) rfl rfl (Nat.le_of_ble_eq_true rfl) dX5_askForSeed_61 (fun H locs hP hD hS => ?_)
        have hP : va_P G.1 vwCl ([(h0, .inr (7, [.ref xl, .ref xt, .ref xg, .ref xu, .ref xT, .ref xh, .int made, .long tim])), (xh, .inr (5, [.int num, .int ses, .long rol, .int opn, .int awl, .int aws, .int oct, .int ksf, .int 0, .ref tu, .ref tk])), (tk, .inl (G.2 1, 21, .inr (.inl lk))), (xt, .inr (4, [.ref xn, .int first, .int size])), (xn, .inl (G.2 0, 200, .inl nums)), (xg, .inr (2, [.ref xs, .int gsz])), (xs, .inl (G.2 0, 256, .inl seeds))] ++ pl) H := hP
        have hD : va_D A ([(h0, .inr (7, [.ref xl, .ref xt, .ref xg, .ref xu, .ref xT, .ref xh, .int made, .long tim])), (xh, .inr (5, [.int num, .int ses, .long rol, .int opn, .int awl, .int aws, .int oct, .int ksf, .int 0, .ref tu, .ref tk])), (tk, .inl (G.2 1, 21, .inr (.inl lk))), (xt, .inr (4, [.ref xn, .int first, .int size])), (xn, .inl (G.2 0, 200, .inl nums)), (xg, .inr (2, [.ref xs, .int gsz])), (xs, .inl (G.2 0, 256, .inl seeds))] ++ pl) := hD
        refine lv_iconst (v := 4) hx hb dX5_askForSeed_64 (by decide) ?_
        exact W.iret (v := 4) hx hb hr (fun t ht hW => ⟨⟨4, (awl, aws, 0, first, size, gsz, seeds), rfl, hF.symm, by rw [ht]; exact hP.part [0, 1, 2, 3, 4, 5, 6] rfl, hD.part [0, 1, 2, 3, 4, 5, 6] (by decide) rfl⟩, hS.F ht⟩) hS.2.2 dX5_askForSeed_65
    · have hF := if_f hF c_21
      refine lv_aload_n hx hb dX5_askForSeed_24 rfl (lv_at hl 0 rfl) ?_
      refine va_get (D := G.1) (ci := 7) (v := .long tim) (C := RX5) (T := TX5) (N := 8) hx hb hts iX5 hown hK.1 hP 0 rfl rfl 7 (by decide) (hts (.fieldLink RX5 65 "RightsSteps" "time" "J") (by decide +kernel)) (fun _ h9 => h9) rfl dX5_askForSeed_25 ?_
      refine lv_aload_n hx hb dX5_askForSeed_28 rfl (lv_at hl 0 rfl) ?_
      refine va_get (D := G.1) (ci := 7) (v := .ref xh) (C := RX5) (T := TX5) (N := 8) hx hb hts iX5 hown hK.1 hP 0 rfl rfl 5 (by decide) (hts (.fieldLink RX5 45 "RightsSteps" "atHand" "LRightsSteps$Tester;") (by decide +kernel)) (fun _ h9 => h9) rfl dX5_askForSeed_29 ?_
      refine va_getN (D := G.1) (ci := 5) (v := .long rol) (C := RX3) (T := TX3) (N := 11) hx hb hts iX3 hown hK.1 hP 1 rfl rfl 2 (by decide) (va_Nw.use rfl hK.2.2.2.2.1) (fun _ h9 => h9) rfl dX5_askForSeed_32 ?_
      refine W.lcmp hx hb dX5_askForSeed_35 ?_
      refine lv_if_lt (tgt := 42) hx hb dX5_askForSeed_36 (by decide) (fun c_36 => ?_) (fun c_36 => ?_)
      · have hF := if_t hF c_36
        refine lv_aload_n hx hb dX5_askForSeed_42 rfl (lv_at hl 0 rfl) ?_
        refine va_get (D := G.1) (ci := 7) (v := .ref xh) (C := RX5) (T := TX5) (N := 8) hx hb hts iX5 hown hK.1 hP 0 rfl rfl 5 (by decide) (hts (.fieldLink RX5 45 "RightsSteps" "atHand" "LRightsSteps$Tester;") (by decide +kernel)) (fun _ h9 => h9) rfl dX5_askForSeed_43 ?_
        refine va_getN (D := G.1) (ci := 5) (v := .int opn) (C := RX3) (T := TX3) (N := 11) hx hb hts iX3 hown hK.1 hP 1 rfl rfl 3 (by decide) (va_Nw.use rfl hK.2.2.2.2.2.1) (fun _ h9 => h9) rfl dX5_askForSeed_46 ?_
        refine lv_aload_n hx hb dX5_askForSeed_49 rfl (lv_at hl 1 rfl) ?_
        refine va_getN (D := G.1) (ci := 3) (v := .int lnum) (C := RX1) (T := TX1) (N := 4) hx hb hts iX1 hown hK.1 (va_P.pl hP hm) 0 rfl rfl 0 (by decide) (va_Nw.use rfl hK.2.2.2.2.2.2.2.2.2.2.2.1) (fun _ h9 => h9) rfl dX5_askForSeed_50 ?_
        refine lv_icmp_ne (tgt := 66) hx hb dX5_askForSeed_53 (by decide) (fun c_53 => ?_) (fun c_53 => ?_)
        · have hF := if_f hF c_53
          refine lv_aload_n hx hb dX5_askForSeed_66 rfl (lv_at hl 0 rfl) ?_
          refine va_get (D := G.1) (ci := 7) (v := .long tim) (C := RX5) (T := TX5) (N := 8) hx hb hts iX5 hown hK.1 hP 0 rfl rfl 7 (by decide) (hts (.fieldLink RX5 65 "RightsSteps" "time" "J") (by decide +kernel)) (fun _ h9 => h9) rfl dX5_askForSeed_67 ?_
          refine lv_aload_n hx hb dX5_askForSeed_70 rfl (lv_at hl 0 rfl) ?_
          refine va_get (D := G.1) (ci := 7) (v := .ref xh) (C := RX5) (T := TX5) (N := 8) hx hb hts iX5 hown hK.1 hP 0 rfl rfl 5 (by decide) (hts (.fieldLink RX5 45 "RightsSteps" "atHand" "LRightsSteps$Tester;") (by decide +kernel)) (fun _ h9 => h9) rfl dX5_askForSeed_71 ?_
          refine lv_aload_n hx hb dX5_askForSeed_74 rfl (lv_at hl 1 rfl) ?_
          refine va_getN (D := G.1) (ci := 3) (v := .int lnum) (C := RX1) (T := TX1) (N := 4) hx hb hts iX1 hown hK.1 (va_P.pl hP hm) 0 rfl rfl 0 (by decide) (va_Nw.use rfl hK.2.2.2.2.2.2.2.2.2.2.2.1) (fun _ h9 => h9) rfl dX5_askForSeed_75 ?_
          have hPc := hP.sub (ws' := [(xh, .inr (5, [.int num, .int ses, .long rol, .int opn, .int awl, .int aws, .int oct, .int ksf, .int ou, .ref tu, .ref tk])), (tk, .inl (G.2 1, 21, .inr (.inl lk)))]) [1, 2] rfl
          have hDc := hD.sub (ws' := [(xh, .inr (5, [.int num, .int ses, .long rol, .int opn, .int awl, .int aws, .int oct, .int ksf, .int ou, .ref tu, .ref tk])), (tk, .inl (G.2 1, 21, .inr (.inl lk)))]) [1, 2] (by decide) rfl
          refine pu_call (va_runV (As := [.int lnum]) (rest := [.long tim]) ⟨hx, hb, hml, hown, hts⟩ (c_X3_lockedUntil l G xh tk tu _ num ses rol opn awl aws oct ksf ou lk lnum) (cwV 1 hts gX5_askForSeed_X3_lockedUntil rfl rfl rfl (by decide +kernel) ⟨Nat.le_of_ble_eq_true rfl, Nat.le_of_ble_eq_true rfl⟩) (pR_V hK hPc hDc (q0 := 0) rfl rfl) rfl rfl hl.1 rfl (lv_room (Nat.le_of_ble_eq_true rfl)) dX5_askForSeed_78 ⟨Nat.le_of_ble_eq_true rfl, Nat.le_of_ble_eq_true rfl⟩) ?_
          refine W.lcmp hx hb dX5_askForSeed_81 ?_
          refine lv_if_ge (tgt := 88) hx hb dX5_askForSeed_82 (by decide) (fun c_82 => ?_) (fun c_82 => ?_)
          · have hF := if_t hF c_82
            refine lv_aload_n hx hb dX5_askForSeed_88 rfl (lv_at hl 0 rfl) ?_
            refine va_get (D := G.1) (ci := 7) (v := .ref xt) (C := RX5) (T := TX5) (N := 8) hx hb hts iX5 hown hK.1 hP 0 rfl rfl 1 (by decide) (hts (.fieldLink RX5 18 "RightsSteps" "tape" "LRightsSteps$Tape;") (by decide +kernel)) (fun _ h9 => h9) rfl dX5_askForSeed_89 ?_
            refine lv_aload_n hx hb dX5_askForSeed_92 rfl (lv_at hl 0 rfl) ?_
            refine va_get (D := G.1) (ci := 7) (v := .ref xg) (C := RX5) (T := TX5) (N := 8) hx hb hts iX5 hown hK.1 hP 0 rfl rfl 2 (by decide) (hts (.fieldLink RX5 25 "RightsSteps" "given" "LRightsSteps$GivenSeeds;") (by decide +kernel)) (fun _ h9 => h9) rfl dX5_askForSeed_93 ?_
            have hPc := hP.sub (ws' := [(xt, .inr (4, [.ref xn, .int first, .int size])), (xn, .inl (G.2 0, 200, .inl nums)), (xg, .inr (2, [.ref xs, .int gsz])), (xs, .inl (G.2 0, 256, .inl seeds))]) [3, 4, 5, 6] rfl
            have hDc := hD.sub (ws' := [(xt, .inr (4, [.ref xn, .int first, .int size])), (xn, .inl (G.2 0, 200, .inl nums)), (xg, .inr (2, [.ref xs, .int gsz])), (xs, .inl (G.2 0, 256, .inl seeds))]) [3, 4, 5, 6] (by decide) rfl
            refine clq_i (wr := [(h0, .inr (7, [.ref xl, .ref xt, .ref xg, .ref xu, .ref xT, .ref xh, .int made, .long tim])), (xh, .inr (5, [.int num, .int ses, .long rol, .int opn, .int awl, .int aws, .int oct, .int ksf, .int ou, .ref tu, .ref tk])), (tk, .inl (G.2 1, 21, .inr (.inl lk)))]) (va_runV (As := [.ref xg]) (rest := []) ⟨hx, hb, hml, hown, hts⟩ (c_X2_takeSeed l G xt xn xg xs _ first size nums gsz seeds hf hz) (cwV 1 hts gX5_askForSeed_X2_takeSeed rfl rfl rfl (by decide +kernel) ⟨Nat.le_of_ble_eq_true rfl, Nat.le_of_ble_eq_true rfl⟩) (pR_V hK hPc hDc (q0 := 0) rfl rfl) rfl rfl hl.1 rfl (lv_room (Nat.le_of_ble_eq_true rfl)) dX5_askForSeed_96 ⟨Nat.le_of_ble_eq_true rfl, Nat.le_of_ble_eq_true rfl⟩) hP hD hS hA [3, 4, 5, 6] [0, 1, 2] rfl rfl (by decide) (by decide) (fun r4 u4 ez4 H locs hP hD hS => ?_)
            have hP : va_P G.1 vwCl ([(h0, .inr (7, [.ref xl, .ref xt, .ref xg, .ref xu, .ref xT, .ref xh, .int made, .long tim])), (xh, .inr (5, [.int num, .int ses, .long rol, .int opn, .int awl, .int aws, .int oct, .int ksf, .int ou, .ref tu, .ref tk])), (tk, .inl (G.2 1, 21, .inr (.inl lk))), (xt, .inr (4, [.ref xn, .int u4.1, .int u4.2])), (xn, .inl (G.2 0, 200, .inl nums)), (xg, .inr (2, [.ref xs, .int gsz])), (xs, .inl (G.2 0, 256, .inl seeds))] ++ pl) H := hP
            have hD : va_D A ([(h0, .inr (7, [.ref xl, .ref xt, .ref xg, .ref xu, .ref xT, .ref xh, .int made, .long tim])), (xh, .inr (5, [.int num, .int ses, .long rol, .int opn, .int awl, .int aws, .int oct, .int ksf, .int ou, .ref tu, .ref tk])), (tk, .inl (G.2 1, 21, .inr (.inl lk))), (xt, .inr (4, [.ref xn, .int u4.1, .int u4.2])), (xn, .inl (G.2 0, 200, .inl nums)), (xg, .inr (2, [.ref xs, .int gsz])), (xs, .inl (G.2 0, 256, .inl seeds))] ++ pl) := hD
            have hF := lz2_e hF ez4
            refine lv_istore_n (lv' := [(2, .int r4), (0, .ref h0), (1, .ref la)]) hx hb dX5_askForSeed_99 rfl hl (by decide) rfl (fun ls hl => ?_)
            refine lv_iload_n hx hb dX5_askForSeed_100 rfl (lv_at hl 0 rfl) ?_
            refine lv_if_ne (tgt := 107) hx hb dX5_askForSeed_101 (by decide) (fun c_101 => ?_) (fun c_101 => ?_)
            · have hF := if_f hF c_101
              refine lv_aload_n hx hb dX5_askForSeed_107 rfl (lv_at hl 1 rfl) ?_
              refine va_get (D := G.1) (ci := 7) (v := .ref xg) (C := RX5) (T := TX5) (N := 8) hx hb hts iX5 hown hK.1 hP 0 rfl rfl 2 (by decide) (hts (.fieldLink RX5 25 "RightsSteps" "given" "LRightsSteps$GivenSeeds;") (by decide +kernel)) (fun _ h9 => h9) rfl dX5_askForSeed_108 ?_
              refine lv_iload_n hx hb dX5_askForSeed_111 rfl (lv_at hl 0 rfl) ?_
              have hPc := hP.sub (ws' := [(xg, .inr (2, [.ref xs, .int gsz])), (xs, .inl (G.2 0, 256, .inl seeds))]) [5, 6] rfl
              have hDc := hD.sub (ws' := [(xg, .inr (2, [.ref xs, .int gsz])), (xs, .inl (G.2 0, 256, .inl seeds))]) [5, 6] (by decide) rfl
              refine clq_v (wr := [(h0, .inr (7, [.ref xl, .ref xt, .ref xg, .ref xu, .ref xT, .ref xh, .int made, .long tim])), (xh, .inr (5, [.int num, .int ses, .long rol, .int opn, .int awl, .int aws, .int oct, .int ksf, .int ou, .ref tu, .ref tk])), (tk, .inl (G.2 1, 21, .inr (.inl lk))), (xt, .inr (4, [.ref xn, .int u4.1, .int u4.2])), (xn, .inl (G.2 0, 200, .inl nums))]) (va_runV (As := [.int r4]) (rest := []) ⟨hx, hb, hml, hown, hts⟩ (c_X0_add l G xg xs _ gsz seeds r4 hg) (cwV 1 hts gX5_askForSeed_X0_add rfl rfl rfl (by decide +kernel) ⟨Nat.le_of_ble_eq_true rfl, Nat.le_of_ble_eq_true rfl⟩) (pR_V hK hPc hDc (q0 := 0) rfl rfl) rfl rfl hl.1 rfl (lv_room (Nat.le_of_ble_eq_true rfl)) dX5_askForSeed_112 ⟨Nat.le_of_ble_eq_true rfl, Nat.le_of_ble_eq_true rfl⟩) hP hD hS hA [5, 6] [0, 1, 2, 3, 4] rfl rfl (by decide) (by decide) (fun u5 ez5 H locs hP hD hS => ?_)
              have hP : va_P G.1 vwCl ([(h0, .inr (7, [.ref xl, .ref xt, .ref xg, .ref xu, .ref xT, .ref xh, .int made, .long tim])), (xh, .inr (5, [.int num, .int ses, .long rol, .int opn, .int awl, .int aws, .int oct, .int ksf, .int ou, .ref tu, .ref tk])), (tk, .inl (G.2 1, 21, .inr (.inl lk))), (xt, .inr (4, [.ref xn, .int u4.1, .int u4.2])), (xn, .inl (G.2 0, 200, .inl nums)), (xg, .inr (2, [.ref xs, .int u5.1])), (xs, .inl (G.2 0, 256, .inl u5.2))] ++ pl) H := hP
              have hD : va_D A ([(h0, .inr (7, [.ref xl, .ref xt, .ref xg, .ref xu, .ref xT, .ref xh, .int made, .long tim])), (xh, .inr (5, [.int num, .int ses, .long rol, .int opn, .int awl, .int aws, .int oct, .int ksf, .int ou, .ref tu, .ref tk])), (tk, .inl (G.2 1, 21, .inr (.inl lk))), (xt, .inr (4, [.ref xn, .int u4.1, .int u4.2])), (xn, .inl (G.2 0, 200, .inl nums)), (xg, .inr (2, [.ref xs, .int u5.1])), (xs, .inl (G.2 0, 256, .inl u5.2))] ++ pl) := hD
              have hF := lz_e hF ez5
              refine lv_aload_n hx hb dX5_askForSeed_115 rfl (lv_at hl 1 rfl) ?_
              refine va_get (D := G.1) (ci := 7) (v := .ref xh) (C := RX5) (T := TX5) (N := 8) hx hb hts iX5 hown hK.1 hP 0 rfl rfl 5 (by decide) (hts (.fieldLink RX5 45 "RightsSteps" "atHand" "LRightsSteps$Tester;") (by decide +kernel)) (fun _ h9 => h9) rfl dX5_askForSeed_116 ?_
              refine lv_aload_n hx hb dX5_askForSeed_119 rfl (lv_at hl 2 rfl) ?_
              refine va_getN (D := G.1) (ci := 3) (v := .int lnum) (C := RX1) (T := TX1) (N := 4) hx hb hts iX1 hown hK.1 (va_P.pl hP hm) 0 rfl rfl 0 (by decide) (va_Nw.use rfl hK.2.2.2.2.2.2.2.2.2.2.2.1) (fun _ h9 => h9) rfl dX5_askForSeed_120 ?_
              refine lv_iload_n hx hb dX5_askForSeed_123 rfl (lv_at hl 0 rfl) ?_
              have hPc := hP.sub (ws' := [(xh, .inr (5, [.int num, .int ses, .long rol, .int opn, .int awl, .int aws, .int oct, .int ksf, .int ou, .ref tu, .ref tk]))]) [1] rfl
              have hDc := hD.sub (ws' := [(xh, .inr (5, [.int num, .int ses, .long rol, .int opn, .int awl, .int aws, .int oct, .int ksf, .int ou, .ref tu, .ref tk]))]) [1] (by decide) rfl
              refine clq_v (wr := [(h0, .inr (7, [.ref xl, .ref xt, .ref xg, .ref xu, .ref xT, .ref xh, .int made, .long tim])), (tk, .inl (G.2 1, 21, .inr (.inl lk))), (xt, .inr (4, [.ref xn, .int u4.1, .int u4.2])), (xn, .inl (G.2 0, 200, .inl nums)), (xg, .inr (2, [.ref xs, .int u5.1])), (xs, .inl (G.2 0, 256, .inl u5.2))]) (va_runV (As := [.int lnum, .int r4]) (rest := []) ⟨hx, hb, hml, hown, hts⟩ (c_X3_awaitKey l G xh tu tk _ num ses rol opn awl aws oct ksf ou lnum r4) (cwV 2 hts gX5_askForSeed_X3_awaitKey rfl rfl rfl (by decide +kernel) ⟨Nat.le_of_ble_eq_true rfl, Nat.le_of_ble_eq_true rfl⟩) (pR_V hK hPc hDc (q0 := 0) rfl rfl) rfl rfl hl.1 rfl (lv_room (Nat.le_of_ble_eq_true rfl)) dX5_askForSeed_124 ⟨Nat.le_of_ble_eq_true rfl, Nat.le_of_ble_eq_true rfl⟩) hP hD hS hA [1] [0, 2, 3, 4, 5, 6] rfl rfl (by decide) (by decide) (fun u6 ez6 H locs hP hD hS => ?_)
              have hP : va_P G.1 vwCl ([(h0, .inr (7, [.ref xl, .ref xt, .ref xg, .ref xu, .ref xT, .ref xh, .int made, .long tim])), (tk, .inl (G.2 1, 21, .inr (.inl lk))), (xt, .inr (4, [.ref xn, .int u4.1, .int u4.2])), (xn, .inl (G.2 0, 200, .inl nums)), (xg, .inr (2, [.ref xs, .int u5.1])), (xs, .inl (G.2 0, 256, .inl u5.2)), (xh, .inr (5, [.int num, .int ses, .long rol, .int opn, .int u6.1, .int u6.2.1, .int oct, .int ksf, .int u6.2.2, .ref tu, .ref tk]))] ++ pl) H := hP
              have hD : va_D A ([(h0, .inr (7, [.ref xl, .ref xt, .ref xg, .ref xu, .ref xT, .ref xh, .int made, .long tim])), (tk, .inl (G.2 1, 21, .inr (.inl lk))), (xt, .inr (4, [.ref xn, .int u4.1, .int u4.2])), (xn, .inl (G.2 0, 200, .inl nums)), (xg, .inr (2, [.ref xs, .int u5.1])), (xs, .inl (G.2 0, 256, .inl u5.2)), (xh, .inr (5, [.int num, .int ses, .long rol, .int opn, .int u6.1, .int u6.2.1, .int oct, .int ksf, .int u6.2.2, .ref tu, .ref tk]))] ++ pl) := hD
              have hF := lz_e hF ez6
              refine lv_iconst (v := 4) hx hb dX5_askForSeed_127 (by decide) ?_
              exact W.iret (v := 4) hx hb hr (fun t ht hW => ⟨⟨4, (u6.1, u6.2.1, u6.2.2, u4.1, u4.2, u5.1, u5.2), rfl, hF.symm, by rw [ht]; exact hP.part [0, 6, 1, 2, 3, 4, 5] rfl, hD.part [0, 6, 1, 2, 3, 4, 5] (by decide) rfl⟩, hS.F ht⟩) hS.2.2 dX5_askForSeed_128
            · have hF := if_t hF c_101
              refine lv_bipush (v := (-34)) hx hb dX5_askForSeed_104 (by decide) ?_
              exact W.iret (v := (-34)) hx hb hr (fun t ht hW => ⟨⟨(-34), (awl, aws, ou, u4.1, u4.2, gsz, seeds), rfl, hF.symm, by rw [ht]; exact hP.part [0, 1, 2, 3, 4, 5, 6] rfl, hD.part [0, 1, 2, 3, 4, 5, 6] (by decide) rfl⟩, hS.F ht⟩) hS.2.2 dX5_askForSeed_106
          · have hF := if_f hF c_82
            refine lv_bipush (v := (-55)) hx hb dX5_askForSeed_85 (by decide) ?_
            exact W.iret (v := (-55)) hx hb hr (fun t ht hW => ⟨⟨(-55), (awl, aws, ou, first, size, gsz, seeds), rfl, hF.symm, by rw [ht]; exact hP.part [0, 1, 2, 3, 4, 5, 6] rfl, hD.part [0, 1, 2, 3, 4, 5, 6] (by decide) rfl⟩, hS.F ht⟩) hS.2.2 dX5_askForSeed_87
        · have hF := if_t hF c_53
          refine lv_aload_n hx hb dX5_askForSeed_56 rfl (lv_at hl 0 rfl) ?_
          refine va_get (D := G.1) (ci := 7) (v := .ref xh) (C := RX5) (T := TX5) (N := 8) hx hb hts iX5 hown hK.1 hP 0 rfl rfl 5 (by decide) (hts (.fieldLink RX5 45 "RightsSteps" "atHand" "LRightsSteps$Tester;") (by decide +kernel)) (fun _ h9 => h9) rfl dX5_askForSeed_57 ?_
          refine lv_iconst (v := 0) hx hb dX5_askForSeed_60 (by decide) ?_
          refine va_putN (D := G.1) (ci := 5) (v := .int 0) (ty := .int) (C := RX3) (T := TX3) (N := 11) hx hb hts iX3 tyX3 tyX3_ok nmX3 hown hK.1 hP hD hS 1 rfl rfl 8 (by decide) (va_Nw.use rfl hK.2.2.2.2.2.2.2.2.2.2.1) (fun _ h9 => h9) rfl (by decide +kernel) rfl rfl (Nat.le_of_ble_eq_true rfl) dX5_askForSeed_61 (fun H locs hP hD hS => ?_)
          have hP : va_P G.1 vwCl ([(h0, .inr (7, [.ref xl, .ref xt, .ref xg, .ref xu, .ref xT, .ref xh, .int made, .long tim])), (xh, .inr (5, [.int num, .int ses, .long rol, .int opn, .int awl, .int aws, .int oct, .int ksf, .int 0, .ref tu, .ref tk])), (tk, .inl (G.2 1, 21, .inr (.inl lk))), (xt, .inr (4, [.ref xn, .int first, .int size])), (xn, .inl (G.2 0, 200, .inl nums)), (xg, .inr (2, [.ref xs, .int gsz])), (xs, .inl (G.2 0, 256, .inl seeds))] ++ pl) H := hP
          have hD : va_D A ([(h0, .inr (7, [.ref xl, .ref xt, .ref xg, .ref xu, .ref xT, .ref xh, .int made, .long tim])), (xh, .inr (5, [.int num, .int ses, .long rol, .int opn, .int awl, .int aws, .int oct, .int ksf, .int 0, .ref tu, .ref tk])), (tk, .inl (G.2 1, 21, .inr (.inl lk))), (xt, .inr (4, [.ref xn, .int first, .int size])), (xn, .inl (G.2 0, 200, .inl nums)), (xg, .inr (2, [.ref xs, .int gsz])), (xs, .inl (G.2 0, 256, .inl seeds))] ++ pl) := hD
          refine lv_iconst (v := 4) hx hb dX5_askForSeed_64 (by decide) ?_
          exact W.iret (v := 4) hx hb hr (fun t ht hW => ⟨⟨4, (awl, aws, 0, first, size, gsz, seeds), rfl, hF.symm, by rw [ht]; exact hP.part [0, 1, 2, 3, 4, 5, 6] rfl, hD.part [0, 1, 2, 3, 4, 5, 6] (by decide) rfl⟩, hS.F ht⟩) hS.2.2 dX5_askForSeed_65
      · have hF := if_f hF c_36
        refine lv_bipush (v := (-51)) hx hb dX5_askForSeed_39 (by decide) ?_
        exact W.iret (v := (-51)) hx hb hr (fun t ht hW => ⟨⟨(-51), (awl, aws, ou, first, size, gsz, seeds), rfl, hF.symm, by rw [ht]; exact hP.part [0, 1, 2, 3, 4, 5, 6] rfl, hD.part [0, 1, 2, 3, 4, 5, 6] (by decide) rfl⟩, hS.F ht⟩) hS.2.2 dX5_askForSeed_41
  · have hF := if_t hF c_11
    refine lv_bipush (v := (-18)) hx hb dX5_askForSeed_14 (by decide) ?_
    exact W.iret (v := (-18)) hx hb hr (fun t ht hW => ⟨⟨(-18), (awl, aws, ou, first, size, gsz, seeds), rfl, hF.symm, by rw [ht]; exact hP.part [0, 1, 2, 3, 4, 5, 6] rfl, hD.part [0, 1, 2, 3, 4, 5, 6] (by decide) rfl⟩, hS.F ht⟩) hS.2.2 dX5_askForSeed_16

def F_X5_tryKey (made : Int32) (tim : Int64) (num : Int32) (ses : Int32) (rol : Int64) (opn : Int32) (awl : Int32) (aws : Int32) (oct : Int32) (ksf : Int32) (ou : Int32) (ut : Nat → Int32) (lk : Nat → Int64) (lnum : Int32) (lkind : Int32) (ltries : Int32) (ldelay : Int64) (p2 : Int32) : Int32 × Int32 × Int32 × (Nat → Int32) × (Nat → Int64) :=
  (if awl = lnum then (if p2 = (F_X1_keyTo lnum lkind ltries ldelay aws) then (lz (F_X3_setUsedTries num ses rol lnum 0 aws oct ksf ou ut lnum 0) (fun u4 => (1, (lnum, 0, u4, lk)))) else (if ltries ≤ ((F_X3_usedTries num ses rol opn 0 aws oct ksf ou ut lnum) + 1) then (lz (F_X3_setUsedTries num ses rol opn 0 aws oct ksf ou ut lnum 0) (fun u1 => (lz (F_X3_lock num ses rol opn 0 aws oct ksf ou lk lnum (tim + ldelay)) (fun u2 => ((-54), (opn, 0, u1, u2)))))) else (lz (F_X3_setUsedTries num ses rol opn 0 aws oct ksf ou ut lnum ((F_X3_usedTries num ses rol opn 0 aws oct ksf ou ut lnum) + 1)) (fun u3 => ((-53), (opn, 0, u3, lk)))))) else ((-36), (opn, awl, ut, lk)))
set_option maxHeartbeats 4000000 in
set_option maxRecDepth 100000 in
theorem c_X5_tryKey (l : Launch) (G : gG) (h0 xh tu tk xl xt xg xu xT la : Nat) (sz : Nat) (made : Int32) (tim : Int64) (num : Int32) (ses : Int32) (rol : Int64) (opn : Int32) (awl : Int32) (aws : Int32) (oct : Int32) (ksf : Int32) (ou : Int32) (ut : Nat → Int32) (lk : Nat → Int64) (lnum : Int32) (lkind : Int32) (ltries : Int32) (ldelay : Int64) (p2 : Int32) (pl : va_W) (hm : ((la, .inr (3, [.int lnum, .int lkind, .int ltries, .long ldelay])) : Nat × va_E) ∈ pl) : Met l yX5_tryKey wsX5_tryKey ({ frames := 2, cells := 0, slots := 0, locals := 45 }) (va_Pc [.ref h0, .ref la, .int p2] (pR G ([(h0, .inr (7, [.ref xl, .ref xt, .ref xg, .ref xu, .ref xT, .ref xh, .int made, .long tim])), (xh, .inr (5, [.int num, .int ses, .long rol, .int opn, .int awl, .int aws, .int oct, .int ksf, .int ou, .ref tu, .ref tk])), (tu, .inl (G.2 0, 21, .inl ut)), (tk, .inl (G.2 1, 21, .inr (.inl lk)))] ++ pl) sz)) (va_Qi (fun (r : Int32) (u : Int32 × Int32 × (Nat → Int32) × (Nat → Int64)) => (r, u) = F_X5_tryKey made tim num ses rol opn awl aws oct ksf ou ut lk lnum lkind ltries ldelay p2) (fun u t => pO G ([(h0, .inr (7, [.ref xl, .ref xt, .ref xg, .ref xu, .ref xT, .ref xh, .int made, .long tim])), (xh, .inr (5, [.int num, .int ses, .long rol, .int u.1, .int u.2.1, .int aws, .int oct, .int ksf, .int ou, .ref tu, .ref tk])), (tu, .inl (G.2 0, 21, .inl u.2.2.1)), (tk, .inl (G.2 1, 21, .inr (.inl u.2.2.2)))] ++ pl) (va_A ([(h0, .inr (7, [.ref xl, .ref xt, .ref xg, .ref xu, .ref xT, .ref xh, .int made, .long tim])), (xh, .inr (5, [.int num, .int ses, .long rol, .int opn, .int awl, .int aws, .int oct, .int ksf, .int ou, .ref tu, .ref tk])), (tu, .inl (G.2 0, 21, .inl ut)), (tk, .inl (G.2 1, 21, .inr (.inl lk)))] ++ pl) sz) t) (va_A ([(h0, .inr (7, [.ref xl, .ref xt, .ref xg, .ref xu, .ref xT, .ref xh, .int made, .long tim])), (xh, .inr (5, [.int num, .int ses, .long rol, .int opn, .int awl, .int aws, .int oct, .int ksf, .int ou, .ref tu, .ref tk])), (tu, .inl (G.2 0, 21, .inl ut)), (tk, .inl (G.2 1, 21, .inr (.inl lk)))] ++ pl) sz)) 0 0 (va_A ([(h0, .inr (7, [.ref xl, .ref xt, .ref xg, .ref xu, .ref xT, .ref xh, .int made, .long tim])), (xh, .inr (5, [.int num, .int ses, .long rol, .int opn, .int awl, .int aws, .int oct, .int ksf, .int ou, .ref tu, .ref tk])), (tu, .inl (G.2 0, 21, .inl ut)), (tk, .inl (G.2 1, 21, .inr (.inl lk)))] ++ pl) sz) := by
  refine Met.ofW (cc := cX5_tryKey) (maxL := 4) (ret := (some .int)) (by decide) rfl ?_
  intro p e s m args below meth c s₁ B hml hv
  obtain ⟨rfl, hsz, hP, hK, hD0⟩ := hv
  have hx := B.exec
  have hb := B.bytes
  have hr := B.returns
  have hts := atoms_spec (ws := wsX5_tryKey) B.pre
  have hown : s.vm.findClass RX5 = some m.cls := findClass_of_methodNamed B.named
  have hlocks := B.notSynchronized
  subst hsz
  have iX1 : ∀ w ∈ wsX10, w ∈ wsX5_tryKey := by decide +kernel
  have iX3 : ∀ w ∈ wsX30, w ∈ wsX5_tryKey := by decide +kernel
  have iX5 : ∀ w ∈ wsX50, w ∈ wsX5_tryKey := by decide +kernel
  have hD := hD0.self (sz := s.heap.size)
  generalize hAe : va_A ([(h0, .inr (7, [.ref xl, .ref xt, .ref xg, .ref xu, .ref xT, .ref xh, .int made, .long tim])), (xh, .inr (5, [.int num, .int ses, .long rol, .int opn, .int awl, .int aws, .int oct, .int ksf, .int ou, .ref tu, .ref tk])), (tu, .inl (G.2 0, 21, .inl ut)), (tk, .inl (G.2 1, 21, .inr (.inl lk)))] ++ pl) s.heap.size = A at hD ⊢
  have hA : ∀ q : Nat, s.heap.size ≤ q → A q := fun q h => by rw [← hAe]; exact Or.inr h
  have hS : va_S A s.heap s.heap [] := va_S.rf
  have hP : va_P G.1 vwCl ([(h0, .inr (7, [.ref xl, .ref xt, .ref xg, .ref xu, .ref xT, .ref xh, .int made, .long tim])), (xh, .inr (5, [.int num, .int ses, .long rol, .int opn, .int awl, .int aws, .int oct, .int ksf, .int ou, .ref tu, .ref tk])), (tu, .inl (G.2 0, 21, .inl ut)), (tk, .inl (G.2 1, 21, .inr (.inl lk)))] ++ pl) s.heap := hP
  have hl := lv_entry ([.ref h0, .ref la, .int p2]) (n := 4) (Nat.le_of_ble_eq_true rfl)
  rw [lg_entry_eq]
  generalize (lg_sl ([.ref h0, .ref la, .int p2]) ++ List.replicate (4 - (lg_sl ([.ref h0, .ref la, .int p2])).length) Slot.unset).toArray = ls at hl ⊢
  have hl : lv_has ls 4 [(0, .ref h0), (1, .ref la), (2, .int p2)] := hl
  have hF : F_X5_tryKey made tim num ses rol opn awl aws oct ksf ou ut lk lnum lkind ltries ldelay p2 = F_X5_tryKey made tim num ses rol opn awl aws oct ksf ou ut lk lnum lkind ltries ldelay p2 := rfl
  refine lv_aload_n hx hb dX5_tryKey_0 rfl (lv_at hl 0 rfl) ?_
  refine va_get (D := G.1) (ci := 7) (v := .ref xh) (C := RX5) (T := TX5) (N := 8) hx hb hts iX5 hown hK.1 hP 0 rfl rfl 5 (by decide) (hts (.fieldLink RX5 45 "RightsSteps" "atHand" "LRightsSteps$Tester;") (by decide +kernel)) (fun _ h9 => h9) rfl dX5_tryKey_1 ?_
  refine va_getN (D := G.1) (ci := 5) (v := .int awl) (C := RX3) (T := TX3) (N := 11) hx hb hts iX3 hown hK.1 hP 1 rfl rfl 4 (by decide) (va_Nw.use rfl hK.2.2.2.2.2.2.1) (fun _ h9 => h9) rfl dX5_tryKey_4 ?_
  refine lv_aload_n hx hb dX5_tryKey_7 rfl (lv_at hl 1 rfl) ?_
  refine va_getN (D := G.1) (ci := 3) (v := .int lnum) (C := RX1) (T := TX1) (N := 4) hx hb hts iX1 hown hK.1 (va_P.pl hP hm) 0 rfl rfl 0 (by decide) (va_Nw.use rfl hK.2.2.2.2.2.2.2.2.2.2.2.1) (fun _ h9 => h9) rfl dX5_tryKey_8 ?_
  refine lv_icmp_eq (tgt := 17) hx hb dX5_tryKey_11 (by decide) (fun c_11 => ?_) (fun c_11 => ?_)
  · have hF := if_t hF c_11
    refine lv_aload_n hx hb dX5_tryKey_17 rfl (lv_at hl 0 rfl) ?_
    refine va_get (D := G.1) (ci := 7) (v := .ref xh) (C := RX5) (T := TX5) (N := 8) hx hb hts iX5 hown hK.1 hP 0 rfl rfl 5 (by decide) (hts (.fieldLink RX5 45 "RightsSteps" "atHand" "LRightsSteps$Tester;") (by decide +kernel)) (fun _ h9 => h9) rfl dX5_tryKey_18 ?_
    refine lv_iconst (v := 0) hx hb dX5_tryKey_21 (by decide) ?_
    refine va_putN (D := G.1) (ci := 5) (v := .int 0) (ty := .int) (C := RX3) (T := TX3) (N := 11) hx hb hts iX3 tyX3 tyX3_ok nmX3 hown hK.1 hP hD hS 1 rfl rfl 4 (by decide) (va_Nw.use rfl hK.2.2.2.2.2.2.1) (fun _ h9 => h9) rfl (by decide +kernel) rfl rfl (Nat.le_of_ble_eq_true rfl) dX5_tryKey_22 (fun H locs hP hD hS => ?_)
    have hP : va_P G.1 vwCl ([(h0, .inr (7, [.ref xl, .ref xt, .ref xg, .ref xu, .ref xT, .ref xh, .int made, .long tim])), (xh, .inr (5, [.int num, .int ses, .long rol, .int opn, .int 0, .int aws, .int oct, .int ksf, .int ou, .ref tu, .ref tk])), (tu, .inl (G.2 0, 21, .inl ut)), (tk, .inl (G.2 1, 21, .inr (.inl lk)))] ++ pl) H := hP
    have hD : va_D A ([(h0, .inr (7, [.ref xl, .ref xt, .ref xg, .ref xu, .ref xT, .ref xh, .int made, .long tim])), (xh, .inr (5, [.int num, .int ses, .long rol, .int opn, .int 0, .int aws, .int oct, .int ksf, .int ou, .ref tu, .ref tk])), (tu, .inl (G.2 0, 21, .inl ut)), (tk, .inl (G.2 1, 21, .inr (.inl lk)))] ++ pl) := hD
    refine lv_iload_n hx hb dX5_tryKey_25 rfl (lv_at hl 2 rfl) ?_
    refine lv_aload_n hx hb dX5_tryKey_26 rfl (lv_at hl 1 rfl) ?_
    refine lv_aload_n hx hb dX5_tryKey_27 rfl (lv_at hl 0 rfl) ?_
    refine va_get (D := G.1) (ci := 7) (v := .ref xh) (C := RX5) (T := TX5) (N := 8) hx hb hts iX5 hown hK.1 hP 0 rfl rfl 5 (by decide) (hts (.fieldLink RX5 45 "RightsSteps" "atHand" "LRightsSteps$Tester;") (by decide +kernel)) (fun _ h9 => h9) rfl dX5_tryKey_28 ?_
    refine va_getN (D := G.1) (ci := 5) (v := .int aws) (C := RX3) (T := TX3) (N := 11) hx hb hts iX3 hown hK.1 hP 1 rfl rfl 5 (by decide) (va_Nw.use rfl hK.2.2.2.2.2.2.2.1) (fun _ h9 => h9) rfl dX5_tryKey_31 ?_
    refine pu_call (va_runV (As := [.int aws]) (rest := [.int p2]) ⟨hx, hb, hml, hown, hts⟩ (c_X1_keyTo l G la _ lnum lkind ltries ldelay aws) (cwV 1 hts gX5_tryKey_X1_keyTo rfl rfl rfl (by decide +kernel) ⟨Nat.le_of_ble_eq_true rfl, Nat.le_of_ble_eq_true rfl⟩) (pR_V hK (va_P.pl hP hm) (va_D.one _) (q0 := 0) rfl rfl) rfl rfl hl.1 rfl (lv_room (Nat.le_of_ble_eq_true rfl)) dX5_tryKey_34 ⟨Nat.le_of_ble_eq_true rfl, Nat.le_of_ble_eq_true rfl⟩) ?_
    refine lv_icmp_ne (tgt := 65) hx hb dX5_tryKey_37 (by decide) (fun c_37 => ?_) (fun c_37 => ?_)
    · have hF := if_f hF c_37
      refine lv_aload_n hx hb dX5_tryKey_65 rfl (lv_at hl 0 rfl) ?_
      refine va_get (D := G.1) (ci := 7) (v := .ref xh) (C := RX5) (T := TX5) (N := 8) hx hb hts iX5 hown hK.1 hP 0 rfl rfl 5 (by decide) (hts (.fieldLink RX5 45 "RightsSteps" "atHand" "LRightsSteps$Tester;") (by decide +kernel)) (fun _ h9 => h9) rfl dX5_tryKey_66 ?_
      refine lv_aload_n hx hb dX5_tryKey_69 rfl (lv_at hl 1 rfl) ?_
      refine va_getN (D := G.1) (ci := 3) (v := .int lnum) (C := RX1) (T := TX1) (N := 4) hx hb hts iX1 hown hK.1 (va_P.pl hP hm) 0 rfl rfl 0 (by decide) (va_Nw.use rfl hK.2.2.2.2.2.2.2.2.2.2.2.1) (fun _ h9 => h9) rfl dX5_tryKey_70 ?_
      have hPc := hP.sub (ws' := [(xh, .inr (5, [.int num, .int ses, .long rol, .int opn, .int 0, .int aws, .int oct, .int ksf, .int ou, .ref tu, .ref tk])), (tu, .inl (G.2 0, 21, .inl ut))]) [1, 2] rfl
      have hDc := hD.sub (ws' := [(xh, .inr (5, [.int num, .int ses, .long rol, .int opn, .int 0, .int aws, .int oct, .int ksf, .int ou, .ref tu, .ref tk])), (tu, .inl (G.2 0, 21, .inl ut))]) [1, 2] (by decide) rfl
      refine pu_call (va_runV (As := [.int lnum]) (rest := []) ⟨hx, hb, hml, hown, hts⟩ (c_X3_usedTries l G xh tu tk _ num ses rol opn 0 aws oct ksf ou ut lnum) (cwV 1 hts gX5_tryKey_X3_usedTries rfl rfl rfl (by decide +kernel) ⟨Nat.le_of_ble_eq_true rfl, Nat.le_of_ble_eq_true rfl⟩) (pR_V hK hPc hDc (q0 := 0) rfl rfl) rfl rfl hl.1 rfl (lv_room (Nat.le_of_ble_eq_true rfl)) dX5_tryKey_73 ⟨Nat.le_of_ble_eq_true rfl, Nat.le_of_ble_eq_true rfl⟩) ?_
      refine lv_iconst (v := 1) hx hb dX5_tryKey_76 (by decide) ?_
      refine lv_iadd hx hb dX5_tryKey_77 ?_
      refine lv_istore_n (lv' := [(3, .int ((F_X3_usedTries num ses rol opn 0 aws oct ksf ou ut lnum) + 1)), (0, .ref h0), (1, .ref la), (2, .int p2)]) hx hb dX5_tryKey_78 rfl hl (by decide) rfl (fun ls hl => ?_)
      refine lv_iload_n hx hb dX5_tryKey_79 rfl (lv_at hl 0 rfl) ?_
      refine lv_aload_n hx hb dX5_tryKey_80 rfl (lv_at hl 2 rfl) ?_
      refine va_getN (D := G.1) (ci := 3) (v := .int ltries) (C := RX1) (T := TX1) (N := 4) hx hb hts iX1 hown hK.1 (va_P.pl hP hm) 0 rfl rfl 2 (by decide) (va_Nw.use rfl hK.2.2.2.2.2.2.2.2.2.2.2.2.1) (fun _ h9 => h9) rfl dX5_tryKey_81 ?_
      refine lv_icmp_ge (tgt := 102) hx hb dX5_tryKey_84 (by decide) (fun c_84 => ?_) (fun c_84 => ?_)
      · have hF := if_t hF c_84
        refine lv_aload_n hx hb dX5_tryKey_102 rfl (lv_at hl 1 rfl) ?_
        refine va_get (D := G.1) (ci := 7) (v := .ref xh) (C := RX5) (T := TX5) (N := 8) hx hb hts iX5 hown hK.1 hP 0 rfl rfl 5 (by decide) (hts (.fieldLink RX5 45 "RightsSteps" "atHand" "LRightsSteps$Tester;") (by decide +kernel)) (fun _ h9 => h9) rfl dX5_tryKey_103 ?_
        refine lv_aload_n hx hb dX5_tryKey_106 rfl (lv_at hl 2 rfl) ?_
        refine va_getN (D := G.1) (ci := 3) (v := .int lnum) (C := RX1) (T := TX1) (N := 4) hx hb hts iX1 hown hK.1 (va_P.pl hP hm) 0 rfl rfl 0 (by decide) (va_Nw.use rfl hK.2.2.2.2.2.2.2.2.2.2.2.1) (fun _ h9 => h9) rfl dX5_tryKey_107 ?_
        refine lv_iconst (v := 0) hx hb dX5_tryKey_110 (by decide) ?_
        have hPc := hP.sub (ws' := [(xh, .inr (5, [.int num, .int ses, .long rol, .int opn, .int 0, .int aws, .int oct, .int ksf, .int ou, .ref tu, .ref tk])), (tu, .inl (G.2 0, 21, .inl ut))]) [1, 2] rfl
        have hDc := hD.sub (ws' := [(xh, .inr (5, [.int num, .int ses, .long rol, .int opn, .int 0, .int aws, .int oct, .int ksf, .int ou, .ref tu, .ref tk])), (tu, .inl (G.2 0, 21, .inl ut))]) [1, 2] (by decide) rfl
        refine clq_v (wr := [(h0, .inr (7, [.ref xl, .ref xt, .ref xg, .ref xu, .ref xT, .ref xh, .int made, .long tim])), (tk, .inl (G.2 1, 21, .inr (.inl lk)))]) (va_runV (As := [.int lnum, .int 0]) (rest := []) ⟨hx, hb, hml, hown, hts⟩ (c_X3_setUsedTries l G xh tu tk _ num ses rol opn 0 aws oct ksf ou ut lnum 0) (cwV 2 hts gX5_tryKey_X3_setUsedTries rfl rfl rfl (by decide +kernel) ⟨Nat.le_of_ble_eq_true rfl, Nat.le_of_ble_eq_true rfl⟩) (pR_V hK hPc hDc (q0 := 0) rfl rfl) rfl rfl hl.1 rfl (lv_room (Nat.le_of_ble_eq_true rfl)) dX5_tryKey_111 ⟨Nat.le_of_ble_eq_true rfl, Nat.le_of_ble_eq_true rfl⟩) hP hD hS hA [1, 2] [0, 3] rfl rfl (by decide) (by decide) (fun u1 ez1 H locs hP hD hS => ?_)
        have hP : va_P G.1 vwCl ([(h0, .inr (7, [.ref xl, .ref xt, .ref xg, .ref xu, .ref xT, .ref xh, .int made, .long tim])), (tk, .inl (G.2 1, 21, .inr (.inl lk))), (xh, .inr (5, [.int num, .int ses, .long rol, .int opn, .int 0, .int aws, .int oct, .int ksf, .int ou, .ref tu, .ref tk])), (tu, .inl (G.2 0, 21, .inl u1))] ++ pl) H := hP
        have hD : va_D A ([(h0, .inr (7, [.ref xl, .ref xt, .ref xg, .ref xu, .ref xT, .ref xh, .int made, .long tim])), (tk, .inl (G.2 1, 21, .inr (.inl lk))), (xh, .inr (5, [.int num, .int ses, .long rol, .int opn, .int 0, .int aws, .int oct, .int ksf, .int ou, .ref tu, .ref tk])), (tu, .inl (G.2 0, 21, .inl u1))] ++ pl) := hD
        have hF := lz_e hF ez1
        refine lv_aload_n hx hb dX5_tryKey_114 rfl (lv_at hl 1 rfl) ?_
        refine va_get (D := G.1) (ci := 7) (v := .ref xh) (C := RX5) (T := TX5) (N := 8) hx hb hts iX5 hown hK.1 hP 0 rfl rfl 5 (by decide) (hts (.fieldLink RX5 45 "RightsSteps" "atHand" "LRightsSteps$Tester;") (by decide +kernel)) (fun _ h9 => h9) rfl dX5_tryKey_115 ?_
        refine lv_aload_n hx hb dX5_tryKey_118 rfl (lv_at hl 2 rfl) ?_
        refine va_getN (D := G.1) (ci := 3) (v := .int lnum) (C := RX1) (T := TX1) (N := 4) hx hb hts iX1 hown hK.1 (va_P.pl hP hm) 0 rfl rfl 0 (by decide) (va_Nw.use rfl hK.2.2.2.2.2.2.2.2.2.2.2.1) (fun _ h9 => h9) rfl dX5_tryKey_119 ?_
        refine lv_aload_n hx hb dX5_tryKey_122 rfl (lv_at hl 1 rfl) ?_
        refine va_get (D := G.1) (ci := 7) (v := .long tim) (C := RX5) (T := TX5) (N := 8) hx hb hts iX5 hown hK.1 hP 0 rfl rfl 7 (by decide) (hts (.fieldLink RX5 65 "RightsSteps" "time" "J") (by decide +kernel)) (fun _ h9 => h9) rfl dX5_tryKey_123 ?_
        refine lv_aload_n hx hb dX5_tryKey_126 rfl (lv_at hl 2 rfl) ?_
        refine va_getN (D := G.1) (ci := 3) (v := .long ldelay) (C := RX1) (T := TX1) (N := 4) hx hb hts iX1 hown hK.1 (va_P.pl hP hm) 0 rfl rfl 3 (by decide) (va_Nw.use rfl hK.2.2.2.2.2.2.2.2.2.2.2.2.2.1) (fun _ h9 => h9) rfl dX5_tryKey_127 ?_
        refine lv_ladd hx hb dX5_tryKey_130 ?_
        have hPc := hP.sub (ws' := [(xh, .inr (5, [.int num, .int ses, .long rol, .int opn, .int 0, .int aws, .int oct, .int ksf, .int ou, .ref tu, .ref tk])), (tk, .inl (G.2 1, 21, .inr (.inl lk)))]) [2, 1] rfl
        have hDc := hD.sub (ws' := [(xh, .inr (5, [.int num, .int ses, .long rol, .int opn, .int 0, .int aws, .int oct, .int ksf, .int ou, .ref tu, .ref tk])), (tk, .inl (G.2 1, 21, .inr (.inl lk)))]) [2, 1] (by decide) rfl
        refine clq_v (wr := [(h0, .inr (7, [.ref xl, .ref xt, .ref xg, .ref xu, .ref xT, .ref xh, .int made, .long tim])), (tu, .inl (G.2 0, 21, .inl u1))]) (va_runV (As := [.int lnum, .long (tim + ldelay)]) (rest := []) ⟨hx, hb, hml, hown, hts⟩ (c_X3_lock l G xh tk tu _ num ses rol opn 0 aws oct ksf ou lk lnum (tim + ldelay)) (cwV 2 hts gX5_tryKey_X3_lock rfl rfl rfl (by decide +kernel) ⟨Nat.le_of_ble_eq_true rfl, Nat.le_of_ble_eq_true rfl⟩) (pR_V hK hPc hDc (q0 := 0) rfl rfl) rfl rfl hl.1 rfl (lv_room (Nat.le_of_ble_eq_true rfl)) dX5_tryKey_131 ⟨Nat.le_of_ble_eq_true rfl, Nat.le_of_ble_eq_true rfl⟩) hP hD hS hA [2, 1] [0, 3] rfl rfl (by decide) (by decide) (fun u2 ez2 H locs hP hD hS => ?_)
        have hP : va_P G.1 vwCl ([(h0, .inr (7, [.ref xl, .ref xt, .ref xg, .ref xu, .ref xT, .ref xh, .int made, .long tim])), (tu, .inl (G.2 0, 21, .inl u1)), (xh, .inr (5, [.int num, .int ses, .long rol, .int opn, .int 0, .int aws, .int oct, .int ksf, .int ou, .ref tu, .ref tk])), (tk, .inl (G.2 1, 21, .inr (.inl u2)))] ++ pl) H := hP
        have hD : va_D A ([(h0, .inr (7, [.ref xl, .ref xt, .ref xg, .ref xu, .ref xT, .ref xh, .int made, .long tim])), (tu, .inl (G.2 0, 21, .inl u1)), (xh, .inr (5, [.int num, .int ses, .long rol, .int opn, .int 0, .int aws, .int oct, .int ksf, .int ou, .ref tu, .ref tk])), (tk, .inl (G.2 1, 21, .inr (.inl u2)))] ++ pl) := hD
        have hF := lz_e hF ez2
        refine lv_bipush (v := (-54)) hx hb dX5_tryKey_134 (by decide) ?_
        exact W.iret (v := (-54)) hx hb hr (fun t ht hW => ⟨⟨(-54), (opn, 0, u1, u2), rfl, hF.symm, by rw [ht]; exact hP.part [0, 2, 1, 3] rfl, hD.part [0, 2, 1, 3] (by decide) rfl⟩, hS.F ht⟩) hS.2.2 dX5_tryKey_136
      · have hF := if_f hF c_84
        refine lv_aload_n hx hb dX5_tryKey_87 rfl (lv_at hl 1 rfl) ?_
        refine va_get (D := G.1) (ci := 7) (v := .ref xh) (C := RX5) (T := TX5) (N := 8) hx hb hts iX5 hown hK.1 hP 0 rfl rfl 5 (by decide) (hts (.fieldLink RX5 45 "RightsSteps" "atHand" "LRightsSteps$Tester;") (by decide +kernel)) (fun _ h9 => h9) rfl dX5_tryKey_88 ?_
        refine lv_aload_n hx hb dX5_tryKey_91 rfl (lv_at hl 2 rfl) ?_
        refine va_getN (D := G.1) (ci := 3) (v := .int lnum) (C := RX1) (T := TX1) (N := 4) hx hb hts iX1 hown hK.1 (va_P.pl hP hm) 0 rfl rfl 0 (by decide) (va_Nw.use rfl hK.2.2.2.2.2.2.2.2.2.2.2.1) (fun _ h9 => h9) rfl dX5_tryKey_92 ?_
        refine lv_iload_n hx hb dX5_tryKey_95 rfl (lv_at hl 0 rfl) ?_
        have hPc := hP.sub (ws' := [(xh, .inr (5, [.int num, .int ses, .long rol, .int opn, .int 0, .int aws, .int oct, .int ksf, .int ou, .ref tu, .ref tk])), (tu, .inl (G.2 0, 21, .inl ut))]) [1, 2] rfl
        have hDc := hD.sub (ws' := [(xh, .inr (5, [.int num, .int ses, .long rol, .int opn, .int 0, .int aws, .int oct, .int ksf, .int ou, .ref tu, .ref tk])), (tu, .inl (G.2 0, 21, .inl ut))]) [1, 2] (by decide) rfl
        refine clq_v (wr := [(h0, .inr (7, [.ref xl, .ref xt, .ref xg, .ref xu, .ref xT, .ref xh, .int made, .long tim])), (tk, .inl (G.2 1, 21, .inr (.inl lk)))]) (va_runV (As := [.int lnum, .int ((F_X3_usedTries num ses rol opn 0 aws oct ksf ou ut lnum) + 1)]) (rest := []) ⟨hx, hb, hml, hown, hts⟩ (c_X3_setUsedTries l G xh tu tk _ num ses rol opn 0 aws oct ksf ou ut lnum ((F_X3_usedTries num ses rol opn 0 aws oct ksf ou ut lnum) + 1)) (cwV 2 hts gX5_tryKey_X3_setUsedTries rfl rfl rfl (by decide +kernel) ⟨Nat.le_of_ble_eq_true rfl, Nat.le_of_ble_eq_true rfl⟩) (pR_V hK hPc hDc (q0 := 0) rfl rfl) rfl rfl hl.1 rfl (lv_room (Nat.le_of_ble_eq_true rfl)) dX5_tryKey_96 ⟨Nat.le_of_ble_eq_true rfl, Nat.le_of_ble_eq_true rfl⟩) hP hD hS hA [1, 2] [0, 3] rfl rfl (by decide) (by decide) (fun u3 ez3 H locs hP hD hS => ?_)
        have hP : va_P G.1 vwCl ([(h0, .inr (7, [.ref xl, .ref xt, .ref xg, .ref xu, .ref xT, .ref xh, .int made, .long tim])), (tk, .inl (G.2 1, 21, .inr (.inl lk))), (xh, .inr (5, [.int num, .int ses, .long rol, .int opn, .int 0, .int aws, .int oct, .int ksf, .int ou, .ref tu, .ref tk])), (tu, .inl (G.2 0, 21, .inl u3))] ++ pl) H := hP
        have hD : va_D A ([(h0, .inr (7, [.ref xl, .ref xt, .ref xg, .ref xu, .ref xT, .ref xh, .int made, .long tim])), (tk, .inl (G.2 1, 21, .inr (.inl lk))), (xh, .inr (5, [.int num, .int ses, .long rol, .int opn, .int 0, .int aws, .int oct, .int ksf, .int ou, .ref tu, .ref tk])), (tu, .inl (G.2 0, 21, .inl u3))] ++ pl) := hD
        have hF := lz_e hF ez3
        refine lv_bipush (v := (-53)) hx hb dX5_tryKey_99 (by decide) ?_
        exact W.iret (v := (-53)) hx hb hr (fun t ht hW => ⟨⟨(-53), (opn, 0, u3, lk), rfl, hF.symm, by rw [ht]; exact hP.part [0, 2, 3, 1] rfl, hD.part [0, 2, 3, 1] (by decide) rfl⟩, hS.F ht⟩) hS.2.2 dX5_tryKey_101
    · have hF := if_t hF c_37
      refine lv_aload_n hx hb dX5_tryKey_40 rfl (lv_at hl 0 rfl) ?_
      refine va_get (D := G.1) (ci := 7) (v := .ref xh) (C := RX5) (T := TX5) (N := 8) hx hb hts iX5 hown hK.1 hP 0 rfl rfl 5 (by decide) (hts (.fieldLink RX5 45 "RightsSteps" "atHand" "LRightsSteps$Tester;") (by decide +kernel)) (fun _ h9 => h9) rfl dX5_tryKey_41 ?_
      refine lv_aload_n hx hb dX5_tryKey_44 rfl (lv_at hl 1 rfl) ?_
      refine va_getN (D := G.1) (ci := 3) (v := .int lnum) (C := RX1) (T := TX1) (N := 4) hx hb hts iX1 hown hK.1 (va_P.pl hP hm) 0 rfl rfl 0 (by decide) (va_Nw.use rfl hK.2.2.2.2.2.2.2.2.2.2.2.1) (fun _ h9 => h9) rfl dX5_tryKey_45 ?_
      refine va_putN (D := G.1) (ci := 5) (v := .int lnum) (ty := .int) (C := RX3) (T := TX3) (N := 11) hx hb hts iX3 tyX3 tyX3_ok nmX3 hown hK.1 hP hD hS 1 rfl rfl 3 (by decide) (va_Nw.use rfl hK.2.2.2.2.2.1) (fun _ h9 => h9) rfl (by decide +kernel) rfl rfl (Nat.le_of_ble_eq_true rfl) dX5_tryKey_48 (fun H locs hP hD hS => ?_)
      have hP : va_P G.1 vwCl ([(h0, .inr (7, [.ref xl, .ref xt, .ref xg, .ref xu, .ref xT, .ref xh, .int made, .long tim])), (xh, .inr (5, [.int num, .int ses, .long rol, .int lnum, .int 0, .int aws, .int oct, .int ksf, .int ou, .ref tu, .ref tk])), (tu, .inl (G.2 0, 21, .inl ut)), (tk, .inl (G.2 1, 21, .inr (.inl lk)))] ++ pl) H := hP
      have hD : va_D A ([(h0, .inr (7, [.ref xl, .ref xt, .ref xg, .ref xu, .ref xT, .ref xh, .int made, .long tim])), (xh, .inr (5, [.int num, .int ses, .long rol, .int lnum, .int 0, .int aws, .int oct, .int ksf, .int ou, .ref tu, .ref tk])), (tu, .inl (G.2 0, 21, .inl ut)), (tk, .inl (G.2 1, 21, .inr (.inl lk)))] ++ pl) := hD
      refine lv_aload_n hx hb dX5_tryKey_51 rfl (lv_at hl 0 rfl) ?_
      refine va_get (D := G.1) (ci := 7) (v := .ref xh) (C := RX5) (T := TX5) (N := 8) hx hb hts iX5 hown hK.1 hP 0 rfl rfl 5 (by decide) (hts (.fieldLink RX5 45 "RightsSteps" "atHand" "LRightsSteps$Tester;") (by decide +kernel)) (fun _ h9 => h9) rfl dX5_tryKey_52 ?_
      refine lv_aload_n hx hb dX5_tryKey_55 rfl (lv_at hl 1 rfl) ?_
      refine va_getN (D := G.1) (ci := 3) (v := .int lnum) (C := RX1) (T := TX1) (N := 4) hx hb hts iX1 hown hK.1 (va_P.pl hP hm) 0 rfl rfl 0 (by decide) (va_Nw.use rfl hK.2.2.2.2.2.2.2.2.2.2.2.1) (fun _ h9 => h9) rfl dX5_tryKey_56 ?_
      refine lv_iconst (v := 0) hx hb dX5_tryKey_59 (by decide) ?_
      have hPc := hP.sub (ws' := [(xh, .inr (5, [.int num, .int ses, .long rol, .int lnum, .int 0, .int aws, .int oct, .int ksf, .int ou, .ref tu, .ref tk])), (tu, .inl (G.2 0, 21, .inl ut))]) [1, 2] rfl
      have hDc := hD.sub (ws' := [(xh, .inr (5, [.int num, .int ses, .long rol, .int lnum, .int 0, .int aws, .int oct, .int ksf, .int ou, .ref tu, .ref tk])), (tu, .inl (G.2 0, 21, .inl ut))]) [1, 2] (by decide) rfl
      refine clq_v (wr := [(h0, .inr (7, [.ref xl, .ref xt, .ref xg, .ref xu, .ref xT, .ref xh, .int made, .long tim])), (tk, .inl (G.2 1, 21, .inr (.inl lk)))]) (va_runV (As := [.int lnum, .int 0]) (rest := []) ⟨hx, hb, hml, hown, hts⟩ (c_X3_setUsedTries l G xh tu tk _ num ses rol lnum 0 aws oct ksf ou ut lnum 0) (cwV 2 hts gX5_tryKey_X3_setUsedTries rfl rfl rfl (by decide +kernel) ⟨Nat.le_of_ble_eq_true rfl, Nat.le_of_ble_eq_true rfl⟩) (pR_V hK hPc hDc (q0 := 0) rfl rfl) rfl rfl hl.1 rfl (lv_room (Nat.le_of_ble_eq_true rfl)) dX5_tryKey_60 ⟨Nat.le_of_ble_eq_true rfl, Nat.le_of_ble_eq_true rfl⟩) hP hD hS hA [1, 2] [0, 3] rfl rfl (by decide) (by decide) (fun u4 ez4 H locs hP hD hS => ?_)
      have hP : va_P G.1 vwCl ([(h0, .inr (7, [.ref xl, .ref xt, .ref xg, .ref xu, .ref xT, .ref xh, .int made, .long tim])), (tk, .inl (G.2 1, 21, .inr (.inl lk))), (xh, .inr (5, [.int num, .int ses, .long rol, .int lnum, .int 0, .int aws, .int oct, .int ksf, .int ou, .ref tu, .ref tk])), (tu, .inl (G.2 0, 21, .inl u4))] ++ pl) H := hP
      have hD : va_D A ([(h0, .inr (7, [.ref xl, .ref xt, .ref xg, .ref xu, .ref xT, .ref xh, .int made, .long tim])), (tk, .inl (G.2 1, 21, .inr (.inl lk))), (xh, .inr (5, [.int num, .int ses, .long rol, .int lnum, .int 0, .int aws, .int oct, .int ksf, .int ou, .ref tu, .ref tk])), (tu, .inl (G.2 0, 21, .inl u4))] ++ pl) := hD
      have hF := lz_e hF ez4
      refine lv_iconst (v := 1) hx hb dX5_tryKey_63 (by decide) ?_
      exact W.iret (v := 1) hx hb hr (fun t ht hW => ⟨⟨1, (lnum, 0, u4, lk), rfl, hF.symm, by rw [ht]; exact hP.part [0, 2, 3, 1] rfl, hD.part [0, 2, 3, 1] (by decide) rfl⟩, hS.F ht⟩) hS.2.2 dX5_tryKey_64
  · have hF := if_f hF c_11
    refine lv_bipush (v := (-36)) hx hb dX5_tryKey_14 (by decide) ?_
    exact W.iret (v := (-36)) hx hb hr (fun t ht hW => ⟨⟨(-36), (opn, awl, ut, lk), rfl, hF.symm, by rw [ht]; exact hP.part [0, 1, 2, 3] rfl, hD.part [0, 1, 2, 3] (by decide) rfl⟩, hS.F ht⟩) hS.2.2 dX5_tryKey_16

def F_X5_seed (made : Int32) (tim : Int64) (lv : Nat → Option Nat) (num : Int32) (ses : Int32) (rol : Int64) (opn : Int32) (awl : Int32) (aws : Int32) (oct : Int32) (ksf : Int32) (ou : Int32) (lk : Nat → Int64) (first : Int32) (size : Int32) (nums : Nat → Int32) (gsz : Int32) (seeds : Nat → Int32) (kept : Int32) (cnt : Int32) (prt : Nat → Int32) (kd : Nat → Int32) (tr : Nat → Int32) (dl : Nat → Int64) (p1 : Int32) (p2 : Int64) : Int32 × Int64 × Int32 × Int32 × Int32 × Int32 × Int32 × Int32 × (Nat → Int32) × Int32 × Int32 × (Nat → Int32) :=
  (oc (F_X5_madeLevel made tim lv p1) ((-1), (tim, awl, aws, ou, first, size, gsz, seeds, kept, cnt, prt)) (fun y5 => (if (lg_cmp p2 tim) < 0 then ((-2), (tim, awl, aws, ou, first, size, gsz, seeds, kept, cnt, prt)) else (if (lg_cmp p2 1152921504606846976) ≤ 0 then (lz2 (F_X5_askForSeed made p2 num ses rol opn awl aws oct ksf ou lk first size nums gsz seeds p1 (kd p1.toNatClampNeg) (tr p1.toNatClampNeg) (dl p1.toNatClampNeg)) (fun r1 u1 => (lz (F_X4_add kept cnt prt num p1 r1) (fun u2 => (r1, (p2, u1.1, u1.2.1, u1.2.2.1, u1.2.2.2.1, u1.2.2.2.2.1, u1.2.2.2.2.2.1, u1.2.2.2.2.2.2, u2.1, u2.2.1, u2.2.2)))))) else ((-2), (tim, awl, aws, ou, first, size, gsz, seeds, kept, cnt, prt))))))
set_option maxHeartbeats 4000000 in
set_option maxRecDepth 100000 in
theorem c_X5_seed (l : Launch) (G : gG) (h0 xl xh tk xt xn xg xs xu xp xT tu : Nat) (sz : Nat) (made : Int32) (tim : Int64) (lv : Nat → Option Nat) (num : Int32) (ses : Int32) (rol : Int64) (opn : Int32) (awl : Int32) (aws : Int32) (oct : Int32) (ksf : Int32) (ou : Int32) (lk : Nat → Int64) (first : Int32) (size : Int32) (nums : Nat → Int32) (gsz : Int32) (seeds : Nat → Int32) (kept : Int32) (cnt : Int32) (prt : Nat → Int32) (kd : Nat → Int32) (tr : Nat → Int32) (dl : Nat → Int64) (p1 : Int32) (p2 : Int64) (pl : va_W) (hLV : LV lv kd tr dl pl) (hf : vp_in first 201) (hz : vp_in size 201) (hg : ¬ gsz < 0) (hk : vp_in kept 301) : Met l yX5_seed wsX5_seed ({ frames := 3, cells := 0, slots := 0, locals := 67 }) (va_Pc [.ref h0, .int p1, .long p2] (pR G ([(h0, .inr (7, [.ref xl, .ref xt, .ref xg, .ref xu, .ref xT, .ref xh, .int made, .long tim])), (xl, .inl (G.2 3, 21, .inr (.inr (.inr (.inr lv))))), (xh, .inr (5, [.int num, .int ses, .long rol, .int opn, .int awl, .int aws, .int oct, .int ksf, .int ou, .ref tu, .ref tk])), (tk, .inl (G.2 1, 21, .inr (.inl lk))), (xt, .inr (4, [.ref xn, .int first, .int size])), (xn, .inl (G.2 0, 200, .inl nums)), (xg, .inr (2, [.ref xs, .int gsz])), (xs, .inl (G.2 0, 256, .inl seeds)), (xu, .inr (6, [.ref xp, .int kept, .int cnt])), (xp, .inl (G.2 0, 900, .inl prt))] ++ pl) sz)) (va_Qi (fun (r : Int32) (u : Int64 × Int32 × Int32 × Int32 × Int32 × Int32 × Int32 × (Nat → Int32) × Int32 × Int32 × (Nat → Int32)) => (r, u) = F_X5_seed made tim lv num ses rol opn awl aws oct ksf ou lk first size nums gsz seeds kept cnt prt kd tr dl p1 p2) (fun u t => pO G ([(h0, .inr (7, [.ref xl, .ref xt, .ref xg, .ref xu, .ref xT, .ref xh, .int made, .long u.1])), (xl, .inl (G.2 3, 21, .inr (.inr (.inr (.inr lv))))), (xh, .inr (5, [.int num, .int ses, .long rol, .int opn, .int u.2.1, .int u.2.2.1, .int oct, .int ksf, .int u.2.2.2.1, .ref tu, .ref tk])), (tk, .inl (G.2 1, 21, .inr (.inl lk))), (xt, .inr (4, [.ref xn, .int u.2.2.2.2.1, .int u.2.2.2.2.2.1])), (xn, .inl (G.2 0, 200, .inl nums)), (xg, .inr (2, [.ref xs, .int u.2.2.2.2.2.2.1])), (xs, .inl (G.2 0, 256, .inl u.2.2.2.2.2.2.2.1)), (xu, .inr (6, [.ref xp, .int u.2.2.2.2.2.2.2.2.1, .int u.2.2.2.2.2.2.2.2.2.1])), (xp, .inl (G.2 0, 900, .inl u.2.2.2.2.2.2.2.2.2.2))] ++ pl) (va_A ([(h0, .inr (7, [.ref xl, .ref xt, .ref xg, .ref xu, .ref xT, .ref xh, .int made, .long tim])), (xl, .inl (G.2 3, 21, .inr (.inr (.inr (.inr lv))))), (xh, .inr (5, [.int num, .int ses, .long rol, .int opn, .int awl, .int aws, .int oct, .int ksf, .int ou, .ref tu, .ref tk])), (tk, .inl (G.2 1, 21, .inr (.inl lk))), (xt, .inr (4, [.ref xn, .int first, .int size])), (xn, .inl (G.2 0, 200, .inl nums)), (xg, .inr (2, [.ref xs, .int gsz])), (xs, .inl (G.2 0, 256, .inl seeds)), (xu, .inr (6, [.ref xp, .int kept, .int cnt])), (xp, .inl (G.2 0, 900, .inl prt))] ++ pl) sz) t) (va_A ([(h0, .inr (7, [.ref xl, .ref xt, .ref xg, .ref xu, .ref xT, .ref xh, .int made, .long tim])), (xl, .inl (G.2 3, 21, .inr (.inr (.inr (.inr lv))))), (xh, .inr (5, [.int num, .int ses, .long rol, .int opn, .int awl, .int aws, .int oct, .int ksf, .int ou, .ref tu, .ref tk])), (tk, .inl (G.2 1, 21, .inr (.inl lk))), (xt, .inr (4, [.ref xn, .int first, .int size])), (xn, .inl (G.2 0, 200, .inl nums)), (xg, .inr (2, [.ref xs, .int gsz])), (xs, .inl (G.2 0, 256, .inl seeds)), (xu, .inr (6, [.ref xp, .int kept, .int cnt])), (xp, .inl (G.2 0, 900, .inl prt))] ++ pl) sz)) 0 0 (va_A ([(h0, .inr (7, [.ref xl, .ref xt, .ref xg, .ref xu, .ref xT, .ref xh, .int made, .long tim])), (xl, .inl (G.2 3, 21, .inr (.inr (.inr (.inr lv))))), (xh, .inr (5, [.int num, .int ses, .long rol, .int opn, .int awl, .int aws, .int oct, .int ksf, .int ou, .ref tu, .ref tk])), (tk, .inl (G.2 1, 21, .inr (.inl lk))), (xt, .inr (4, [.ref xn, .int first, .int size])), (xn, .inl (G.2 0, 200, .inl nums)), (xg, .inr (2, [.ref xs, .int gsz])), (xs, .inl (G.2 0, 256, .inl seeds)), (xu, .inr (6, [.ref xp, .int kept, .int cnt])), (xp, .inl (G.2 0, 900, .inl prt))] ++ pl) sz) := by
  refine Met.ofW (cc := cX5_seed) (maxL := 6) (ret := (some .int)) (by decide) rfl ?_
  intro p e s m args below meth c s₁ B hml hv
  obtain ⟨rfl, hsz, hP, hK, hD0⟩ := hv
  have hx := B.exec
  have hb := B.bytes
  have hr := B.returns
  have hts := atoms_spec (ws := wsX5_seed) B.pre
  have hown : s.vm.findClass RX5 = some m.cls := findClass_of_methodNamed B.named
  have hlocks := B.notSynchronized
  subst hsz
  have iX3 : ∀ w ∈ wsX30, w ∈ wsX5_seed := by decide +kernel
  have iX5 : ∀ w ∈ wsX50, w ∈ wsX5_seed := by decide +kernel
  have hD := hD0.self (sz := s.heap.size)
  generalize hAe : va_A ([(h0, .inr (7, [.ref xl, .ref xt, .ref xg, .ref xu, .ref xT, .ref xh, .int made, .long tim])), (xl, .inl (G.2 3, 21, .inr (.inr (.inr (.inr lv))))), (xh, .inr (5, [.int num, .int ses, .long rol, .int opn, .int awl, .int aws, .int oct, .int ksf, .int ou, .ref tu, .ref tk])), (tk, .inl (G.2 1, 21, .inr (.inl lk))), (xt, .inr (4, [.ref xn, .int first, .int size])), (xn, .inl (G.2 0, 200, .inl nums)), (xg, .inr (2, [.ref xs, .int gsz])), (xs, .inl (G.2 0, 256, .inl seeds)), (xu, .inr (6, [.ref xp, .int kept, .int cnt])), (xp, .inl (G.2 0, 900, .inl prt))] ++ pl) s.heap.size = A at hD ⊢
  have hA : ∀ q : Nat, s.heap.size ≤ q → A q := fun q h => by rw [← hAe]; exact Or.inr h
  have hS : va_S A s.heap s.heap [] := va_S.rf
  have hP : va_P G.1 vwCl ([(h0, .inr (7, [.ref xl, .ref xt, .ref xg, .ref xu, .ref xT, .ref xh, .int made, .long tim])), (xl, .inl (G.2 3, 21, .inr (.inr (.inr (.inr lv))))), (xh, .inr (5, [.int num, .int ses, .long rol, .int opn, .int awl, .int aws, .int oct, .int ksf, .int ou, .ref tu, .ref tk])), (tk, .inl (G.2 1, 21, .inr (.inl lk))), (xt, .inr (4, [.ref xn, .int first, .int size])), (xn, .inl (G.2 0, 200, .inl nums)), (xg, .inr (2, [.ref xs, .int gsz])), (xs, .inl (G.2 0, 256, .inl seeds)), (xu, .inr (6, [.ref xp, .int kept, .int cnt])), (xp, .inl (G.2 0, 900, .inl prt))] ++ pl) s.heap := hP
  have hl := lv_entry ([.ref h0, .int p1, .long p2]) (n := 6) (Nat.le_of_ble_eq_true rfl)
  rw [lg_entry_eq]
  generalize (lg_sl ([.ref h0, .int p1, .long p2]) ++ List.replicate (6 - (lg_sl ([.ref h0, .int p1, .long p2])).length) Slot.unset).toArray = ls at hl ⊢
  have hl : lv_has ls 6 [(0, .ref h0), (1, .int p1), (2, .long p2)] := hl
  have hF : F_X5_seed made tim lv num ses rol opn awl aws oct ksf ou lk first size nums gsz seeds kept cnt prt kd tr dl p1 p2 = F_X5_seed made tim lv num ses rol opn awl aws oct ksf ou lk first size nums gsz seeds kept cnt prt kd tr dl p1 p2 := rfl
  refine lv_aload_n hx hb dX5_seed_0 rfl (lv_at hl 0 rfl) ?_
  refine lv_iload_n hx hb dX5_seed_1 rfl (lv_at hl 1 rfl) ?_
  have hPc := hP.sub (ws' := [(h0, .inr (7, [.ref xl, .ref xt, .ref xg, .ref xu, .ref xT, .ref xh, .int made, .long tim])), (xl, .inl (G.2 3, 21, .inr (.inr (.inr (.inr lv)))))]) [0, 1] rfl
  have hDc := hD.sub (ws' := [(h0, .inr (7, [.ref xl, .ref xt, .ref xg, .ref xu, .ref xT, .ref xh, .int made, .long tim])), (xl, .inl (G.2 3, 21, .inr (.inr (.inr (.inr lv)))))]) [0, 1] (by decide) rfl
  refine pu_call (va_runV (As := [.int p1]) (rest := []) ⟨hx, hb, hml, hown, hts⟩ (c_X5_madeLevel l G h0 xl xt xg xu xT xh _ made tim lv p1) (cwV 1 hts gX5_seed_X5_madeLevel rfl rfl rfl (by decide +kernel) ⟨Nat.le_of_ble_eq_true rfl, Nat.le_of_ble_eq_true rfl⟩) (pR_V hK hPc hDc (q0 := 0) rfl rfl) rfl rfl hl.1 rfl (lv_room (Nat.le_of_ble_eq_true rfl)) dX5_seed_2 ⟨Nat.le_of_ble_eq_true rfl, Nat.le_of_ble_eq_true rfl⟩) ?_
  rcases hQ_5 : (F_X5_madeLevel made tim lv p1) with _ | y5
  · have hF := oc_n hF hQ_5
    refine lv_astoreN (lv' := [(4, .null), (0, .ref h0), (1, .int p1), (2, .long p2)]) hx hb dX5_seed_5 hl (by decide) rfl (fun ls hl => ?_)
    refine lv_aloadN hx hb dX5_seed_7 (lv_at hl 0 rfl) ?_
    refine lv_ifnonnullN hx hb dX5_seed_9 ?_
    refine lv_iconst (v := (-1)) hx hb dX5_seed_12 (by decide) ?_
    exact W.iret (v := (-1)) hx hb hr (fun t ht hW => ⟨⟨(-1), (tim, awl, aws, ou, first, size, gsz, seeds, kept, cnt, prt), rfl, hF.symm, by rw [ht]; exact hP.part [0, 1, 2, 3, 4, 5, 6, 7, 8, 9] rfl, hD.part [0, 1, 2, 3, 4, 5, 6, 7, 8, 9] (by decide) rfl⟩, hS.F ht⟩) hS.2.2 dX5_seed_13
  · have hF := oc_s hF hQ_5
    have hm := mk_some hLV hQ_5
    refine lv_astore (lv' := [(4, .ref y5), (0, .ref h0), (1, .int p1), (2, .long p2)]) hx hb dX5_seed_5 hl (by decide) rfl (fun ls hl => ?_)
    refine lv_aload hx hb dX5_seed_7 (lv_at hl 0 rfl) ?_
    refine lv_ifnonnull (tgt := 14) hx hb dX5_seed_9 (by decide) ?_
    refine lv_lload_n hx hb dX5_seed_14 rfl (lv_at hl 3 rfl) ?_
    refine lv_aload_n hx hb dX5_seed_15 rfl (lv_at hl 1 rfl) ?_
    refine va_get (D := G.1) (ci := 7) (v := .long tim) (C := RX5) (T := TX5) (N := 8) hx hb hts iX5 hown hK.1 hP 0 rfl rfl 7 (by decide) (hts (.fieldLink RX5 65 "RightsSteps" "time" "J") (by decide +kernel)) (fun _ h9 => h9) rfl dX5_seed_16 ?_
    refine W.lcmp hx hb dX5_seed_19 ?_
    refine lv_if_lt (tgt := 31) hx hb dX5_seed_20 (by decide) (fun c_20 => ?_) (fun c_20 => ?_)
    · have hF := if_t hF c_20
      refine lv_bipush (v := (-2)) hx hb dX5_seed_31 (by decide) ?_
      exact W.iret (v := (-2)) hx hb hr (fun t ht hW => ⟨⟨(-2), (tim, awl, aws, ou, first, size, gsz, seeds, kept, cnt, prt), rfl, hF.symm, by rw [ht]; exact hP.part [0, 1, 2, 3, 4, 5, 6, 7, 8, 9] rfl, hD.part [0, 1, 2, 3, 4, 5, 6, 7, 8, 9] (by decide) rfl⟩, hS.F ht⟩) hS.2.2 dX5_seed_33
    · have hF := if_f hF c_20
      refine lv_lload_n hx hb dX5_seed_23 rfl (lv_at hl 3 rfl) ?_
      refine lv_ldc2 (v := 1152921504606846976) hx hb hown (hts (.constantLong RX5 69 (1152921504606846976)) (by decide +kernel)) dX5_seed_24 ?_
      refine W.lcmp hx hb dX5_seed_27 ?_
      refine lv_if_le (tgt := 34) hx hb dX5_seed_28 (by decide) (fun c_28 => ?_) (fun c_28 => ?_)
      · have hF := if_t hF c_28
        refine lv_aload_n hx hb dX5_seed_34 rfl (lv_at hl 1 rfl) ?_
        refine lv_lload_n hx hb dX5_seed_35 rfl (lv_at hl 3 rfl) ?_
        refine va_put (D := G.1) (ci := 7) (v := .long p2) (ty := .long) (C := RX5) (T := TX5) (N := 8) hx hb hts iX5 tyX5 tyX5_ok nmX5 hown hK.1 hP hD hS 0 rfl rfl 7 (by decide) (hts (.fieldLink RX5 65 "RightsSteps" "time" "J") (by decide +kernel)) (fun _ h9 => h9) rfl (by decide +kernel) rfl rfl (Nat.le_of_ble_eq_true rfl) dX5_seed_36 (fun H locs hP hD hS => ?_)
        have hP : va_P G.1 vwCl ([(h0, .inr (7, [.ref xl, .ref xt, .ref xg, .ref xu, .ref xT, .ref xh, .int made, .long p2])), (xl, .inl (G.2 3, 21, .inr (.inr (.inr (.inr lv))))), (xh, .inr (5, [.int num, .int ses, .long rol, .int opn, .int awl, .int aws, .int oct, .int ksf, .int ou, .ref tu, .ref tk])), (tk, .inl (G.2 1, 21, .inr (.inl lk))), (xt, .inr (4, [.ref xn, .int first, .int size])), (xn, .inl (G.2 0, 200, .inl nums)), (xg, .inr (2, [.ref xs, .int gsz])), (xs, .inl (G.2 0, 256, .inl seeds)), (xu, .inr (6, [.ref xp, .int kept, .int cnt])), (xp, .inl (G.2 0, 900, .inl prt))] ++ pl) H := hP
        have hD : va_D A ([(h0, .inr (7, [.ref xl, .ref xt, .ref xg, .ref xu, .ref xT, .ref xh, .int made, .long p2])), (xl, .inl (G.2 3, 21, .inr (.inr (.inr (.inr lv))))), (xh, .inr (5, [.int num, .int ses, .long rol, .int opn, .int awl, .int aws, .int oct, .int ksf, .int ou, .ref tu, .ref tk])), (tk, .inl (G.2 1, 21, .inr (.inl lk))), (xt, .inr (4, [.ref xn, .int first, .int size])), (xn, .inl (G.2 0, 200, .inl nums)), (xg, .inr (2, [.ref xs, .int gsz])), (xs, .inl (G.2 0, 256, .inl seeds)), (xu, .inr (6, [.ref xp, .int kept, .int cnt])), (xp, .inl (G.2 0, 900, .inl prt))] ++ pl) := hD
        refine lv_aload_n hx hb dX5_seed_39 rfl (lv_at hl 1 rfl) ?_
        refine lv_aload hx hb dX5_seed_40 (lv_at hl 0 rfl) ?_
        have hPc := hP.part (cx := [(h0, .inr (7, [.ref xl, .ref xt, .ref xg, .ref xu, .ref xT, .ref xh, .int made, .long p2])), (xh, .inr (5, [.int num, .int ses, .long rol, .int opn, .int awl, .int aws, .int oct, .int ksf, .int ou, .ref tu, .ref tk])), (tk, .inl (G.2 1, 21, .inr (.inl lk))), (xt, .inr (4, [.ref xn, .int first, .int size])), (xn, .inl (G.2 0, 200, .inl nums)), (xg, .inr (2, [.ref xs, .int gsz])), (xs, .inl (G.2 0, 256, .inl seeds))]) [0, 2, 3, 4, 5, 6, 7] rfl
        have hDc := hD.part (cx := [(h0, .inr (7, [.ref xl, .ref xt, .ref xg, .ref xu, .ref xT, .ref xh, .int made, .long p2])), (xh, .inr (5, [.int num, .int ses, .long rol, .int opn, .int awl, .int aws, .int oct, .int ksf, .int ou, .ref tu, .ref tk])), (tk, .inl (G.2 1, 21, .inr (.inl lk))), (xt, .inr (4, [.ref xn, .int first, .int size])), (xn, .inl (G.2 0, 200, .inl nums)), (xg, .inr (2, [.ref xs, .int gsz])), (xs, .inl (G.2 0, 256, .inl seeds))]) [0, 2, 3, 4, 5, 6, 7] (by decide) rfl
        refine clp_i (wr := [(xl, .inl (G.2 3, 21, .inr (.inr (.inr (.inr lv))))), (xu, .inr (6, [.ref xp, .int kept, .int cnt])), (xp, .inl (G.2 0, 900, .inl prt))]) (va_runV (As := [.ref y5]) (rest := []) ⟨hx, hb, hml, hown, hts⟩ (c_X5_askForSeed l G h0 xh tk xt xn xg xs xl xu xT tu y5 _ made p2 num ses rol opn awl aws oct ksf ou lk first size nums gsz seeds p1 (kd p1.toNatClampNeg) (tr p1.toNatClampNeg) (dl p1.toNatClampNeg) pl hm hf hz hg) (cwV 1 hts gX5_seed_X5_askForSeed rfl rfl rfl (by decide +kernel) ⟨Nat.le_of_ble_eq_true rfl, Nat.le_of_ble_eq_true rfl⟩) (pR_V hK hPc hDc (q0 := 0) rfl rfl) rfl rfl hl.1 rfl (lv_room (Nat.le_of_ble_eq_true rfl)) dX5_seed_42 ⟨Nat.le_of_ble_eq_true rfl, Nat.le_of_ble_eq_true rfl⟩) hP hD hS hA [0, 2, 3, 4, 5, 6, 7] [1, 8, 9] rfl rfl (by decide) (by decide) (fun r1 u1 ez1 H locs hP hD hS => ?_)
        have hP : va_P G.1 vwCl ([(xl, .inl (G.2 3, 21, .inr (.inr (.inr (.inr lv))))), (xu, .inr (6, [.ref xp, .int kept, .int cnt])), (xp, .inl (G.2 0, 900, .inl prt)), (h0, .inr (7, [.ref xl, .ref xt, .ref xg, .ref xu, .ref xT, .ref xh, .int made, .long p2])), (xh, .inr (5, [.int num, .int ses, .long rol, .int opn, .int u1.1, .int u1.2.1, .int oct, .int ksf, .int u1.2.2.1, .ref tu, .ref tk])), (tk, .inl (G.2 1, 21, .inr (.inl lk))), (xt, .inr (4, [.ref xn, .int u1.2.2.2.1, .int u1.2.2.2.2.1])), (xn, .inl (G.2 0, 200, .inl nums)), (xg, .inr (2, [.ref xs, .int u1.2.2.2.2.2.1])), (xs, .inl (G.2 0, 256, .inl u1.2.2.2.2.2.2))] ++ pl) H := hP
        have hD : va_D A ([(xl, .inl (G.2 3, 21, .inr (.inr (.inr (.inr lv))))), (xu, .inr (6, [.ref xp, .int kept, .int cnt])), (xp, .inl (G.2 0, 900, .inl prt)), (h0, .inr (7, [.ref xl, .ref xt, .ref xg, .ref xu, .ref xT, .ref xh, .int made, .long p2])), (xh, .inr (5, [.int num, .int ses, .long rol, .int opn, .int u1.1, .int u1.2.1, .int oct, .int ksf, .int u1.2.2.1, .ref tu, .ref tk])), (tk, .inl (G.2 1, 21, .inr (.inl lk))), (xt, .inr (4, [.ref xn, .int u1.2.2.2.1, .int u1.2.2.2.2.1])), (xn, .inl (G.2 0, 200, .inl nums)), (xg, .inr (2, [.ref xs, .int u1.2.2.2.2.2.1])), (xs, .inl (G.2 0, 256, .inl u1.2.2.2.2.2.2))] ++ pl) := hD
        have hF := lz2_e hF ez1
        refine lv_istore (lv' := [(5, .int r1), (4, .ref y5), (0, .ref h0), (1, .int p1), (2, .long p2)]) hx hb dX5_seed_45 hl (by decide) rfl (fun ls hl => ?_)
        refine lv_aload_n hx hb dX5_seed_47 rfl (lv_at hl 2 rfl) ?_
        refine va_get (D := G.1) (ci := 7) (v := .ref xu) (C := RX5) (T := TX5) (N := 8) hx hb hts iX5 hown hK.1 hP 3 rfl rfl 3 (by decide) (hts (.fieldLink RX5 32 "RightsSteps" "uses" "LRightsSteps$UseLog;") (by decide +kernel)) (fun _ h9 => h9) rfl dX5_seed_48 ?_
        refine lv_aload_n hx hb dX5_seed_51 rfl (lv_at hl 2 rfl) ?_
        refine va_get (D := G.1) (ci := 7) (v := .ref xh) (C := RX5) (T := TX5) (N := 8) hx hb hts iX5 hown hK.1 hP 3 rfl rfl 5 (by decide) (hts (.fieldLink RX5 45 "RightsSteps" "atHand" "LRightsSteps$Tester;") (by decide +kernel)) (fun _ h9 => h9) rfl dX5_seed_52 ?_
        refine va_getN (D := G.1) (ci := 5) (v := .int num) (C := RX3) (T := TX3) (N := 11) hx hb hts iX3 hown hK.1 hP 4 rfl rfl 0 (by decide) (va_Nw.use rfl hK.2.2.1) (fun _ h9 => h9) rfl dX5_seed_55 ?_
        refine lv_iload_n hx hb dX5_seed_58 rfl (lv_at hl 3 rfl) ?_
        refine lv_iload hx hb dX5_seed_59 (lv_at hl 0 rfl) ?_
        have hPc := hP.sub (ws' := [(xu, .inr (6, [.ref xp, .int kept, .int cnt])), (xp, .inl (G.2 0, 900, .inl prt))]) [1, 2] rfl
        have hDc := hD.sub (ws' := [(xu, .inr (6, [.ref xp, .int kept, .int cnt])), (xp, .inl (G.2 0, 900, .inl prt))]) [1, 2] (by decide) rfl
        refine clq_v (wr := [(xl, .inl (G.2 3, 21, .inr (.inr (.inr (.inr lv))))), (h0, .inr (7, [.ref xl, .ref xt, .ref xg, .ref xu, .ref xT, .ref xh, .int made, .long p2])), (xh, .inr (5, [.int num, .int ses, .long rol, .int opn, .int u1.1, .int u1.2.1, .int oct, .int ksf, .int u1.2.2.1, .ref tu, .ref tk])), (tk, .inl (G.2 1, 21, .inr (.inl lk))), (xt, .inr (4, [.ref xn, .int u1.2.2.2.1, .int u1.2.2.2.2.1])), (xn, .inl (G.2 0, 200, .inl nums)), (xg, .inr (2, [.ref xs, .int u1.2.2.2.2.2.1])), (xs, .inl (G.2 0, 256, .inl u1.2.2.2.2.2.2))]) (va_runV (As := [.int num, .int p1, .int r1]) (rest := []) ⟨hx, hb, hml, hown, hts⟩ (c_X4_add l G xu xp _ kept cnt prt num p1 r1 hk) (cwV 3 hts gX5_seed_X4_add rfl rfl rfl (by decide +kernel) ⟨Nat.le_of_ble_eq_true rfl, Nat.le_of_ble_eq_true rfl⟩) (pR_V hK hPc hDc (q0 := 0) rfl rfl) rfl rfl hl.1 rfl (lv_room (Nat.le_of_ble_eq_true rfl)) dX5_seed_61 ⟨Nat.le_of_ble_eq_true rfl, Nat.le_of_ble_eq_true rfl⟩) hP hD hS hA [1, 2] [0, 3, 4, 5, 6, 7, 8, 9] rfl rfl (by decide) (by decide) (fun u2 ez2 H locs hP hD hS => ?_)
        have hP : va_P G.1 vwCl ([(xl, .inl (G.2 3, 21, .inr (.inr (.inr (.inr lv))))), (h0, .inr (7, [.ref xl, .ref xt, .ref xg, .ref xu, .ref xT, .ref xh, .int made, .long p2])), (xh, .inr (5, [.int num, .int ses, .long rol, .int opn, .int u1.1, .int u1.2.1, .int oct, .int ksf, .int u1.2.2.1, .ref tu, .ref tk])), (tk, .inl (G.2 1, 21, .inr (.inl lk))), (xt, .inr (4, [.ref xn, .int u1.2.2.2.1, .int u1.2.2.2.2.1])), (xn, .inl (G.2 0, 200, .inl nums)), (xg, .inr (2, [.ref xs, .int u1.2.2.2.2.2.1])), (xs, .inl (G.2 0, 256, .inl u1.2.2.2.2.2.2)), (xu, .inr (6, [.ref xp, .int u2.1, .int u2.2.1])), (xp, .inl (G.2 0, 900, .inl u2.2.2))] ++ pl) H := hP
        have hD : va_D A ([(xl, .inl (G.2 3, 21, .inr (.inr (.inr (.inr lv))))), (h0, .inr (7, [.ref xl, .ref xt, .ref xg, .ref xu, .ref xT, .ref xh, .int made, .long p2])), (xh, .inr (5, [.int num, .int ses, .long rol, .int opn, .int u1.1, .int u1.2.1, .int oct, .int ksf, .int u1.2.2.1, .ref tu, .ref tk])), (tk, .inl (G.2 1, 21, .inr (.inl lk))), (xt, .inr (4, [.ref xn, .int u1.2.2.2.1, .int u1.2.2.2.2.1])), (xn, .inl (G.2 0, 200, .inl nums)), (xg, .inr (2, [.ref xs, .int u1.2.2.2.2.2.1])), (xs, .inl (G.2 0, 256, .inl u1.2.2.2.2.2.2)), (xu, .inr (6, [.ref xp, .int u2.1, .int u2.2.1])), (xp, .inl (G.2 0, 900, .inl u2.2.2))] ++ pl) := hD
        have hF := lz_e hF ez2
        refine lv_iload hx hb dX5_seed_64 (lv_at hl 0 rfl) ?_
        exact W.iret (v := r1) hx hb hr (fun t ht hW => ⟨⟨r1, (p2, u1.1, u1.2.1, u1.2.2.1, u1.2.2.2.1, u1.2.2.2.2.1, u1.2.2.2.2.2.1, u1.2.2.2.2.2.2, u2.1, u2.2.1, u2.2.2), rfl, hF.symm, by rw [ht]; exact hP.part [1, 0, 2, 3, 4, 5, 6, 7, 8, 9] rfl, hD.part [1, 0, 2, 3, 4, 5, 6, 7, 8, 9] (by decide) rfl⟩, hS.F ht⟩) hS.2.2 dX5_seed_66
      · have hF := if_f hF c_28
        refine lv_bipush (v := (-2)) hx hb dX5_seed_31 (by decide) ?_
        exact W.iret (v := (-2)) hx hb hr (fun t ht hW => ⟨⟨(-2), (tim, awl, aws, ou, first, size, gsz, seeds, kept, cnt, prt), rfl, hF.symm, by rw [ht]; exact hP.part [0, 1, 2, 3, 4, 5, 6, 7, 8, 9] rfl, hD.part [0, 1, 2, 3, 4, 5, 6, 7, 8, 9] (by decide) rfl⟩, hS.F ht⟩) hS.2.2 dX5_seed_33

def F_X5_key (made : Int32) (tim : Int64) (lv : Nat → Option Nat) (num : Int32) (ses : Int32) (rol : Int64) (opn : Int32) (awl : Int32) (aws : Int32) (oct : Int32) (ksf : Int32) (ou : Int32) (ut : Nat → Int32) (lk : Nat → Int64) (kept : Int32) (cnt : Int32) (prt : Nat → Int32) (kd : Nat → Int32) (tr : Nat → Int32) (dl : Nat → Int64) (p1 : Int32) (p2 : Int32) (p3 : Int32) : Int32 × Int32 × Int32 × Int32 × Int32 × (Nat → Int32) × (Nat → Int64) × Int32 × Int32 × (Nat → Int32) :=
  (lz (F_X3_addOctet num ses rol opn awl aws oct ksf ou p2) (fun u1 => (if p3 = 0 then (0, (opn, awl, u1.1, u1.2, ut, lk, kept, cnt, prt)) else (lz (F_X3_dropOctets num ses rol opn awl aws u1.1 u1.2 ou) (fun u2 => (oc (F_X5_madeLevel made tim lv p1) ((-1), (opn, awl, u2.1, u2.2, ut, lk, kept, cnt, prt)) (fun y44 => (if u1.1 = 4 then (lz2 (F_X5_tryKey made tim num ses rol opn awl aws u2.1 u2.2 ou ut lk p1 (kd p1.toNatClampNeg) (tr p1.toNatClampNeg) (dl p1.toNatClampNeg) u1.2) (fun r4 u4 => (lz (F_X4_add kept cnt prt num p1 r4) (fun u5 => (r4, (u4.1, u4.2.1, u2.1, u2.2, u4.2.2.1, u4.2.2.2, u5.1, u5.2.1, u5.2.2)))))) else (lz (F_X4_add kept cnt prt num p1 (-19)) (fun u3 => ((-19), (opn, awl, u2.1, u2.2, ut, lk, u3.1, u3.2.1, u3.2.2))))))))))))
set_option maxHeartbeats 4000000 in
set_option maxRecDepth 100000 in
theorem c_X5_key (l : Launch) (G : gG) (h0 xl xh tu tk xu xp xt xg xT : Nat) (sz : Nat) (made : Int32) (tim : Int64) (lv : Nat → Option Nat) (num : Int32) (ses : Int32) (rol : Int64) (opn : Int32) (awl : Int32) (aws : Int32) (oct : Int32) (ksf : Int32) (ou : Int32) (ut : Nat → Int32) (lk : Nat → Int64) (kept : Int32) (cnt : Int32) (prt : Nat → Int32) (kd : Nat → Int32) (tr : Nat → Int32) (dl : Nat → Int64) (p1 : Int32) (p2 : Int32) (p3 : Int32) (pl : va_W) (hLV : LV lv kd tr dl pl) (hk : vp_in kept 301) : Met l yX5_key wsX5_key ({ frames := 3, cells := 0, slots := 0, locals := 68 }) (va_Pc [.ref h0, .int p1, .int p2, .int p3] (pR G ([(h0, .inr (7, [.ref xl, .ref xt, .ref xg, .ref xu, .ref xT, .ref xh, .int made, .long tim])), (xl, .inl (G.2 3, 21, .inr (.inr (.inr (.inr lv))))), (xh, .inr (5, [.int num, .int ses, .long rol, .int opn, .int awl, .int aws, .int oct, .int ksf, .int ou, .ref tu, .ref tk])), (tu, .inl (G.2 0, 21, .inl ut)), (tk, .inl (G.2 1, 21, .inr (.inl lk))), (xu, .inr (6, [.ref xp, .int kept, .int cnt])), (xp, .inl (G.2 0, 900, .inl prt))] ++ pl) sz)) (va_Qi (fun (r : Int32) (u : Int32 × Int32 × Int32 × Int32 × (Nat → Int32) × (Nat → Int64) × Int32 × Int32 × (Nat → Int32)) => (r, u) = F_X5_key made tim lv num ses rol opn awl aws oct ksf ou ut lk kept cnt prt kd tr dl p1 p2 p3) (fun u t => pO G ([(h0, .inr (7, [.ref xl, .ref xt, .ref xg, .ref xu, .ref xT, .ref xh, .int made, .long tim])), (xl, .inl (G.2 3, 21, .inr (.inr (.inr (.inr lv))))), (xh, .inr (5, [.int num, .int ses, .long rol, .int u.1, .int u.2.1, .int aws, .int u.2.2.1, .int u.2.2.2.1, .int ou, .ref tu, .ref tk])), (tu, .inl (G.2 0, 21, .inl u.2.2.2.2.1)), (tk, .inl (G.2 1, 21, .inr (.inl u.2.2.2.2.2.1))), (xu, .inr (6, [.ref xp, .int u.2.2.2.2.2.2.1, .int u.2.2.2.2.2.2.2.1])), (xp, .inl (G.2 0, 900, .inl u.2.2.2.2.2.2.2.2))] ++ pl) (va_A ([(h0, .inr (7, [.ref xl, .ref xt, .ref xg, .ref xu, .ref xT, .ref xh, .int made, .long tim])), (xl, .inl (G.2 3, 21, .inr (.inr (.inr (.inr lv))))), (xh, .inr (5, [.int num, .int ses, .long rol, .int opn, .int awl, .int aws, .int oct, .int ksf, .int ou, .ref tu, .ref tk])), (tu, .inl (G.2 0, 21, .inl ut)), (tk, .inl (G.2 1, 21, .inr (.inl lk))), (xu, .inr (6, [.ref xp, .int kept, .int cnt])), (xp, .inl (G.2 0, 900, .inl prt))] ++ pl) sz) t) (va_A ([(h0, .inr (7, [.ref xl, .ref xt, .ref xg, .ref xu, .ref xT, .ref xh, .int made, .long tim])), (xl, .inl (G.2 3, 21, .inr (.inr (.inr (.inr lv))))), (xh, .inr (5, [.int num, .int ses, .long rol, .int opn, .int awl, .int aws, .int oct, .int ksf, .int ou, .ref tu, .ref tk])), (tu, .inl (G.2 0, 21, .inl ut)), (tk, .inl (G.2 1, 21, .inr (.inl lk))), (xu, .inr (6, [.ref xp, .int kept, .int cnt])), (xp, .inl (G.2 0, 900, .inl prt))] ++ pl) sz)) 0 0 (va_A ([(h0, .inr (7, [.ref xl, .ref xt, .ref xg, .ref xu, .ref xT, .ref xh, .int made, .long tim])), (xl, .inl (G.2 3, 21, .inr (.inr (.inr (.inr lv))))), (xh, .inr (5, [.int num, .int ses, .long rol, .int opn, .int awl, .int aws, .int oct, .int ksf, .int ou, .ref tu, .ref tk])), (tu, .inl (G.2 0, 21, .inl ut)), (tk, .inl (G.2 1, 21, .inr (.inl lk))), (xu, .inr (6, [.ref xp, .int kept, .int cnt])), (xp, .inl (G.2 0, 900, .inl prt))] ++ pl) sz) := by
  refine Met.ofW (cc := cX5_key) (maxL := 8) (ret := (some .int)) (by decide) rfl ?_
  intro p e s m args below meth c s₁ B hml hv
  obtain ⟨rfl, hsz, hP, hK, hD0⟩ := hv
  have hx := B.exec
  have hb := B.bytes
  have hr := B.returns
  have hts := atoms_spec (ws := wsX5_key) B.pre
  have hown : s.vm.findClass RX5 = some m.cls := findClass_of_methodNamed B.named
  have hlocks := B.notSynchronized
  subst hsz
  have iX3 : ∀ w ∈ wsX30, w ∈ wsX5_key := by decide +kernel
  have iX5 : ∀ w ∈ wsX50, w ∈ wsX5_key := by decide +kernel
  have hD := hD0.self (sz := s.heap.size)
  generalize hAe : va_A ([(h0, .inr (7, [.ref xl, .ref xt, .ref xg, .ref xu, .ref xT, .ref xh, .int made, .long tim])), (xl, .inl (G.2 3, 21, .inr (.inr (.inr (.inr lv))))), (xh, .inr (5, [.int num, .int ses, .long rol, .int opn, .int awl, .int aws, .int oct, .int ksf, .int ou, .ref tu, .ref tk])), (tu, .inl (G.2 0, 21, .inl ut)), (tk, .inl (G.2 1, 21, .inr (.inl lk))), (xu, .inr (6, [.ref xp, .int kept, .int cnt])), (xp, .inl (G.2 0, 900, .inl prt))] ++ pl) s.heap.size = A at hD ⊢
  have hA : ∀ q : Nat, s.heap.size ≤ q → A q := fun q h => by rw [← hAe]; exact Or.inr h
  have hS : va_S A s.heap s.heap [] := va_S.rf
  have hP : va_P G.1 vwCl ([(h0, .inr (7, [.ref xl, .ref xt, .ref xg, .ref xu, .ref xT, .ref xh, .int made, .long tim])), (xl, .inl (G.2 3, 21, .inr (.inr (.inr (.inr lv))))), (xh, .inr (5, [.int num, .int ses, .long rol, .int opn, .int awl, .int aws, .int oct, .int ksf, .int ou, .ref tu, .ref tk])), (tu, .inl (G.2 0, 21, .inl ut)), (tk, .inl (G.2 1, 21, .inr (.inl lk))), (xu, .inr (6, [.ref xp, .int kept, .int cnt])), (xp, .inl (G.2 0, 900, .inl prt))] ++ pl) s.heap := hP
  have hl := lv_entry ([.ref h0, .int p1, .int p2, .int p3]) (n := 8) (Nat.le_of_ble_eq_true rfl)
  rw [lg_entry_eq]
  generalize (lg_sl ([.ref h0, .int p1, .int p2, .int p3]) ++ List.replicate (8 - (lg_sl ([.ref h0, .int p1, .int p2, .int p3])).length) Slot.unset).toArray = ls at hl ⊢
  have hl : lv_has ls 8 [(0, .ref h0), (1, .int p1), (2, .int p2), (3, .int p3)] := hl
  have hF : F_X5_key made tim lv num ses rol opn awl aws oct ksf ou ut lk kept cnt prt kd tr dl p1 p2 p3 = F_X5_key made tim lv num ses rol opn awl aws oct ksf ou ut lk kept cnt prt kd tr dl p1 p2 p3 := rfl
  refine lv_aload_n hx hb dX5_key_0 rfl (lv_at hl 0 rfl) ?_
  refine va_get (D := G.1) (ci := 7) (v := .ref xh) (C := RX5) (T := TX5) (N := 8) hx hb hts iX5 hown hK.1 hP 0 rfl rfl 5 (by decide) (hts (.fieldLink RX5 45 "RightsSteps" "atHand" "LRightsSteps$Tester;") (by decide +kernel)) (fun _ h9 => h9) rfl dX5_key_1 ?_
  refine lv_iload_n hx hb dX5_key_4 rfl (lv_at hl 2 rfl) ?_
  have hPc := hP.sub (ws' := [(xh, .inr (5, [.int num, .int ses, .long rol, .int opn, .int awl, .int aws, .int oct, .int ksf, .int ou, .ref tu, .ref tk]))]) [2] rfl
  have hDc := hD.sub (ws' := [(xh, .inr (5, [.int num, .int ses, .long rol, .int opn, .int awl, .int aws, .int oct, .int ksf, .int ou, .ref tu, .ref tk]))]) [2] (by decide) rfl
  refine clq_v (wr := [(h0, .inr (7, [.ref xl, .ref xt, .ref xg, .ref xu, .ref xT, .ref xh, .int made, .long tim])), (xl, .inl (G.2 3, 21, .inr (.inr (.inr (.inr lv))))), (tu, .inl (G.2 0, 21, .inl ut)), (tk, .inl (G.2 1, 21, .inr (.inl lk))), (xu, .inr (6, [.ref xp, .int kept, .int cnt])), (xp, .inl (G.2 0, 900, .inl prt))]) (va_runV (As := [.int p2]) (rest := []) ⟨hx, hb, hml, hown, hts⟩ (c_X3_addOctet l G xh tu tk _ num ses rol opn awl aws oct ksf ou p2) (cwV 1 hts gX5_key_X3_addOctet rfl rfl rfl (by decide +kernel) ⟨Nat.le_of_ble_eq_true rfl, Nat.le_of_ble_eq_true rfl⟩) (pR_V hK hPc hDc (q0 := 0) rfl rfl) rfl rfl hl.1 rfl (lv_room (Nat.le_of_ble_eq_true rfl)) dX5_key_5 ⟨Nat.le_of_ble_eq_true rfl, Nat.le_of_ble_eq_true rfl⟩) hP hD hS hA [2] [0, 1, 3, 4, 5, 6] rfl rfl (by decide) (by decide) (fun u1 ez1 H locs hP hD hS => ?_)
  have hP : va_P G.1 vwCl ([(h0, .inr (7, [.ref xl, .ref xt, .ref xg, .ref xu, .ref xT, .ref xh, .int made, .long tim])), (xl, .inl (G.2 3, 21, .inr (.inr (.inr (.inr lv))))), (tu, .inl (G.2 0, 21, .inl ut)), (tk, .inl (G.2 1, 21, .inr (.inl lk))), (xu, .inr (6, [.ref xp, .int kept, .int cnt])), (xp, .inl (G.2 0, 900, .inl prt)), (xh, .inr (5, [.int num, .int ses, .long rol, .int opn, .int awl, .int aws, .int u1.1, .int u1.2, .int ou, .ref tu, .ref tk]))] ++ pl) H := hP
  have hD : va_D A ([(h0, .inr (7, [.ref xl, .ref xt, .ref xg, .ref xu, .ref xT, .ref xh, .int made, .long tim])), (xl, .inl (G.2 3, 21, .inr (.inr (.inr (.inr lv))))), (tu, .inl (G.2 0, 21, .inl ut)), (tk, .inl (G.2 1, 21, .inr (.inl lk))), (xu, .inr (6, [.ref xp, .int kept, .int cnt])), (xp, .inl (G.2 0, 900, .inl prt)), (xh, .inr (5, [.int num, .int ses, .long rol, .int opn, .int awl, .int aws, .int u1.1, .int u1.2, .int ou, .ref tu, .ref tk]))] ++ pl) := hD
  have hF := lz_e hF ez1
  refine lv_iload_n hx hb dX5_key_8 rfl (lv_at hl 3 rfl) ?_
  refine lv_if_ne (tgt := 14) hx hb dX5_key_9 (by decide) (fun c_9 => ?_) (fun c_9 => ?_)
  · have hF := if_f hF c_9
    refine lv_aload_n hx hb dX5_key_14 rfl (lv_at hl 0 rfl) ?_
    refine va_get (D := G.1) (ci := 7) (v := .ref xh) (C := RX5) (T := TX5) (N := 8) hx hb hts iX5 hown hK.1 hP 0 rfl rfl 5 (by decide) (hts (.fieldLink RX5 45 "RightsSteps" "atHand" "LRightsSteps$Tester;") (by decide +kernel)) (fun _ h9 => h9) rfl dX5_key_15 ?_
    refine va_getN (D := G.1) (ci := 5) (v := .int u1.1) (C := RX3) (T := TX3) (N := 11) hx hb hts iX3 hown hK.1 hP 6 rfl rfl 6 (by decide) (va_Nw.use rfl hK.2.2.2.2.2.2.2.2.1) (fun _ h9 => h9) rfl dX5_key_18 ?_
    refine lv_istore (lv' := [(4, .int u1.1), (0, .ref h0), (1, .int p1), (2, .int p2), (3, .int p3)]) hx hb dX5_key_21 hl (by decide) rfl (fun ls hl => ?_)
    refine lv_aload_n hx hb dX5_key_23 rfl (lv_at hl 1 rfl) ?_
    refine va_get (D := G.1) (ci := 7) (v := .ref xh) (C := RX5) (T := TX5) (N := 8) hx hb hts iX5 hown hK.1 hP 0 rfl rfl 5 (by decide) (hts (.fieldLink RX5 45 "RightsSteps" "atHand" "LRightsSteps$Tester;") (by decide +kernel)) (fun _ h9 => h9) rfl dX5_key_24 ?_
    refine va_getN (D := G.1) (ci := 5) (v := .int u1.2) (C := RX3) (T := TX3) (N := 11) hx hb hts iX3 hown hK.1 hP 6 rfl rfl 7 (by decide) (va_Nw.use rfl hK.2.2.2.2.2.2.2.2.2.1) (fun _ h9 => h9) rfl dX5_key_27 ?_
    refine lv_istore (lv' := [(5, .int u1.2), (4, .int u1.1), (0, .ref h0), (1, .int p1), (2, .int p2), (3, .int p3)]) hx hb dX5_key_30 hl (by decide) rfl (fun ls hl => ?_)
    refine lv_aload_n hx hb dX5_key_32 rfl (lv_at hl 2 rfl) ?_
    refine va_get (D := G.1) (ci := 7) (v := .ref xh) (C := RX5) (T := TX5) (N := 8) hx hb hts iX5 hown hK.1 hP 0 rfl rfl 5 (by decide) (hts (.fieldLink RX5 45 "RightsSteps" "atHand" "LRightsSteps$Tester;") (by decide +kernel)) (fun _ h9 => h9) rfl dX5_key_33 ?_
    have hPc := hP.sub (ws' := [(xh, .inr (5, [.int num, .int ses, .long rol, .int opn, .int awl, .int aws, .int u1.1, .int u1.2, .int ou, .ref tu, .ref tk]))]) [6] rfl
    have hDc := hD.sub (ws' := [(xh, .inr (5, [.int num, .int ses, .long rol, .int opn, .int awl, .int aws, .int u1.1, .int u1.2, .int ou, .ref tu, .ref tk]))]) [6] (by decide) rfl
    refine clq_v (wr := [(h0, .inr (7, [.ref xl, .ref xt, .ref xg, .ref xu, .ref xT, .ref xh, .int made, .long tim])), (xl, .inl (G.2 3, 21, .inr (.inr (.inr (.inr lv))))), (tu, .inl (G.2 0, 21, .inl ut)), (tk, .inl (G.2 1, 21, .inr (.inl lk))), (xu, .inr (6, [.ref xp, .int kept, .int cnt])), (xp, .inl (G.2 0, 900, .inl prt))]) (va_runV (As := []) (rest := []) ⟨hx, hb, hml, hown, hts⟩ (c_X3_dropOctets l G xh tu tk _ num ses rol opn awl aws u1.1 u1.2 ou) (cwV 0 hts gX5_key_X3_dropOctets rfl rfl rfl (by decide +kernel) ⟨Nat.le_of_ble_eq_true rfl, Nat.le_of_ble_eq_true rfl⟩) (pR_V hK hPc hDc (q0 := 0) rfl rfl) rfl rfl hl.1 rfl (lv_room (Nat.le_of_ble_eq_true rfl)) dX5_key_36 ⟨Nat.le_of_ble_eq_true rfl, Nat.le_of_ble_eq_true rfl⟩) hP hD hS hA [6] [0, 1, 2, 3, 4, 5] rfl rfl (by decide) (by decide) (fun u2 ez2 H locs hP hD hS => ?_)
    have hP : va_P G.1 vwCl ([(h0, .inr (7, [.ref xl, .ref xt, .ref xg, .ref xu, .ref xT, .ref xh, .int made, .long tim])), (xl, .inl (G.2 3, 21, .inr (.inr (.inr (.inr lv))))), (tu, .inl (G.2 0, 21, .inl ut)), (tk, .inl (G.2 1, 21, .inr (.inl lk))), (xu, .inr (6, [.ref xp, .int kept, .int cnt])), (xp, .inl (G.2 0, 900, .inl prt)), (xh, .inr (5, [.int num, .int ses, .long rol, .int opn, .int awl, .int aws, .int u2.1, .int u2.2, .int ou, .ref tu, .ref tk]))] ++ pl) H := hP
    have hD : va_D A ([(h0, .inr (7, [.ref xl, .ref xt, .ref xg, .ref xu, .ref xT, .ref xh, .int made, .long tim])), (xl, .inl (G.2 3, 21, .inr (.inr (.inr (.inr lv))))), (tu, .inl (G.2 0, 21, .inl ut)), (tk, .inl (G.2 1, 21, .inr (.inl lk))), (xu, .inr (6, [.ref xp, .int kept, .int cnt])), (xp, .inl (G.2 0, 900, .inl prt)), (xh, .inr (5, [.int num, .int ses, .long rol, .int opn, .int awl, .int aws, .int u2.1, .int u2.2, .int ou, .ref tu, .ref tk]))] ++ pl) := hD
    have hF := lz_e hF ez2
    refine lv_aload_n hx hb dX5_key_39 rfl (lv_at hl 2 rfl) ?_
    refine lv_iload_n hx hb dX5_key_40 rfl (lv_at hl 3 rfl) ?_
    have hPc := hP.sub (ws' := [(h0, .inr (7, [.ref xl, .ref xt, .ref xg, .ref xu, .ref xT, .ref xh, .int made, .long tim])), (xl, .inl (G.2 3, 21, .inr (.inr (.inr (.inr lv)))))]) [0, 1] rfl
    have hDc := hD.sub (ws' := [(h0, .inr (7, [.ref xl, .ref xt, .ref xg, .ref xu, .ref xT, .ref xh, .int made, .long tim])), (xl, .inl (G.2 3, 21, .inr (.inr (.inr (.inr lv)))))]) [0, 1] (by decide) rfl
    refine pu_call (va_runV (As := [.int p1]) (rest := []) ⟨hx, hb, hml, hown, hts⟩ (c_X5_madeLevel l G h0 xl xt xg xu xT xh _ made tim lv p1) (cwV 1 hts gX5_key_X5_madeLevel rfl rfl rfl (by decide +kernel) ⟨Nat.le_of_ble_eq_true rfl, Nat.le_of_ble_eq_true rfl⟩) (pR_V hK hPc hDc (q0 := 0) rfl rfl) rfl rfl hl.1 rfl (lv_room (Nat.le_of_ble_eq_true rfl)) dX5_key_41 ⟨Nat.le_of_ble_eq_true rfl, Nat.le_of_ble_eq_true rfl⟩) ?_
    rcases hQ_44 : (F_X5_madeLevel made tim lv p1) with _ | y44
    · have hF := oc_n hF hQ_44
      refine lv_astoreN (lv' := [(6, .null), (5, .int u1.2), (4, .int u1.1), (0, .ref h0), (1, .int p1), (2, .int p2), (3, .int p3)]) hx hb dX5_key_44 hl (by decide) rfl (fun ls hl => ?_)
      refine lv_aloadN hx hb dX5_key_46 (lv_at hl 0 rfl) ?_
      refine lv_ifnonnullN hx hb dX5_key_48 ?_
      refine lv_iconst (v := (-1)) hx hb dX5_key_51 (by decide) ?_
      exact W.iret (v := (-1)) hx hb hr (fun t ht hW => ⟨⟨(-1), (opn, awl, u2.1, u2.2, ut, lk, kept, cnt, prt), rfl, hF.symm, by rw [ht]; exact hP.part [0, 1, 6, 2, 3, 4, 5] rfl, hD.part [0, 1, 6, 2, 3, 4, 5] (by decide) rfl⟩, hS.F ht⟩) hS.2.2 dX5_key_52
    · have hF := oc_s hF hQ_44
      have hm := mk_some hLV hQ_44
      refine lv_astore (lv' := [(6, .ref y44), (5, .int u1.2), (4, .int u1.1), (0, .ref h0), (1, .int p1), (2, .int p2), (3, .int p3)]) hx hb dX5_key_44 hl (by decide) rfl (fun ls hl => ?_)
      refine lv_aload hx hb dX5_key_46 (lv_at hl 0 rfl) ?_
      refine lv_ifnonnull (tgt := 53) hx hb dX5_key_48 (by decide) ?_
      refine lv_iload hx hb dX5_key_53 (lv_at hl 2 rfl) ?_
      refine lv_iconst (v := 4) hx hb dX5_key_55 (by decide) ?_
      refine lv_icmp_ne (tgt := 70) hx hb dX5_key_56 (by decide) (fun c_56 => ?_) (fun c_56 => ?_)
      · have hF := if_f hF c_56
        refine lv_bipush (v := (-19)) hx hb dX5_key_70 (by decide) ?_
        refine lv_istore (lv' := [(7, .int (-19)), (6, .ref y44), (5, .int u1.2), (4, .int u1.1), (0, .ref h0), (1, .int p1), (2, .int p2), (3, .int p3)]) hx hb dX5_key_72 hl (by decide) rfl (fun ls hl => ?_)
        refine lv_aload_n hx hb dX5_key_74 rfl (lv_at hl 4 rfl) ?_
        refine va_get (D := G.1) (ci := 7) (v := .ref xu) (C := RX5) (T := TX5) (N := 8) hx hb hts iX5 hown hK.1 hP 0 rfl rfl 3 (by decide) (hts (.fieldLink RX5 32 "RightsSteps" "uses" "LRightsSteps$UseLog;") (by decide +kernel)) (fun _ h9 => h9) rfl dX5_key_75 ?_
        refine lv_aload_n hx hb dX5_key_78 rfl (lv_at hl 4 rfl) ?_
        refine va_get (D := G.1) (ci := 7) (v := .ref xh) (C := RX5) (T := TX5) (N := 8) hx hb hts iX5 hown hK.1 hP 0 rfl rfl 5 (by decide) (hts (.fieldLink RX5 45 "RightsSteps" "atHand" "LRightsSteps$Tester;") (by decide +kernel)) (fun _ h9 => h9) rfl dX5_key_79 ?_
        refine va_getN (D := G.1) (ci := 5) (v := .int num) (C := RX3) (T := TX3) (N := 11) hx hb hts iX3 hown hK.1 hP 6 rfl rfl 0 (by decide) (va_Nw.use rfl hK.2.2.1) (fun _ h9 => h9) rfl dX5_key_82 ?_
        refine lv_iload_n hx hb dX5_key_85 rfl (lv_at hl 5 rfl) ?_
        refine lv_iload hx hb dX5_key_86 (lv_at hl 0 rfl) ?_
        have hPc := hP.sub (ws' := [(xu, .inr (6, [.ref xp, .int kept, .int cnt])), (xp, .inl (G.2 0, 900, .inl prt))]) [4, 5] rfl
        have hDc := hD.sub (ws' := [(xu, .inr (6, [.ref xp, .int kept, .int cnt])), (xp, .inl (G.2 0, 900, .inl prt))]) [4, 5] (by decide) rfl
        refine clq_v (wr := [(h0, .inr (7, [.ref xl, .ref xt, .ref xg, .ref xu, .ref xT, .ref xh, .int made, .long tim])), (xl, .inl (G.2 3, 21, .inr (.inr (.inr (.inr lv))))), (tu, .inl (G.2 0, 21, .inl ut)), (tk, .inl (G.2 1, 21, .inr (.inl lk))), (xh, .inr (5, [.int num, .int ses, .long rol, .int opn, .int awl, .int aws, .int u2.1, .int u2.2, .int ou, .ref tu, .ref tk]))]) (va_runV (As := [.int num, .int p1, .int (-19)]) (rest := []) ⟨hx, hb, hml, hown, hts⟩ (c_X4_add l G xu xp _ kept cnt prt num p1 (-19) hk) (cwV 3 hts gX5_key_X4_add rfl rfl rfl (by decide +kernel) ⟨Nat.le_of_ble_eq_true rfl, Nat.le_of_ble_eq_true rfl⟩) (pR_V hK hPc hDc (q0 := 0) rfl rfl) rfl rfl hl.1 rfl (lv_room (Nat.le_of_ble_eq_true rfl)) dX5_key_88 ⟨Nat.le_of_ble_eq_true rfl, Nat.le_of_ble_eq_true rfl⟩) hP hD hS hA [4, 5] [0, 1, 2, 3, 6] rfl rfl (by decide) (by decide) (fun u3 ez3 H locs hP hD hS => ?_)
        have hP : va_P G.1 vwCl ([(h0, .inr (7, [.ref xl, .ref xt, .ref xg, .ref xu, .ref xT, .ref xh, .int made, .long tim])), (xl, .inl (G.2 3, 21, .inr (.inr (.inr (.inr lv))))), (tu, .inl (G.2 0, 21, .inl ut)), (tk, .inl (G.2 1, 21, .inr (.inl lk))), (xh, .inr (5, [.int num, .int ses, .long rol, .int opn, .int awl, .int aws, .int u2.1, .int u2.2, .int ou, .ref tu, .ref tk])), (xu, .inr (6, [.ref xp, .int u3.1, .int u3.2.1])), (xp, .inl (G.2 0, 900, .inl u3.2.2))] ++ pl) H := hP
        have hD : va_D A ([(h0, .inr (7, [.ref xl, .ref xt, .ref xg, .ref xu, .ref xT, .ref xh, .int made, .long tim])), (xl, .inl (G.2 3, 21, .inr (.inr (.inr (.inr lv))))), (tu, .inl (G.2 0, 21, .inl ut)), (tk, .inl (G.2 1, 21, .inr (.inl lk))), (xh, .inr (5, [.int num, .int ses, .long rol, .int opn, .int awl, .int aws, .int u2.1, .int u2.2, .int ou, .ref tu, .ref tk])), (xu, .inr (6, [.ref xp, .int u3.1, .int u3.2.1])), (xp, .inl (G.2 0, 900, .inl u3.2.2))] ++ pl) := hD
        have hF := lz_e hF ez3
        refine lv_iload hx hb dX5_key_91 (lv_at hl 0 rfl) ?_
        exact W.iret (v := (-19)) hx hb hr (fun t ht hW => ⟨⟨(-19), (opn, awl, u2.1, u2.2, ut, lk, u3.1, u3.2.1, u3.2.2), rfl, hF.symm, by rw [ht]; exact hP.part [0, 1, 4, 2, 3, 5, 6] rfl, hD.part [0, 1, 4, 2, 3, 5, 6] (by decide) rfl⟩, hS.F ht⟩) hS.2.2 dX5_key_93
      · have hF := if_t hF c_56
        refine lv_aload_n hx hb dX5_key_59 rfl (lv_at hl 3 rfl) ?_
        refine lv_aload hx hb dX5_key_60 (lv_at hl 0 rfl) ?_
        refine lv_iload hx hb dX5_key_62 (lv_at hl 1 rfl) ?_
        have hPc := hP.part (cx := [(h0, .inr (7, [.ref xl, .ref xt, .ref xg, .ref xu, .ref xT, .ref xh, .int made, .long tim])), (xh, .inr (5, [.int num, .int ses, .long rol, .int opn, .int awl, .int aws, .int u2.1, .int u2.2, .int ou, .ref tu, .ref tk])), (tu, .inl (G.2 0, 21, .inl ut)), (tk, .inl (G.2 1, 21, .inr (.inl lk)))]) [0, 6, 2, 3] rfl
        have hDc := hD.part (cx := [(h0, .inr (7, [.ref xl, .ref xt, .ref xg, .ref xu, .ref xT, .ref xh, .int made, .long tim])), (xh, .inr (5, [.int num, .int ses, .long rol, .int opn, .int awl, .int aws, .int u2.1, .int u2.2, .int ou, .ref tu, .ref tk])), (tu, .inl (G.2 0, 21, .inl ut)), (tk, .inl (G.2 1, 21, .inr (.inl lk)))]) [0, 6, 2, 3] (by decide) rfl
        refine clp_i (wr := [(xl, .inl (G.2 3, 21, .inr (.inr (.inr (.inr lv))))), (xu, .inr (6, [.ref xp, .int kept, .int cnt])), (xp, .inl (G.2 0, 900, .inl prt))]) (va_runV (As := [.ref y44, .int u1.2]) (rest := []) ⟨hx, hb, hml, hown, hts⟩ (c_X5_tryKey l G h0 xh tu tk xl xt xg xu xT y44 _ made tim num ses rol opn awl aws u2.1 u2.2 ou ut lk p1 (kd p1.toNatClampNeg) (tr p1.toNatClampNeg) (dl p1.toNatClampNeg) u1.2 pl hm) (cwV 2 hts gX5_key_X5_tryKey rfl rfl rfl (by decide +kernel) ⟨Nat.le_of_ble_eq_true rfl, Nat.le_of_ble_eq_true rfl⟩) (pR_V hK hPc hDc (q0 := 0) rfl rfl) rfl rfl hl.1 rfl (lv_room (Nat.le_of_ble_eq_true rfl)) dX5_key_64 ⟨Nat.le_of_ble_eq_true rfl, Nat.le_of_ble_eq_true rfl⟩) hP hD hS hA [0, 6, 2, 3] [1, 4, 5] rfl rfl (by decide) (by decide) (fun r4 u4 ez4 H locs hP hD hS => ?_)
        have hP : va_P G.1 vwCl ([(xl, .inl (G.2 3, 21, .inr (.inr (.inr (.inr lv))))), (xu, .inr (6, [.ref xp, .int kept, .int cnt])), (xp, .inl (G.2 0, 900, .inl prt)), (h0, .inr (7, [.ref xl, .ref xt, .ref xg, .ref xu, .ref xT, .ref xh, .int made, .long tim])), (xh, .inr (5, [.int num, .int ses, .long rol, .int u4.1, .int u4.2.1, .int aws, .int u2.1, .int u2.2, .int ou, .ref tu, .ref tk])), (tu, .inl (G.2 0, 21, .inl u4.2.2.1)), (tk, .inl (G.2 1, 21, .inr (.inl u4.2.2.2)))] ++ pl) H := hP
        have hD : va_D A ([(xl, .inl (G.2 3, 21, .inr (.inr (.inr (.inr lv))))), (xu, .inr (6, [.ref xp, .int kept, .int cnt])), (xp, .inl (G.2 0, 900, .inl prt)), (h0, .inr (7, [.ref xl, .ref xt, .ref xg, .ref xu, .ref xT, .ref xh, .int made, .long tim])), (xh, .inr (5, [.int num, .int ses, .long rol, .int u4.1, .int u4.2.1, .int aws, .int u2.1, .int u2.2, .int ou, .ref tu, .ref tk])), (tu, .inl (G.2 0, 21, .inl u4.2.2.1)), (tk, .inl (G.2 1, 21, .inr (.inl u4.2.2.2)))] ++ pl) := hD
        have hF := lz2_e hF ez4
        refine lv_goto (tgt := 72) hx hb dX5_key_67 (by decide) ?_
        refine lv_istore (lv' := [(7, .int r4), (6, .ref y44), (5, .int u1.2), (4, .int u1.1), (0, .ref h0), (1, .int p1), (2, .int p2), (3, .int p3)]) hx hb dX5_key_72 hl (by decide) rfl (fun ls hl => ?_)
        refine lv_aload_n hx hb dX5_key_74 rfl (lv_at hl 4 rfl) ?_
        refine va_get (D := G.1) (ci := 7) (v := .ref xu) (C := RX5) (T := TX5) (N := 8) hx hb hts iX5 hown hK.1 hP 3 rfl rfl 3 (by decide) (hts (.fieldLink RX5 32 "RightsSteps" "uses" "LRightsSteps$UseLog;") (by decide +kernel)) (fun _ h9 => h9) rfl dX5_key_75 ?_
        refine lv_aload_n hx hb dX5_key_78 rfl (lv_at hl 4 rfl) ?_
        refine va_get (D := G.1) (ci := 7) (v := .ref xh) (C := RX5) (T := TX5) (N := 8) hx hb hts iX5 hown hK.1 hP 3 rfl rfl 5 (by decide) (hts (.fieldLink RX5 45 "RightsSteps" "atHand" "LRightsSteps$Tester;") (by decide +kernel)) (fun _ h9 => h9) rfl dX5_key_79 ?_
        refine va_getN (D := G.1) (ci := 5) (v := .int num) (C := RX3) (T := TX3) (N := 11) hx hb hts iX3 hown hK.1 hP 4 rfl rfl 0 (by decide) (va_Nw.use rfl hK.2.2.1) (fun _ h9 => h9) rfl dX5_key_82 ?_
        refine lv_iload_n hx hb dX5_key_85 rfl (lv_at hl 5 rfl) ?_
        refine lv_iload hx hb dX5_key_86 (lv_at hl 0 rfl) ?_
        have hPc := hP.sub (ws' := [(xu, .inr (6, [.ref xp, .int kept, .int cnt])), (xp, .inl (G.2 0, 900, .inl prt))]) [1, 2] rfl
        have hDc := hD.sub (ws' := [(xu, .inr (6, [.ref xp, .int kept, .int cnt])), (xp, .inl (G.2 0, 900, .inl prt))]) [1, 2] (by decide) rfl
        refine clq_v (wr := [(xl, .inl (G.2 3, 21, .inr (.inr (.inr (.inr lv))))), (h0, .inr (7, [.ref xl, .ref xt, .ref xg, .ref xu, .ref xT, .ref xh, .int made, .long tim])), (xh, .inr (5, [.int num, .int ses, .long rol, .int u4.1, .int u4.2.1, .int aws, .int u2.1, .int u2.2, .int ou, .ref tu, .ref tk])), (tu, .inl (G.2 0, 21, .inl u4.2.2.1)), (tk, .inl (G.2 1, 21, .inr (.inl u4.2.2.2)))]) (va_runV (As := [.int num, .int p1, .int r4]) (rest := []) ⟨hx, hb, hml, hown, hts⟩ (c_X4_add l G xu xp _ kept cnt prt num p1 r4 hk) (cwV 3 hts gX5_key_X4_add rfl rfl rfl (by decide +kernel) ⟨Nat.le_of_ble_eq_true rfl, Nat.le_of_ble_eq_true rfl⟩) (pR_V hK hPc hDc (q0 := 0) rfl rfl) rfl rfl hl.1 rfl (lv_room (Nat.le_of_ble_eq_true rfl)) dX5_key_88 ⟨Nat.le_of_ble_eq_true rfl, Nat.le_of_ble_eq_true rfl⟩) hP hD hS hA [1, 2] [0, 3, 4, 5, 6] rfl rfl (by decide) (by decide) (fun u5 ez5 H locs hP hD hS => ?_)
        have hP : va_P G.1 vwCl ([(xl, .inl (G.2 3, 21, .inr (.inr (.inr (.inr lv))))), (h0, .inr (7, [.ref xl, .ref xt, .ref xg, .ref xu, .ref xT, .ref xh, .int made, .long tim])), (xh, .inr (5, [.int num, .int ses, .long rol, .int u4.1, .int u4.2.1, .int aws, .int u2.1, .int u2.2, .int ou, .ref tu, .ref tk])), (tu, .inl (G.2 0, 21, .inl u4.2.2.1)), (tk, .inl (G.2 1, 21, .inr (.inl u4.2.2.2))), (xu, .inr (6, [.ref xp, .int u5.1, .int u5.2.1])), (xp, .inl (G.2 0, 900, .inl u5.2.2))] ++ pl) H := hP
        have hD : va_D A ([(xl, .inl (G.2 3, 21, .inr (.inr (.inr (.inr lv))))), (h0, .inr (7, [.ref xl, .ref xt, .ref xg, .ref xu, .ref xT, .ref xh, .int made, .long tim])), (xh, .inr (5, [.int num, .int ses, .long rol, .int u4.1, .int u4.2.1, .int aws, .int u2.1, .int u2.2, .int ou, .ref tu, .ref tk])), (tu, .inl (G.2 0, 21, .inl u4.2.2.1)), (tk, .inl (G.2 1, 21, .inr (.inl u4.2.2.2))), (xu, .inr (6, [.ref xp, .int u5.1, .int u5.2.1])), (xp, .inl (G.2 0, 900, .inl u5.2.2))] ++ pl) := hD
        have hF := lz_e hF ez5
        refine lv_iload hx hb dX5_key_91 (lv_at hl 0 rfl) ?_
        exact W.iret (v := r4) hx hb hr (fun t ht hW => ⟨⟨r4, (u4.1, u4.2.1, u2.1, u2.2, u4.2.2.1, u4.2.2.2, u5.1, u5.2.1, u5.2.2), rfl, hF.symm, by rw [ht]; exact hP.part [1, 0, 2, 3, 4, 5, 6] rfl, hD.part [1, 0, 2, 3, 4, 5, 6] (by decide) rfl⟩, hS.F ht⟩) hS.2.2 dX5_key_93
  · have hF := if_t hF c_9
    refine lv_iconst (v := 0) hx hb dX5_key_12 (by decide) ?_
    exact W.iret (v := 0) hx hb hr (fun t ht hW => ⟨⟨0, (opn, awl, u1.1, u1.2, ut, lk, kept, cnt, prt), rfl, hF.symm, by rw [ht]; exact hP.part [0, 1, 6, 2, 3, 4, 5] rfl, hD.part [0, 1, 6, 2, 3, 4, 5] (by decide) rfl⟩, hS.F ht⟩) hS.2.2 dX5_key_13

def F_X5_tape (made : Int32) (tim : Int64) (first : Int32) (size : Int32) (nums : Nat → Int32) (p1 : Int32) : Int32 × (Nat → Int32) :=
  (lz (F_X2_add first size nums p1) (fun u1 => (u1.1, u1.2)))
set_option maxHeartbeats 4000000 in
set_option maxRecDepth 100000 in
theorem c_X5_tape (l : Launch) (G : gG) (h0 xt xn xl xg xu xT xh : Nat) (sz : Nat) (made : Int32) (tim : Int64) (first : Int32) (size : Int32) (nums : Nat → Int32) (p1 : Int32) (hf : vp_in first 201) (hz : vp_in size 201) : Met l yX5_tape wsX5_tape ({ frames := 1, cells := 0, slots := 0, locals := 22 }) (va_Pc [.ref h0, .int p1] (pR G [(h0, .inr (7, [.ref xl, .ref xt, .ref xg, .ref xu, .ref xT, .ref xh, .int made, .long tim])), (xt, .inr (4, [.ref xn, .int first, .int size])), (xn, .inl (G.2 0, 200, .inl nums))] sz)) (va_Qv (fun (u : Int32 × (Nat → Int32)) => u = F_X5_tape made tim first size nums p1) (fun u t => pO G [(h0, .inr (7, [.ref xl, .ref xt, .ref xg, .ref xu, .ref xT, .ref xh, .int made, .long tim])), (xt, .inr (4, [.ref xn, .int first, .int u.1])), (xn, .inl (G.2 0, 200, .inl u.2))] (va_A [(h0, .inr (7, [.ref xl, .ref xt, .ref xg, .ref xu, .ref xT, .ref xh, .int made, .long tim])), (xt, .inr (4, [.ref xn, .int first, .int size])), (xn, .inl (G.2 0, 200, .inl nums))] sz) t) (va_A [(h0, .inr (7, [.ref xl, .ref xt, .ref xg, .ref xu, .ref xT, .ref xh, .int made, .long tim])), (xt, .inr (4, [.ref xn, .int first, .int size])), (xn, .inl (G.2 0, 200, .inl nums))] sz)) 0 0 (va_A [(h0, .inr (7, [.ref xl, .ref xt, .ref xg, .ref xu, .ref xT, .ref xh, .int made, .long tim])), (xt, .inr (4, [.ref xn, .int first, .int size])), (xn, .inl (G.2 0, 200, .inl nums))] sz) := by
  refine Met.ofW (cc := cX5_tape) (maxL := 2) (ret := none) (by decide) rfl ?_
  intro p e s m args below meth c s₁ B hml hv
  obtain ⟨rfl, hsz, hP, hK, hD0⟩ := hv
  have hx := B.exec
  have hb := B.bytes
  have hr := B.returns
  have hts := atoms_spec (ws := wsX5_tape) B.pre
  have hown : s.vm.findClass RX5 = some m.cls := findClass_of_methodNamed B.named
  have hlocks := B.notSynchronized
  subst hsz
  have iX5 : ∀ w ∈ wsX50, w ∈ wsX5_tape := by decide +kernel
  have hD := hD0.self (sz := s.heap.size)
  generalize hAe : va_A [(h0, .inr (7, [.ref xl, .ref xt, .ref xg, .ref xu, .ref xT, .ref xh, .int made, .long tim])), (xt, .inr (4, [.ref xn, .int first, .int size])), (xn, .inl (G.2 0, 200, .inl nums))] s.heap.size = A at hD ⊢
  have hA : ∀ q : Nat, s.heap.size ≤ q → A q := fun q h => by rw [← hAe]; exact Or.inr h
  have hS : va_S A s.heap s.heap [] := va_S.rf
  have hP : va_P G.1 vwCl [(h0, .inr (7, [.ref xl, .ref xt, .ref xg, .ref xu, .ref xT, .ref xh, .int made, .long tim])), (xt, .inr (4, [.ref xn, .int first, .int size])), (xn, .inl (G.2 0, 200, .inl nums))] s.heap := hP
  have hl := lv_entry ([.ref h0, .int p1]) (n := 2) (Nat.le_of_ble_eq_true rfl)
  rw [lg_entry_eq]
  generalize (lg_sl ([.ref h0, .int p1]) ++ List.replicate (2 - (lg_sl ([.ref h0, .int p1])).length) Slot.unset).toArray = ls at hl ⊢
  have hl : lv_has ls 2 [(0, .ref h0), (1, .int p1)] := hl
  have hF : F_X5_tape made tim first size nums p1 = F_X5_tape made tim first size nums p1 := rfl
  refine lv_aload_n hx hb dX5_tape_0 rfl (lv_at hl 0 rfl) ?_
  refine va_get (D := G.1) (ci := 7) (v := .ref xt) (C := RX5) (T := TX5) (N := 8) hx hb hts iX5 hown hK.1 hP 0 rfl rfl 1 (by decide) (hts (.fieldLink RX5 18 "RightsSteps" "tape" "LRightsSteps$Tape;") (by decide +kernel)) (fun _ h9 => h9) rfl dX5_tape_1 ?_
  refine lv_iload_n hx hb dX5_tape_4 rfl (lv_at hl 1 rfl) ?_
  have hPc := hP.sub (ws' := [(xt, .inr (4, [.ref xn, .int first, .int size])), (xn, .inl (G.2 0, 200, .inl nums))]) [1, 2] rfl
  have hDc := hD.sub (ws' := [(xt, .inr (4, [.ref xn, .int first, .int size])), (xn, .inl (G.2 0, 200, .inl nums))]) [1, 2] (by decide) rfl
  refine cl_v (wr := [(h0, .inr (7, [.ref xl, .ref xt, .ref xg, .ref xu, .ref xT, .ref xh, .int made, .long tim]))]) (va_runV (As := [.int p1]) (rest := []) ⟨hx, hb, hml, hown, hts⟩ (c_X2_add l G xt xn _ first size nums p1 hf hz) (cwV 1 hts gX5_tape_X2_add rfl rfl rfl (by decide +kernel) ⟨Nat.le_of_ble_eq_true rfl, Nat.le_of_ble_eq_true rfl⟩) (pR_V hK hPc hDc (q0 := 0) rfl rfl) rfl rfl hl.1 rfl (lv_room (Nat.le_of_ble_eq_true rfl)) dX5_tape_5 ⟨Nat.le_of_ble_eq_true rfl, Nat.le_of_ble_eq_true rfl⟩) hP hD hS hA [1, 2] [0] rfl rfl (by decide) (by decide) (fun u1 ez1 H locs hP hD hS => ?_)
  have hP : va_P G.1 vwCl [(h0, .inr (7, [.ref xl, .ref xt, .ref xg, .ref xu, .ref xT, .ref xh, .int made, .long tim])), (xt, .inr (4, [.ref xn, .int first, .int u1.1])), (xn, .inl (G.2 0, 200, .inl u1.2))] H := hP
  have hD : va_D A [(h0, .inr (7, [.ref xl, .ref xt, .ref xg, .ref xu, .ref xT, .ref xh, .int made, .long tim])), (xt, .inr (4, [.ref xn, .int first, .int u1.1])), (xn, .inl (G.2 0, 200, .inl u1.2))] := hD
  have hF := lz_e hF ez1
  exact W.vret hx hb hr (fun t ht hW => ⟨⟨(u1.1, u1.2), rfl, hF.symm, by rw [ht]; exact hP.sub [0, 1, 2] rfl, hD.sub [0, 1, 2] (by decide) rfl⟩, hS.F ht⟩) hS.2.2 dX5_tape_8

def F_X5_open (made : Int32) (tim : Int64) (lv : Nat → Option Nat) (num : Int32) (ses : Int32) (rol : Int64) (opn : Int32) (awl : Int32) (aws : Int32) (oct : Int32) (ksf : Int32) (ou : Int32) (p1 : Int32) : Int32 :=
  (oc (F_X5_madeLevel made tim lv p1) (-1) (fun y5 => (if opn = p1 then 1 else 0)))
set_option maxHeartbeats 4000000 in
set_option maxRecDepth 100000 in
theorem c_X5_open (l : Launch) (G : gG) (h0 xl xh xt xg xu xT tu tk : Nat) (sz : Nat) (made : Int32) (tim : Int64) (lv : Nat → Option Nat) (num : Int32) (ses : Int32) (rol : Int64) (opn : Int32) (awl : Int32) (aws : Int32) (oct : Int32) (ksf : Int32) (ou : Int32) (p1 : Int32) : Met l yX5_open wsX5_open ({ frames := 1, cells := 0, slots := 0, locals := 21 }) (va_Pc [.ref h0, .int p1] (pR G [(h0, .inr (7, [.ref xl, .ref xt, .ref xg, .ref xu, .ref xT, .ref xh, .int made, .long tim])), (xl, .inl (G.2 3, 21, .inr (.inr (.inr (.inr lv))))), (xh, .inr (5, [.int num, .int ses, .long rol, .int opn, .int awl, .int aws, .int oct, .int ksf, .int ou, .ref tu, .ref tk]))] sz)) (pQ (.int (F_X5_open made tim lv num ses rol opn awl aws oct ksf ou p1))) 0 0 (fun _ => False) := by
  refine Met.ofW (cc := cX5_open) (maxL := 2) (ret := (some .int)) (by decide) rfl ?_
  intro p e s m args below meth c s₁ B hml hv
  obtain ⟨rfl, hsz, hP, hK, hD0⟩ := hv
  have hx := B.exec
  have hb := B.bytes
  have hr := B.returns
  have hts := atoms_spec (ws := wsX5_open) B.pre
  have hown : s.vm.findClass RX5 = some m.cls := findClass_of_methodNamed B.named
  have hlocks := B.notSynchronized
  subst hsz
  have iX3 : ∀ w ∈ wsX30, w ∈ wsX5_open := by decide +kernel
  have iX5 : ∀ w ∈ wsX50, w ∈ wsX5_open := by decide +kernel
  have hD := hD0
  have hP : va_P G.1 vwCl [(h0, .inr (7, [.ref xl, .ref xt, .ref xg, .ref xu, .ref xT, .ref xh, .int made, .long tim])), (xl, .inl (G.2 3, 21, .inr (.inr (.inr (.inr lv))))), (xh, .inr (5, [.int num, .int ses, .long rol, .int opn, .int awl, .int aws, .int oct, .int ksf, .int ou, .ref tu, .ref tk]))] s.heap := hP
  have hl := lv_entry ([.ref h0, .int p1]) (n := 2) (Nat.le_of_ble_eq_true rfl)
  rw [lg_entry_eq]
  generalize (lg_sl ([.ref h0, .int p1]) ++ List.replicate (2 - (lg_sl ([.ref h0, .int p1])).length) Slot.unset).toArray = ls at hl ⊢
  have hl : lv_has ls 2 [(0, .ref h0), (1, .int p1)] := hl
  have hF : F_X5_open made tim lv num ses rol opn awl aws oct ksf ou p1 = F_X5_open made tim lv num ses rol opn awl aws oct ksf ou p1 := rfl
  refine lv_aload_n hx hb dX5_open_0 rfl (lv_at hl 0 rfl) ?_
  refine lv_iload_n hx hb dX5_open_1 rfl (lv_at hl 1 rfl) ?_
  have hPc := hP.sub (ws' := [(h0, .inr (7, [.ref xl, .ref xt, .ref xg, .ref xu, .ref xT, .ref xh, .int made, .long tim])), (xl, .inl (G.2 3, 21, .inr (.inr (.inr (.inr lv)))))]) [0, 1] rfl
  have hDc := hD.sub (ws' := [(h0, .inr (7, [.ref xl, .ref xt, .ref xg, .ref xu, .ref xT, .ref xh, .int made, .long tim])), (xl, .inl (G.2 3, 21, .inr (.inr (.inr (.inr lv)))))]) [0, 1] (by decide) rfl
  refine pu_call (va_runV (As := [.int p1]) (rest := []) ⟨hx, hb, hml, hown, hts⟩ (c_X5_madeLevel l G h0 xl xt xg xu xT xh _ made tim lv p1) (cwV 1 hts gX5_open_X5_madeLevel rfl rfl rfl (by decide +kernel) ⟨Nat.le_of_ble_eq_true rfl, Nat.le_of_ble_eq_true rfl⟩) (pR_V hK hPc hDc (q0 := 0) rfl rfl) rfl rfl hl.1 rfl (lv_room (Nat.le_of_ble_eq_true rfl)) dX5_open_2 ⟨Nat.le_of_ble_eq_true rfl, Nat.le_of_ble_eq_true rfl⟩) ?_
  rcases hQ_5 : (F_X5_madeLevel made tim lv p1) with _ | y5
  · have hF := oc_n hF hQ_5
    refine lv_ifnonnullN hx hb dX5_open_5 ?_
    refine lv_iconst (v := (-1)) hx hb dX5_open_8 (by decide) ?_
    exact W.iret (v := (-1)) hx hb hr (fun t ht hW => ⟨by rw [hF], ht⟩) (fun _ h => by cases h) dX5_open_9
  · have hF := oc_s hF hQ_5
    refine lv_ifnonnull (tgt := 10) hx hb dX5_open_5 (by decide) ?_
    refine lv_aload_n hx hb dX5_open_10 rfl (lv_at hl 0 rfl) ?_
    refine va_get (D := G.1) (ci := 7) (v := .ref xh) (C := RX5) (T := TX5) (N := 8) hx hb hts iX5 hown hK.1 hP 0 rfl rfl 5 (by decide) (hts (.fieldLink RX5 45 "RightsSteps" "atHand" "LRightsSteps$Tester;") (by decide +kernel)) (fun _ h9 => h9) rfl dX5_open_11 ?_
    refine va_getN (D := G.1) (ci := 5) (v := .int opn) (C := RX3) (T := TX3) (N := 11) hx hb hts iX3 hown hK.1 hP 2 rfl rfl 3 (by decide) (va_Nw.use rfl hK.2.2.2.2.2.1) (fun _ h9 => h9) rfl dX5_open_14 ?_
    refine lv_iload_n hx hb dX5_open_17 rfl (lv_at hl 1 rfl) ?_
    refine lv_icmp_ne (tgt := 25) hx hb dX5_open_18 (by decide) (fun c_18 => ?_) (fun c_18 => ?_)
    · have hF := if_f hF c_18
      refine lv_iconst (v := 0) hx hb dX5_open_25 (by decide) ?_
      exact W.iret (v := 0) hx hb hr (fun t ht hW => ⟨by rw [hF], ht⟩) (fun _ h => by cases h) dX5_open_26
    · have hF := if_t hF c_18
      refine lv_iconst (v := 1) hx hb dX5_open_21 (by decide) ?_
      refine lv_goto (tgt := 26) hx hb dX5_open_22 (by decide) ?_
      exact W.iret (v := 1) hx hb hr (fun t ht hW => ⟨by rw [hF], ht⟩) (fun _ h => by cases h) dX5_open_26

def F_X5_session (made : Int32) (tim : Int64) (num : Int32) (ses : Int32) (rol : Int64) (opn : Int32) (awl : Int32) (aws : Int32) (oct : Int32) (ksf : Int32) (ou : Int32) (p1 : Int32) : Int32 × Int32 × Int64 × Int32 × Int32 :=
  (if p1 < 1 then ((-2), (ses, rol, opn, awl)) else (if p1 ≤ 3 then (lz (F_X3_startSession num ses rol opn awl aws oct ksf ou p1) (fun u1 => (ses, (u1.1, u1.2.1, u1.2.2.1, u1.2.2.2)))) else ((-2), (ses, rol, opn, awl))))
set_option maxHeartbeats 4000000 in
set_option maxRecDepth 100000 in
theorem c_X5_session (l : Launch) (G : gG) (h0 xh xl xt xg xu xT tu tk : Nat) (sz : Nat) (made : Int32) (tim : Int64) (num : Int32) (ses : Int32) (rol : Int64) (opn : Int32) (awl : Int32) (aws : Int32) (oct : Int32) (ksf : Int32) (ou : Int32) (p1 : Int32) : Met l yX5_session wsX5_session ({ frames := 1, cells := 0, slots := 0, locals := 21 }) (va_Pc [.ref h0, .int p1] (pR G [(h0, .inr (7, [.ref xl, .ref xt, .ref xg, .ref xu, .ref xT, .ref xh, .int made, .long tim])), (xh, .inr (5, [.int num, .int ses, .long rol, .int opn, .int awl, .int aws, .int oct, .int ksf, .int ou, .ref tu, .ref tk]))] sz)) (va_Qi (fun (r : Int32) (u : Int32 × Int64 × Int32 × Int32) => (r, u) = F_X5_session made tim num ses rol opn awl aws oct ksf ou p1) (fun u t => pO G [(h0, .inr (7, [.ref xl, .ref xt, .ref xg, .ref xu, .ref xT, .ref xh, .int made, .long tim])), (xh, .inr (5, [.int num, .int u.1, .long u.2.1, .int u.2.2.1, .int u.2.2.2, .int aws, .int oct, .int ksf, .int ou, .ref tu, .ref tk]))] (va_A [(h0, .inr (7, [.ref xl, .ref xt, .ref xg, .ref xu, .ref xT, .ref xh, .int made, .long tim])), (xh, .inr (5, [.int num, .int ses, .long rol, .int opn, .int awl, .int aws, .int oct, .int ksf, .int ou, .ref tu, .ref tk]))] sz) t) (va_A [(h0, .inr (7, [.ref xl, .ref xt, .ref xg, .ref xu, .ref xT, .ref xh, .int made, .long tim])), (xh, .inr (5, [.int num, .int ses, .long rol, .int opn, .int awl, .int aws, .int oct, .int ksf, .int ou, .ref tu, .ref tk]))] sz)) 0 0 (va_A [(h0, .inr (7, [.ref xl, .ref xt, .ref xg, .ref xu, .ref xT, .ref xh, .int made, .long tim])), (xh, .inr (5, [.int num, .int ses, .long rol, .int opn, .int awl, .int aws, .int oct, .int ksf, .int ou, .ref tu, .ref tk]))] sz) := by
  refine Met.ofW (cc := cX5_session) (maxL := 3) (ret := (some .int)) (by decide) rfl ?_
  intro p e s m args below meth c s₁ B hml hv
  obtain ⟨rfl, hsz, hP, hK, hD0⟩ := hv
  have hx := B.exec
  have hb := B.bytes
  have hr := B.returns
  have hts := atoms_spec (ws := wsX5_session) B.pre
  have hown : s.vm.findClass RX5 = some m.cls := findClass_of_methodNamed B.named
  have hlocks := B.notSynchronized
  subst hsz
  have iX3 : ∀ w ∈ wsX30, w ∈ wsX5_session := by decide +kernel
  have iX5 : ∀ w ∈ wsX50, w ∈ wsX5_session := by decide +kernel
  have hD := hD0.self (sz := s.heap.size)
  generalize hAe : va_A [(h0, .inr (7, [.ref xl, .ref xt, .ref xg, .ref xu, .ref xT, .ref xh, .int made, .long tim])), (xh, .inr (5, [.int num, .int ses, .long rol, .int opn, .int awl, .int aws, .int oct, .int ksf, .int ou, .ref tu, .ref tk]))] s.heap.size = A at hD ⊢
  have hA : ∀ q : Nat, s.heap.size ≤ q → A q := fun q h => by rw [← hAe]; exact Or.inr h
  have hS : va_S A s.heap s.heap [] := va_S.rf
  have hP : va_P G.1 vwCl [(h0, .inr (7, [.ref xl, .ref xt, .ref xg, .ref xu, .ref xT, .ref xh, .int made, .long tim])), (xh, .inr (5, [.int num, .int ses, .long rol, .int opn, .int awl, .int aws, .int oct, .int ksf, .int ou, .ref tu, .ref tk]))] s.heap := hP
  have hl := lv_entry ([.ref h0, .int p1]) (n := 3) (Nat.le_of_ble_eq_true rfl)
  rw [lg_entry_eq]
  generalize (lg_sl ([.ref h0, .int p1]) ++ List.replicate (3 - (lg_sl ([.ref h0, .int p1])).length) Slot.unset).toArray = ls at hl ⊢
  have hl : lv_has ls 3 [(0, .ref h0), (1, .int p1)] := hl
  have hF : F_X5_session made tim num ses rol opn awl aws oct ksf ou p1 = F_X5_session made tim num ses rol opn awl aws oct ksf ou p1 := rfl
  refine lv_iload_n hx hb dX5_session_0 rfl (lv_at hl 1 rfl) ?_
  refine lv_iconst (v := 1) hx hb dX5_session_1 (by decide) ?_
  refine lv_icmp_lt (tgt := 10) hx hb dX5_session_2 (by decide) (fun c_2 => ?_) (fun c_2 => ?_)
  · have hF := if_t hF c_2
    refine lv_bipush (v := (-2)) hx hb dX5_session_10 (by decide) ?_
    exact W.iret (v := (-2)) hx hb hr (fun t ht hW => ⟨⟨(-2), (ses, rol, opn, awl), rfl, hF.symm, by rw [ht]; exact hP.sub [0, 1] rfl, hD.sub [0, 1] (by decide) rfl⟩, hS.F ht⟩) hS.2.2 dX5_session_12
  · have hF := if_f hF c_2
    refine lv_iload_n hx hb dX5_session_5 rfl (lv_at hl 1 rfl) ?_
    refine lv_iconst (v := 3) hx hb dX5_session_6 (by decide) ?_
    refine lv_icmp_le (tgt := 13) hx hb dX5_session_7 (by decide) (fun c_7 => ?_) (fun c_7 => ?_)
    · have hF := if_t hF c_7
      refine lv_aload_n hx hb dX5_session_13 rfl (lv_at hl 0 rfl) ?_
      refine va_get (D := G.1) (ci := 7) (v := .ref xh) (C := RX5) (T := TX5) (N := 8) hx hb hts iX5 hown hK.1 hP 0 rfl rfl 5 (by decide) (hts (.fieldLink RX5 45 "RightsSteps" "atHand" "LRightsSteps$Tester;") (by decide +kernel)) (fun _ h9 => h9) rfl dX5_session_14 ?_
      refine va_getN (D := G.1) (ci := 5) (v := .int ses) (C := RX3) (T := TX3) (N := 11) hx hb hts iX3 hown hK.1 hP 1 rfl rfl 1 (by decide) (va_Nw.use rfl hK.2.2.2.1) (fun _ h9 => h9) rfl dX5_session_17 ?_
      refine lv_istore_n (lv' := [(2, .int ses), (0, .ref h0), (1, .int p1)]) hx hb dX5_session_20 rfl hl (by decide) rfl (fun ls hl => ?_)
      refine lv_aload_n hx hb dX5_session_21 rfl (lv_at hl 1 rfl) ?_
      refine va_get (D := G.1) (ci := 7) (v := .ref xh) (C := RX5) (T := TX5) (N := 8) hx hb hts iX5 hown hK.1 hP 0 rfl rfl 5 (by decide) (hts (.fieldLink RX5 45 "RightsSteps" "atHand" "LRightsSteps$Tester;") (by decide +kernel)) (fun _ h9 => h9) rfl dX5_session_22 ?_
      refine lv_iload_n hx hb dX5_session_25 rfl (lv_at hl 2 rfl) ?_
      have hPc := hP.sub (ws' := [(xh, .inr (5, [.int num, .int ses, .long rol, .int opn, .int awl, .int aws, .int oct, .int ksf, .int ou, .ref tu, .ref tk]))]) [1] rfl
      have hDc := hD.sub (ws' := [(xh, .inr (5, [.int num, .int ses, .long rol, .int opn, .int awl, .int aws, .int oct, .int ksf, .int ou, .ref tu, .ref tk]))]) [1] (by decide) rfl
      refine cl_v (wr := [(h0, .inr (7, [.ref xl, .ref xt, .ref xg, .ref xu, .ref xT, .ref xh, .int made, .long tim]))]) (va_runV (As := [.int p1]) (rest := []) ⟨hx, hb, hml, hown, hts⟩ (c_X3_startSession l G xh tu tk _ num ses rol opn awl aws oct ksf ou p1) (cwV 1 hts gX5_session_X3_startSession rfl rfl rfl (by decide +kernel) ⟨Nat.le_of_ble_eq_true rfl, Nat.le_of_ble_eq_true rfl⟩) (pR_V hK hPc hDc (q0 := 0) rfl rfl) rfl rfl hl.1 rfl (lv_room (Nat.le_of_ble_eq_true rfl)) dX5_session_26 ⟨Nat.le_of_ble_eq_true rfl, Nat.le_of_ble_eq_true rfl⟩) hP hD hS hA [1] [0] rfl rfl (by decide) (by decide) (fun u1 ez1 H locs hP hD hS => ?_)
      have hP : va_P G.1 vwCl [(h0, .inr (7, [.ref xl, .ref xt, .ref xg, .ref xu, .ref xT, .ref xh, .int made, .long tim])), (xh, .inr (5, [.int num, .int u1.1, .long u1.2.1, .int u1.2.2.1, .int u1.2.2.2, .int aws, .int oct, .int ksf, .int ou, .ref tu, .ref tk]))] H := hP
      have hD : va_D A [(h0, .inr (7, [.ref xl, .ref xt, .ref xg, .ref xu, .ref xT, .ref xh, .int made, .long tim])), (xh, .inr (5, [.int num, .int u1.1, .long u1.2.1, .int u1.2.2.1, .int u1.2.2.2, .int aws, .int oct, .int ksf, .int ou, .ref tu, .ref tk]))] := hD
      have hF := lz_e hF ez1
      refine lv_iload_n hx hb dX5_session_29 rfl (lv_at hl 0 rfl) ?_
      exact W.iret (v := ses) hx hb hr (fun t ht hW => ⟨⟨ses, (u1.1, u1.2.1, u1.2.2.1, u1.2.2.2), rfl, hF.symm, by rw [ht]; exact hP.sub [0, 1] rfl, hD.sub [0, 1] (by decide) rfl⟩, hS.F ht⟩) hS.2.2 dX5_session_30
    · have hF := if_f hF c_7
      refine lv_bipush (v := (-2)) hx hb dX5_session_10 (by decide) ?_
      exact W.iret (v := (-2)) hx hb hr (fun t ht hW => ⟨⟨(-2), (ses, rol, opn, awl), rfl, hF.symm, by rw [ht]; exact hP.sub [0, 1] rfl, hD.sub [0, 1] (by decide) rfl⟩, hS.F ht⟩) hS.2.2 dX5_session_12

def F_X5_role (made : Int32) (tim : Int64) (num : Int32) (ses : Int32) (rol : Int64) (opn : Int32) (awl : Int32) (aws : Int32) (oct : Int32) (ksf : Int32) (ou : Int32) (p1 : Int32) (p2 : Int32) (p3 : Int64) : Int32 × Int64 :=
  (if p1 < 1 then ((-1), rol) else (if p1 ≤ 8 then (if p2 = 0 then (0, rol) else (if 0 < (lg_cmp p3 tim) then (1, p3) else (0, rol))) else ((-1), rol)))
set_option maxHeartbeats 4000000 in
set_option maxRecDepth 100000 in
theorem c_X5_role (l : Launch) (G : gG) (h0 xh xl xt xg xu xT tu tk : Nat) (sz : Nat) (made : Int32) (tim : Int64) (num : Int32) (ses : Int32) (rol : Int64) (opn : Int32) (awl : Int32) (aws : Int32) (oct : Int32) (ksf : Int32) (ou : Int32) (p1 : Int32) (p2 : Int32) (p3 : Int64) : Met l yX5_role wsX5_role ({ frames := 0, cells := 0, slots := 0, locals := 0 }) (va_Pc [.ref h0, .int p1, .int p2, .long p3] (pR G [(h0, .inr (7, [.ref xl, .ref xt, .ref xg, .ref xu, .ref xT, .ref xh, .int made, .long tim])), (xh, .inr (5, [.int num, .int ses, .long rol, .int opn, .int awl, .int aws, .int oct, .int ksf, .int ou, .ref tu, .ref tk]))] sz)) (va_Qi (fun (r : Int32) (u : Int64) => (r, u) = F_X5_role made tim num ses rol opn awl aws oct ksf ou p1 p2 p3) (fun u t => pO G [(h0, .inr (7, [.ref xl, .ref xt, .ref xg, .ref xu, .ref xT, .ref xh, .int made, .long tim])), (xh, .inr (5, [.int num, .int ses, .long u, .int opn, .int awl, .int aws, .int oct, .int ksf, .int ou, .ref tu, .ref tk]))] (va_A [(h0, .inr (7, [.ref xl, .ref xt, .ref xg, .ref xu, .ref xT, .ref xh, .int made, .long tim])), (xh, .inr (5, [.int num, .int ses, .long rol, .int opn, .int awl, .int aws, .int oct, .int ksf, .int ou, .ref tu, .ref tk]))] sz) t) (va_A [(h0, .inr (7, [.ref xl, .ref xt, .ref xg, .ref xu, .ref xT, .ref xh, .int made, .long tim])), (xh, .inr (5, [.int num, .int ses, .long rol, .int opn, .int awl, .int aws, .int oct, .int ksf, .int ou, .ref tu, .ref tk]))] sz)) 0 0 (va_A [(h0, .inr (7, [.ref xl, .ref xt, .ref xg, .ref xu, .ref xT, .ref xh, .int made, .long tim])), (xh, .inr (5, [.int num, .int ses, .long rol, .int opn, .int awl, .int aws, .int oct, .int ksf, .int ou, .ref tu, .ref tk]))] sz) := by
  refine Met.ofW (cc := cX5_role) (maxL := 5) (ret := (some .int)) (by decide) rfl ?_
  intro p e s m args below meth c s₁ B hml hv
  obtain ⟨rfl, hsz, hP, hK, hD0⟩ := hv
  have hx := B.exec
  have hb := B.bytes
  have hr := B.returns
  have hts := atoms_spec (ws := wsX5_role) B.pre
  have hown : s.vm.findClass RX5 = some m.cls := findClass_of_methodNamed B.named
  have hlocks := B.notSynchronized
  subst hsz
  have iX3 : ∀ w ∈ wsX30, w ∈ wsX5_role := by decide +kernel
  have iX5 : ∀ w ∈ wsX50, w ∈ wsX5_role := by decide +kernel
  have hD := hD0.self (sz := s.heap.size)
  generalize hAe : va_A [(h0, .inr (7, [.ref xl, .ref xt, .ref xg, .ref xu, .ref xT, .ref xh, .int made, .long tim])), (xh, .inr (5, [.int num, .int ses, .long rol, .int opn, .int awl, .int aws, .int oct, .int ksf, .int ou, .ref tu, .ref tk]))] s.heap.size = A at hD ⊢
  have hA : ∀ q : Nat, s.heap.size ≤ q → A q := fun q h => by rw [← hAe]; exact Or.inr h
  have hS : va_S A s.heap s.heap [] := va_S.rf
  have hP : va_P G.1 vwCl [(h0, .inr (7, [.ref xl, .ref xt, .ref xg, .ref xu, .ref xT, .ref xh, .int made, .long tim])), (xh, .inr (5, [.int num, .int ses, .long rol, .int opn, .int awl, .int aws, .int oct, .int ksf, .int ou, .ref tu, .ref tk]))] s.heap := hP
  have hl := lv_entry ([.ref h0, .int p1, .int p2, .long p3]) (n := 5) (Nat.le_of_ble_eq_true rfl)
  rw [lg_entry_eq]
  generalize (lg_sl ([.ref h0, .int p1, .int p2, .long p3]) ++ List.replicate (5 - (lg_sl ([.ref h0, .int p1, .int p2, .long p3])).length) Slot.unset).toArray = ls at hl ⊢
  have hl : lv_has ls 5 [(0, .ref h0), (1, .int p1), (2, .int p2), (3, .long p3)] := hl
  have hF : F_X5_role made tim num ses rol opn awl aws oct ksf ou p1 p2 p3 = F_X5_role made tim num ses rol opn awl aws oct ksf ou p1 p2 p3 := rfl
  refine lv_iload_n hx hb dX5_role_0 rfl (lv_at hl 1 rfl) ?_
  refine lv_iconst (v := 1) hx hb dX5_role_1 (by decide) ?_
  refine lv_icmp_lt (tgt := 11) hx hb dX5_role_2 (by decide) (fun c_2 => ?_) (fun c_2 => ?_)
  · have hF := if_t hF c_2
    refine lv_iconst (v := (-1)) hx hb dX5_role_11 (by decide) ?_
    exact W.iret (v := (-1)) hx hb hr (fun t ht hW => ⟨⟨(-1), rol, rfl, hF.symm, by rw [ht]; exact hP.sub [0, 1] rfl, hD.sub [0, 1] (by decide) rfl⟩, hS.F ht⟩) hS.2.2 dX5_role_12
  · have hF := if_f hF c_2
    refine lv_iload_n hx hb dX5_role_5 rfl (lv_at hl 1 rfl) ?_
    refine lv_bipush (v := 8) hx hb dX5_role_6 (by decide) ?_
    refine lv_icmp_le (tgt := 13) hx hb dX5_role_8 (by decide) (fun c_8 => ?_) (fun c_8 => ?_)
    · have hF := if_t hF c_8
      refine lv_iload_n hx hb dX5_role_13 rfl (lv_at hl 2 rfl) ?_
      refine lv_if_eq (tgt := 26) hx hb dX5_role_14 (by decide) (fun c_14 => ?_) (fun c_14 => ?_)
      · have hF := if_t hF c_14
        refine lv_iconst (v := 0) hx hb dX5_role_26 (by decide) ?_
        exact W.iret (v := 0) hx hb hr (fun t ht hW => ⟨⟨0, rol, rfl, hF.symm, by rw [ht]; exact hP.sub [0, 1] rfl, hD.sub [0, 1] (by decide) rfl⟩, hS.F ht⟩) hS.2.2 dX5_role_27
      · have hF := if_f hF c_14
        refine lv_lload_n hx hb dX5_role_17 rfl (lv_at hl 3 rfl) ?_
        refine lv_aload_n hx hb dX5_role_18 rfl (lv_at hl 0 rfl) ?_
        refine va_get (D := G.1) (ci := 7) (v := .long tim) (C := RX5) (T := TX5) (N := 8) hx hb hts iX5 hown hK.1 hP 0 rfl rfl 7 (by decide) (hts (.fieldLink RX5 65 "RightsSteps" "time" "J") (by decide +kernel)) (fun _ h9 => h9) rfl dX5_role_19 ?_
        refine W.lcmp hx hb dX5_role_22 ?_
        refine lv_if_gt (tgt := 28) hx hb dX5_role_23 (by decide) (fun c_23 => ?_) (fun c_23 => ?_)
        · have hF := if_t hF c_23
          refine lv_aload_n hx hb dX5_role_28 rfl (lv_at hl 0 rfl) ?_
          refine va_get (D := G.1) (ci := 7) (v := .ref xh) (C := RX5) (T := TX5) (N := 8) hx hb hts iX5 hown hK.1 hP 0 rfl rfl 5 (by decide) (hts (.fieldLink RX5 45 "RightsSteps" "atHand" "LRightsSteps$Tester;") (by decide +kernel)) (fun _ h9 => h9) rfl dX5_role_29 ?_
          refine lv_lload_n hx hb dX5_role_32 rfl (lv_at hl 3 rfl) ?_
          refine va_putN (D := G.1) (ci := 5) (v := .long p3) (ty := .long) (C := RX3) (T := TX3) (N := 11) hx hb hts iX3 tyX3 tyX3_ok nmX3 hown hK.1 hP hD hS 1 rfl rfl 2 (by decide) (va_Nw.use rfl hK.2.2.2.2.1) (fun _ h9 => h9) rfl (by decide +kernel) rfl rfl (Nat.le_of_ble_eq_true rfl) dX5_role_33 (fun H locs hP hD hS => ?_)
          have hP : va_P G.1 vwCl [(h0, .inr (7, [.ref xl, .ref xt, .ref xg, .ref xu, .ref xT, .ref xh, .int made, .long tim])), (xh, .inr (5, [.int num, .int ses, .long p3, .int opn, .int awl, .int aws, .int oct, .int ksf, .int ou, .ref tu, .ref tk]))] H := hP
          have hD : va_D A [(h0, .inr (7, [.ref xl, .ref xt, .ref xg, .ref xu, .ref xT, .ref xh, .int made, .long tim])), (xh, .inr (5, [.int num, .int ses, .long p3, .int opn, .int awl, .int aws, .int oct, .int ksf, .int ou, .ref tu, .ref tk]))] := hD
          refine lv_iconst (v := 1) hx hb dX5_role_36 (by decide) ?_
          exact W.iret (v := 1) hx hb hr (fun t ht hW => ⟨⟨1, p3, rfl, hF.symm, by rw [ht]; exact hP.sub [0, 1] rfl, hD.sub [0, 1] (by decide) rfl⟩, hS.F ht⟩) hS.2.2 dX5_role_37
        · have hF := if_f hF c_23
          refine lv_iconst (v := 0) hx hb dX5_role_26 (by decide) ?_
          exact W.iret (v := 0) hx hb hr (fun t ht hW => ⟨⟨0, rol, rfl, hF.symm, by rw [ht]; exact hP.sub [0, 1] rfl, hD.sub [0, 1] (by decide) rfl⟩, hS.F ht⟩) hS.2.2 dX5_role_27
    · have hF := if_f hF c_8
      refine lv_iconst (v := (-1)) hx hb dX5_role_11 (by decide) ?_
      exact W.iret (v := (-1)) hx hb hr (fun t ht hW => ⟨⟨(-1), rol, rfl, hF.symm, by rw [ht]; exact hP.sub [0, 1] rfl, hD.sub [0, 1] (by decide) rfl⟩, hS.F ht⟩) hS.2.2 dX5_role_12

def F_X5_left (made : Int32) (tim : Int64) (lv : Nat → Option Nat) (num : Int32) (ses : Int32) (rol : Int64) (opn : Int32) (awl : Int32) (aws : Int32) (oct : Int32) (ksf : Int32) (ou : Int32) (lk : Nat → Int64) (p1 : Int32) (p2 : Int64) : Int32 :=
  (oc (F_X5_madeLevel made tim lv p1) (-1) (fun y5 => (if (lg_cmp p2 (F_X3_lockedUntil num ses rol opn awl aws oct ksf ou lk p1)) < 0 then (if 0 ≤ (lg_cmp p2 ((F_X3_lockedUntil num ses rol opn awl aws oct ksf ou lk p1) - 1000000)) then ((((F_X3_lockedUntil num ses rol opn awl aws oct ksf ou lk p1) - p2) : Int64).toInt32) else 1000000) else 0)))
set_option maxHeartbeats 4000000 in
set_option maxRecDepth 100000 in
theorem c_X5_left (l : Launch) (G : gG) (h0 xl xh tk xt xg xu xT tu : Nat) (sz : Nat) (made : Int32) (tim : Int64) (lv : Nat → Option Nat) (num : Int32) (ses : Int32) (rol : Int64) (opn : Int32) (awl : Int32) (aws : Int32) (oct : Int32) (ksf : Int32) (ou : Int32) (lk : Nat → Int64) (p1 : Int32) (p2 : Int64) : Met l yX5_left wsX5_left ({ frames := 1, cells := 0, slots := 0, locals := 21 }) (va_Pc [.ref h0, .int p1, .long p2] (pR G [(h0, .inr (7, [.ref xl, .ref xt, .ref xg, .ref xu, .ref xT, .ref xh, .int made, .long tim])), (xl, .inl (G.2 3, 21, .inr (.inr (.inr (.inr lv))))), (xh, .inr (5, [.int num, .int ses, .long rol, .int opn, .int awl, .int aws, .int oct, .int ksf, .int ou, .ref tu, .ref tk])), (tk, .inl (G.2 1, 21, .inr (.inl lk)))] sz)) (pQ (.int (F_X5_left made tim lv num ses rol opn awl aws oct ksf ou lk p1 p2))) 0 0 (fun _ => False) := by
  refine Met.ofW (cc := cX5_left) (maxL := 6) (ret := (some .int)) (by decide) rfl ?_
  intro p e s m args below meth c s₁ B hml hv
  obtain ⟨rfl, hsz, hP, hK, hD0⟩ := hv
  have hx := B.exec
  have hb := B.bytes
  have hr := B.returns
  have hts := atoms_spec (ws := wsX5_left) B.pre
  have hown : s.vm.findClass RX5 = some m.cls := findClass_of_methodNamed B.named
  have hlocks := B.notSynchronized
  subst hsz
  have iX5 : ∀ w ∈ wsX50, w ∈ wsX5_left := by decide +kernel
  have hD := hD0
  have hP : va_P G.1 vwCl [(h0, .inr (7, [.ref xl, .ref xt, .ref xg, .ref xu, .ref xT, .ref xh, .int made, .long tim])), (xl, .inl (G.2 3, 21, .inr (.inr (.inr (.inr lv))))), (xh, .inr (5, [.int num, .int ses, .long rol, .int opn, .int awl, .int aws, .int oct, .int ksf, .int ou, .ref tu, .ref tk])), (tk, .inl (G.2 1, 21, .inr (.inl lk)))] s.heap := hP
  have hl := lv_entry ([.ref h0, .int p1, .long p2]) (n := 6) (Nat.le_of_ble_eq_true rfl)
  rw [lg_entry_eq]
  generalize (lg_sl ([.ref h0, .int p1, .long p2]) ++ List.replicate (6 - (lg_sl ([.ref h0, .int p1, .long p2])).length) Slot.unset).toArray = ls at hl ⊢
  have hl : lv_has ls 6 [(0, .ref h0), (1, .int p1), (2, .long p2)] := hl
  have hF : F_X5_left made tim lv num ses rol opn awl aws oct ksf ou lk p1 p2 = F_X5_left made tim lv num ses rol opn awl aws oct ksf ou lk p1 p2 := rfl
  refine lv_aload_n hx hb dX5_left_0 rfl (lv_at hl 0 rfl) ?_
  refine lv_iload_n hx hb dX5_left_1 rfl (lv_at hl 1 rfl) ?_
  have hPc := hP.sub (ws' := [(h0, .inr (7, [.ref xl, .ref xt, .ref xg, .ref xu, .ref xT, .ref xh, .int made, .long tim])), (xl, .inl (G.2 3, 21, .inr (.inr (.inr (.inr lv)))))]) [0, 1] rfl
  have hDc := hD.sub (ws' := [(h0, .inr (7, [.ref xl, .ref xt, .ref xg, .ref xu, .ref xT, .ref xh, .int made, .long tim])), (xl, .inl (G.2 3, 21, .inr (.inr (.inr (.inr lv)))))]) [0, 1] (by decide) rfl
  refine pu_call (va_runV (As := [.int p1]) (rest := []) ⟨hx, hb, hml, hown, hts⟩ (c_X5_madeLevel l G h0 xl xt xg xu xT xh _ made tim lv p1) (cwV 1 hts gX5_left_X5_madeLevel rfl rfl rfl (by decide +kernel) ⟨Nat.le_of_ble_eq_true rfl, Nat.le_of_ble_eq_true rfl⟩) (pR_V hK hPc hDc (q0 := 0) rfl rfl) rfl rfl hl.1 rfl (lv_room (Nat.le_of_ble_eq_true rfl)) dX5_left_2 ⟨Nat.le_of_ble_eq_true rfl, Nat.le_of_ble_eq_true rfl⟩) ?_
  rcases hQ_5 : (F_X5_madeLevel made tim lv p1) with _ | y5
  · have hF := oc_n hF hQ_5
    refine lv_ifnonnullN hx hb dX5_left_5 ?_
    refine lv_iconst (v := (-1)) hx hb dX5_left_8 (by decide) ?_
    exact W.iret (v := (-1)) hx hb hr (fun t ht hW => ⟨by rw [hF], ht⟩) (fun _ h => by cases h) dX5_left_9
  · have hF := oc_s hF hQ_5
    refine lv_ifnonnull (tgt := 10) hx hb dX5_left_5 (by decide) ?_
    refine lv_aload_n hx hb dX5_left_10 rfl (lv_at hl 0 rfl) ?_
    refine va_get (D := G.1) (ci := 7) (v := .ref xh) (C := RX5) (T := TX5) (N := 8) hx hb hts iX5 hown hK.1 hP 0 rfl rfl 5 (by decide) (hts (.fieldLink RX5 45 "RightsSteps" "atHand" "LRightsSteps$Tester;") (by decide +kernel)) (fun _ h9 => h9) rfl dX5_left_11 ?_
    refine lv_iload_n hx hb dX5_left_14 rfl (lv_at hl 1 rfl) ?_
    have hPc := hP.sub (ws' := [(xh, .inr (5, [.int num, .int ses, .long rol, .int opn, .int awl, .int aws, .int oct, .int ksf, .int ou, .ref tu, .ref tk])), (tk, .inl (G.2 1, 21, .inr (.inl lk)))]) [2, 3] rfl
    have hDc := hD.sub (ws' := [(xh, .inr (5, [.int num, .int ses, .long rol, .int opn, .int awl, .int aws, .int oct, .int ksf, .int ou, .ref tu, .ref tk])), (tk, .inl (G.2 1, 21, .inr (.inl lk)))]) [2, 3] (by decide) rfl
    refine pu_call (va_runV (As := [.int p1]) (rest := []) ⟨hx, hb, hml, hown, hts⟩ (c_X3_lockedUntil l G xh tk tu _ num ses rol opn awl aws oct ksf ou lk p1) (cwV 1 hts gX5_left_X3_lockedUntil rfl rfl rfl (by decide +kernel) ⟨Nat.le_of_ble_eq_true rfl, Nat.le_of_ble_eq_true rfl⟩) (pR_V hK hPc hDc (q0 := 0) rfl rfl) rfl rfl hl.1 rfl (lv_room (Nat.le_of_ble_eq_true rfl)) dX5_left_15 ⟨Nat.le_of_ble_eq_true rfl, Nat.le_of_ble_eq_true rfl⟩) ?_
    refine lv_lstore (lv' := [(4, .long (F_X3_lockedUntil num ses rol opn awl aws oct ksf ou lk p1)), (0, .ref h0), (1, .int p1), (2, .long p2)]) hx hb dX5_left_18 hl (by decide) rfl (fun ls hl => ?_)
    refine lv_lload_n hx hb dX5_left_20 rfl (lv_at hl 3 rfl) ?_
    refine lv_lload hx hb dX5_left_21 (lv_at hl 0 rfl) ?_
    refine W.lcmp hx hb dX5_left_23 ?_
    refine lv_if_lt (tgt := 29) hx hb dX5_left_24 (by decide) (fun c_24 => ?_) (fun c_24 => ?_)
    · have hF := if_t hF c_24
      refine lv_lload_n hx hb dX5_left_29 rfl (lv_at hl 3 rfl) ?_
      refine lv_lload hx hb dX5_left_30 (lv_at hl 0 rfl) ?_
      refine lv_ldc2 (v := 1000000) hx hb hown (hts (.constantLong RX5 123 (1000000)) (by decide +kernel)) dX5_left_32 ?_
      refine lv_lsub hx hb dX5_left_35 ?_
      refine W.lcmp hx hb dX5_left_36 ?_
      refine lv_if_ge (tgt := 43) hx hb dX5_left_37 (by decide) (fun c_37 => ?_) (fun c_37 => ?_)
      · have hF := if_t hF c_37
        refine lv_lload hx hb dX5_left_43 (lv_at hl 0 rfl) ?_
        refine lv_lload_n hx hb dX5_left_45 rfl (lv_at hl 3 rfl) ?_
        refine lv_lsub hx hb dX5_left_46 ?_
        refine lv_l2i (v := ((((F_X3_lockedUntil num ses rol opn awl aws oct ksf ou lk p1) - p2) : Int64).toInt32)) hx hb dX5_left_47 rfl ?_
        exact W.iret (v := ((((F_X3_lockedUntil num ses rol opn awl aws oct ksf ou lk p1) - p2) : Int64).toInt32)) hx hb hr (fun t ht hW => ⟨by rw [hF], ht⟩) (fun _ h => by cases h) dX5_left_48
      · have hF := if_f hF c_37
        refine lv_ldc (v := 1000000) hx hb hown (hts (.constant RX5 125 (1000000)) (by decide +kernel)) dX5_left_40 ?_
        exact W.iret (v := 1000000) hx hb hr (fun t ht hW => ⟨by rw [hF], ht⟩) (fun _ h => by cases h) dX5_left_42
    · have hF := if_f hF c_24
      refine lv_iconst (v := 0) hx hb dX5_left_27 (by decide) ?_
      exact W.iret (v := 0) hx hb hr (fun t ht hW => ⟨by rw [hF], ht⟩) (fun _ h => by cases h) dX5_left_28

def F_X5_log (made : Int32) (tim : Int64) (kept : Int32) (cnt : Int32) (prt : Nat → Int32) (p1 : Int32) (p2 : Int32) : Int32 :=
  (if p1 = (-1) then (if p2 = 0 then cnt else (if (F_X4_has kept cnt p1) = 0 then (-1) else (if p2 < 0 then (-2) else (if p2 < 3 then (F_X4_part kept cnt prt p1 p2) else (-2))))) else (if (F_X4_has kept cnt p1) = 0 then (-1) else (if p2 < 0 then (-2) else (if p2 < 3 then (F_X4_part kept cnt prt p1 p2) else (-2)))))
set_option maxHeartbeats 4000000 in
set_option maxRecDepth 100000 in
theorem c_X5_log (l : Launch) (G : gG) (h0 xu xp xl xt xg xT xh : Nat) (sz : Nat) (made : Int32) (tim : Int64) (kept : Int32) (cnt : Int32) (prt : Nat → Int32) (p1 : Int32) (p2 : Int32) (hk : vp_in kept 301) : Met l yX5_log wsX5_log ({ frames := 2, cells := 0, slots := 0, locals := 43 }) (va_Pc [.ref h0, .int p1, .int p2] (pR G [(h0, .inr (7, [.ref xl, .ref xt, .ref xg, .ref xu, .ref xT, .ref xh, .int made, .long tim])), (xu, .inr (6, [.ref xp, .int kept, .int cnt])), (xp, .inl (G.2 0, 900, .inl prt))] sz)) (pQ (.int (F_X5_log made tim kept cnt prt p1 p2))) 0 0 (fun _ => False) := by
  refine Met.ofW (cc := cX5_log) (maxL := 3) (ret := (some .int)) (by decide) rfl ?_
  intro p e s m args below meth c s₁ B hml hv
  obtain ⟨rfl, hsz, hP, hK, hD0⟩ := hv
  have hx := B.exec
  have hb := B.bytes
  have hr := B.returns
  have hts := atoms_spec (ws := wsX5_log) B.pre
  have hown : s.vm.findClass RX5 = some m.cls := findClass_of_methodNamed B.named
  have hlocks := B.notSynchronized
  subst hsz
  have iX4 : ∀ w ∈ wsX40, w ∈ wsX5_log := by decide +kernel
  have iX5 : ∀ w ∈ wsX50, w ∈ wsX5_log := by decide +kernel
  have hD := hD0
  have hP : va_P G.1 vwCl [(h0, .inr (7, [.ref xl, .ref xt, .ref xg, .ref xu, .ref xT, .ref xh, .int made, .long tim])), (xu, .inr (6, [.ref xp, .int kept, .int cnt])), (xp, .inl (G.2 0, 900, .inl prt))] s.heap := hP
  have hl := lv_entry ([.ref h0, .int p1, .int p2]) (n := 3) (Nat.le_of_ble_eq_true rfl)
  rw [lg_entry_eq]
  generalize (lg_sl ([.ref h0, .int p1, .int p2]) ++ List.replicate (3 - (lg_sl ([.ref h0, .int p1, .int p2])).length) Slot.unset).toArray = ls at hl ⊢
  have hl : lv_has ls 3 [(0, .ref h0), (1, .int p1), (2, .int p2)] := hl
  have hF : F_X5_log made tim kept cnt prt p1 p2 = F_X5_log made tim kept cnt prt p1 p2 := rfl
  refine lv_iload_n hx hb dX5_log_0 rfl (lv_at hl 1 rfl) ?_
  refine lv_iconst (v := (-1)) hx hb dX5_log_1 (by decide) ?_
  refine lv_icmp_ne (tgt := 17) hx hb dX5_log_2 (by decide) (fun c_2 => ?_) (fun c_2 => ?_)
  · have hF := if_f hF c_2
    refine lv_aload_n hx hb dX5_log_17 rfl (lv_at hl 0 rfl) ?_
    refine va_get (D := G.1) (ci := 7) (v := .ref xu) (C := RX5) (T := TX5) (N := 8) hx hb hts iX5 hown hK.1 hP 0 rfl rfl 3 (by decide) (hts (.fieldLink RX5 32 "RightsSteps" "uses" "LRightsSteps$UseLog;") (by decide +kernel)) (fun _ h9 => h9) rfl dX5_log_18 ?_
    refine lv_iload_n hx hb dX5_log_21 rfl (lv_at hl 1 rfl) ?_
    have hPc := hP.sub (ws' := [(xu, .inr (6, [.ref xp, .int kept, .int cnt]))]) [1] rfl
    have hDc := hD.sub (ws' := [(xu, .inr (6, [.ref xp, .int kept, .int cnt]))]) [1] (by decide) rfl
    refine pu_call (va_runV (As := [.int p1]) (rest := []) ⟨hx, hb, hml, hown, hts⟩ (c_X4_has l G xu xp _ kept cnt p1) (cwV 1 hts gX5_log_X4_has rfl rfl rfl (by decide +kernel) ⟨Nat.le_of_ble_eq_true rfl, Nat.le_of_ble_eq_true rfl⟩) (pR_V hK hPc hDc (q0 := 0) rfl rfl) rfl rfl hl.1 rfl (lv_room (Nat.le_of_ble_eq_true rfl)) dX5_log_22 ⟨Nat.le_of_ble_eq_true rfl, Nat.le_of_ble_eq_true rfl⟩) ?_
    refine lv_if_ne (tgt := 30) hx hb dX5_log_25 (by decide) (fun c_25 => ?_) (fun c_25 => ?_)
    · have hF := if_f hF c_25
      refine lv_iload_n hx hb dX5_log_30 rfl (lv_at hl 2 rfl) ?_
      refine lv_if_lt (tgt := 39) hx hb dX5_log_31 (by decide) (fun c_31 => ?_) (fun c_31 => ?_)
      · have hF := if_t hF c_31
        refine lv_bipush (v := (-2)) hx hb dX5_log_39 (by decide) ?_
        exact W.iret (v := (-2)) hx hb hr (fun t ht hW => ⟨by rw [hF], ht⟩) (fun _ h => by cases h) dX5_log_41
      · have hF := if_f hF c_31
        refine lv_iload_n hx hb dX5_log_34 rfl (lv_at hl 2 rfl) ?_
        refine lv_iconst (v := 3) hx hb dX5_log_35 (by decide) ?_
        refine lv_icmp_lt (tgt := 42) hx hb dX5_log_36 (by decide) (fun c_36 => ?_) (fun c_36 => ?_)
        · have hF := if_t hF c_36
          refine lv_aload_n hx hb dX5_log_42 rfl (lv_at hl 0 rfl) ?_
          refine va_get (D := G.1) (ci := 7) (v := .ref xu) (C := RX5) (T := TX5) (N := 8) hx hb hts iX5 hown hK.1 hP 0 rfl rfl 3 (by decide) (hts (.fieldLink RX5 32 "RightsSteps" "uses" "LRightsSteps$UseLog;") (by decide +kernel)) (fun _ h9 => h9) rfl dX5_log_43 ?_
          refine lv_iload_n hx hb dX5_log_46 rfl (lv_at hl 1 rfl) ?_
          refine lv_iload_n hx hb dX5_log_47 rfl (lv_at hl 2 rfl) ?_
          have hPc := hP.sub (ws' := [(xu, .inr (6, [.ref xp, .int kept, .int cnt])), (xp, .inl (G.2 0, 900, .inl prt))]) [1, 2] rfl
          have hDc := hD.sub (ws' := [(xu, .inr (6, [.ref xp, .int kept, .int cnt])), (xp, .inl (G.2 0, 900, .inl prt))]) [1, 2] (by decide) rfl
          refine pu_call (va_runV (As := [.int p1, .int p2]) (rest := []) ⟨hx, hb, hml, hown, hts⟩ (c_X4_part l G xu xp _ kept cnt prt p1 p2 hk) (cwV 2 hts gX5_log_X4_part rfl rfl rfl (by decide +kernel) ⟨Nat.le_of_ble_eq_true rfl, Nat.le_of_ble_eq_true rfl⟩) (pR_V hK hPc hDc (q0 := 0) rfl rfl) rfl rfl hl.1 rfl (lv_room (Nat.le_of_ble_eq_true rfl)) dX5_log_48 ⟨Nat.le_of_ble_eq_true rfl, Nat.le_of_ble_eq_true rfl⟩) ?_
          exact W.iret (v := (F_X4_part kept cnt prt p1 p2)) hx hb hr (fun t ht hW => ⟨by rw [hF], ht⟩) (fun _ h => by cases h) dX5_log_51
        · have hF := if_f hF c_36
          refine lv_bipush (v := (-2)) hx hb dX5_log_39 (by decide) ?_
          exact W.iret (v := (-2)) hx hb hr (fun t ht hW => ⟨by rw [hF], ht⟩) (fun _ h => by cases h) dX5_log_41
    · have hF := if_t hF c_25
      refine lv_iconst (v := (-1)) hx hb dX5_log_28 (by decide) ?_
      exact W.iret (v := (-1)) hx hb hr (fun t ht hW => ⟨by rw [hF], ht⟩) (fun _ h => by cases h) dX5_log_29
  · have hF := if_t hF c_2
    refine lv_iload_n hx hb dX5_log_5 rfl (lv_at hl 2 rfl) ?_
    refine lv_if_ne (tgt := 17) hx hb dX5_log_6 (by decide) (fun c_6 => ?_) (fun c_6 => ?_)
    · have hF := if_f hF c_6
      refine lv_aload_n hx hb dX5_log_17 rfl (lv_at hl 0 rfl) ?_
      refine va_get (D := G.1) (ci := 7) (v := .ref xu) (C := RX5) (T := TX5) (N := 8) hx hb hts iX5 hown hK.1 hP 0 rfl rfl 3 (by decide) (hts (.fieldLink RX5 32 "RightsSteps" "uses" "LRightsSteps$UseLog;") (by decide +kernel)) (fun _ h9 => h9) rfl dX5_log_18 ?_
      refine lv_iload_n hx hb dX5_log_21 rfl (lv_at hl 1 rfl) ?_
      have hPc := hP.sub (ws' := [(xu, .inr (6, [.ref xp, .int kept, .int cnt]))]) [1] rfl
      have hDc := hD.sub (ws' := [(xu, .inr (6, [.ref xp, .int kept, .int cnt]))]) [1] (by decide) rfl
      refine pu_call (va_runV (As := [.int p1]) (rest := []) ⟨hx, hb, hml, hown, hts⟩ (c_X4_has l G xu xp _ kept cnt p1) (cwV 1 hts gX5_log_X4_has rfl rfl rfl (by decide +kernel) ⟨Nat.le_of_ble_eq_true rfl, Nat.le_of_ble_eq_true rfl⟩) (pR_V hK hPc hDc (q0 := 0) rfl rfl) rfl rfl hl.1 rfl (lv_room (Nat.le_of_ble_eq_true rfl)) dX5_log_22 ⟨Nat.le_of_ble_eq_true rfl, Nat.le_of_ble_eq_true rfl⟩) ?_
      refine lv_if_ne (tgt := 30) hx hb dX5_log_25 (by decide) (fun c_25 => ?_) (fun c_25 => ?_)
      · have hF := if_f hF c_25
        refine lv_iload_n hx hb dX5_log_30 rfl (lv_at hl 2 rfl) ?_
        refine lv_if_lt (tgt := 39) hx hb dX5_log_31 (by decide) (fun c_31 => ?_) (fun c_31 => ?_)
        · have hF := if_t hF c_31
          refine lv_bipush (v := (-2)) hx hb dX5_log_39 (by decide) ?_
          exact W.iret (v := (-2)) hx hb hr (fun t ht hW => ⟨by rw [hF], ht⟩) (fun _ h => by cases h) dX5_log_41
        · have hF := if_f hF c_31
          refine lv_iload_n hx hb dX5_log_34 rfl (lv_at hl 2 rfl) ?_
          refine lv_iconst (v := 3) hx hb dX5_log_35 (by decide) ?_
          refine lv_icmp_lt (tgt := 42) hx hb dX5_log_36 (by decide) (fun c_36 => ?_) (fun c_36 => ?_)
          · have hF := if_t hF c_36
            refine lv_aload_n hx hb dX5_log_42 rfl (lv_at hl 0 rfl) ?_
            refine va_get (D := G.1) (ci := 7) (v := .ref xu) (C := RX5) (T := TX5) (N := 8) hx hb hts iX5 hown hK.1 hP 0 rfl rfl 3 (by decide) (hts (.fieldLink RX5 32 "RightsSteps" "uses" "LRightsSteps$UseLog;") (by decide +kernel)) (fun _ h9 => h9) rfl dX5_log_43 ?_
            refine lv_iload_n hx hb dX5_log_46 rfl (lv_at hl 1 rfl) ?_
            refine lv_iload_n hx hb dX5_log_47 rfl (lv_at hl 2 rfl) ?_
            have hPc := hP.sub (ws' := [(xu, .inr (6, [.ref xp, .int kept, .int cnt])), (xp, .inl (G.2 0, 900, .inl prt))]) [1, 2] rfl
            have hDc := hD.sub (ws' := [(xu, .inr (6, [.ref xp, .int kept, .int cnt])), (xp, .inl (G.2 0, 900, .inl prt))]) [1, 2] (by decide) rfl
            refine pu_call (va_runV (As := [.int p1, .int p2]) (rest := []) ⟨hx, hb, hml, hown, hts⟩ (c_X4_part l G xu xp _ kept cnt prt p1 p2 hk) (cwV 2 hts gX5_log_X4_part rfl rfl rfl (by decide +kernel) ⟨Nat.le_of_ble_eq_true rfl, Nat.le_of_ble_eq_true rfl⟩) (pR_V hK hPc hDc (q0 := 0) rfl rfl) rfl rfl hl.1 rfl (lv_room (Nat.le_of_ble_eq_true rfl)) dX5_log_48 ⟨Nat.le_of_ble_eq_true rfl, Nat.le_of_ble_eq_true rfl⟩) ?_
            exact W.iret (v := (F_X4_part kept cnt prt p1 p2)) hx hb hr (fun t ht hW => ⟨by rw [hF], ht⟩) (fun _ h => by cases h) dX5_log_51
          · have hF := if_f hF c_36
            refine lv_bipush (v := (-2)) hx hb dX5_log_39 (by decide) ?_
            exact W.iret (v := (-2)) hx hb hr (fun t ht hW => ⟨by rw [hF], ht⟩) (fun _ h => by cases h) dX5_log_41
      · have hF := if_t hF c_25
        refine lv_iconst (v := (-1)) hx hb dX5_log_28 (by decide) ?_
        exact W.iret (v := (-1)) hx hb hr (fun t ht hW => ⟨by rw [hF], ht⟩) (fun _ h => by cases h) dX5_log_29
    · have hF := if_t hF c_6
      refine lv_aload_n hx hb dX5_log_9 rfl (lv_at hl 0 rfl) ?_
      refine va_get (D := G.1) (ci := 7) (v := .ref xu) (C := RX5) (T := TX5) (N := 8) hx hb hts iX5 hown hK.1 hP 0 rfl rfl 3 (by decide) (hts (.fieldLink RX5 32 "RightsSteps" "uses" "LRightsSteps$UseLog;") (by decide +kernel)) (fun _ h9 => h9) rfl dX5_log_10 ?_
      refine va_getN (D := G.1) (ci := 6) (v := .int cnt) (C := RX4) (T := TX4) (N := 3) hx hb hts iX4 hown hK.1 hP 1 rfl rfl 2 (by decide) (va_Nw.use rfl hK.2.1) (fun _ h9 => h9) rfl dX5_log_13 ?_
      exact W.iret (v := cnt) hx hb hr (fun t ht hW => ⟨by rw [hF], ht⟩) (fun _ h => by cases h) dX5_log_16

def F_X5_level (made : Int32) (tim : Int64) (lv : Nat → Option Nat) (p1 : Int32) (p2 : Int32) (p3 : Int32) (p4 : Int64) (pl : va_W) : Nat → Int32 × Int32 × (Nat → Option Nat) × va_W :=
  (if p1 < 1 then (fun _ => ((-1), (made, lv, pl))) else (if p1 ≤ 20 then (if p2 < 0 then (fun _ => ((-2), (made, lv, pl))) else (if 3 ≤ p2 then (fun _ => ((-2), (made, lv, pl))) else (if p3 < 1 then (fun _ => ((-2), (made, lv, pl))) else (if 10 < p3 then (fun _ => ((-2), (made, lv, pl))) else (if (lg_cmp p4 0) < 0 then (fun _ => ((-2), (made, lv, pl))) else (if (lg_cmp p4 100000) ≤ 0 then (oc (lv (p1 : Int32).toNatClampNeg) (fun q1 => ((made + 1), ((made + 1), (va_up lv (p1 : Int32).toNatClampNeg (some q1)), ((q1, .inr (3, [.int p1, .int p2, .int p3, .long p4])) :: pl)))) (fun y58 => (fun _ => ((-3), (made, lv, pl))))) else (fun _ => ((-2), (made, lv, pl))))))))) else (fun _ => ((-1), (made, lv, pl)))))
set_option maxHeartbeats 4000000 in
set_option maxRecDepth 100000 in
theorem c_X5_level (l : Launch) (G : gG) (h0 xl xt xg xu xT xh : Nat) (sz : Nat) (made : Int32) (tim : Int64) (lv : Nat → Option Nat) (p1 : Int32) (p2 : Int32) (p3 : Int32) (p4 : Int64) (pl : va_W) : Met l yX5_level wsX5_level ({ frames := 2, cells := 1, slots := 4, locals := 37 }) (va_Pc [.ref h0, .int p1, .int p2, .int p3, .long p4] (pR G ([(h0, .inr (7, [.ref xl, .ref xt, .ref xg, .ref xu, .ref xT, .ref xh, .int made, .long tim])), (xl, .inl (G.2 3, 21, .inr (.inr (.inr (.inr lv)))))] ++ pl) sz)) (va_Qi (fun (r : Int32) (u : Int32 × (Nat → Option Nat) × va_W) => ∃ q, (r, u) = F_X5_level made tim lv p1 p2 p3 p4 pl q) (fun u t => pO G ([(h0, .inr (7, [.ref xl, .ref xt, .ref xg, .ref xu, .ref xT, .ref xh, .int u.1, .long tim])), (xl, .inl (G.2 3, 21, .inr (.inr (.inr (.inr u.2.1)))))] ++ u.2.2) (va_A ([(h0, .inr (7, [.ref xl, .ref xt, .ref xg, .ref xu, .ref xT, .ref xh, .int made, .long tim])), (xl, .inl (G.2 3, 21, .inr (.inr (.inr (.inr lv)))))] ++ pl) sz) t) (va_A ([(h0, .inr (7, [.ref xl, .ref xt, .ref xg, .ref xu, .ref xT, .ref xh, .int made, .long tim])), (xl, .inl (G.2 3, 21, .inr (.inr (.inr (.inr lv)))))] ++ pl) sz)) 1 4 (va_A ([(h0, .inr (7, [.ref xl, .ref xt, .ref xg, .ref xu, .ref xT, .ref xh, .int made, .long tim])), (xl, .inl (G.2 3, 21, .inr (.inr (.inr (.inr lv)))))] ++ pl) sz) := by
  refine Met.ofW (cc := cX5_level) (maxL := 6) (ret := (some .int)) (by decide) rfl ?_
  intro p e s m args below meth c s₁ B hml hv
  obtain ⟨rfl, hsz, hP, hK, hD0⟩ := hv
  have hx := B.exec
  have hb := B.bytes
  have hr := B.returns
  have hts := atoms_spec (ws := wsX5_level) B.pre
  have hown : s.vm.findClass RX5 = some m.cls := findClass_of_methodNamed B.named
  have hlocks := B.notSynchronized
  subst hsz
  have iX1 : ∀ w ∈ wsX10, w ∈ wsX5_level := by decide +kernel
  have iX5 : ∀ w ∈ wsX50, w ∈ wsX5_level := by decide +kernel
  have hD := hD0.self (sz := s.heap.size)
  generalize hAe : va_A ([(h0, .inr (7, [.ref xl, .ref xt, .ref xg, .ref xu, .ref xT, .ref xh, .int made, .long tim])), (xl, .inl (G.2 3, 21, .inr (.inr (.inr (.inr lv)))))] ++ pl) s.heap.size = A at hD ⊢
  have hA : ∀ q : Nat, s.heap.size ≤ q → A q := fun q h => by rw [← hAe]; exact Or.inr h
  have hS : va_S A s.heap s.heap [] := va_S.rf
  have hP : va_P G.1 vwCl ([(h0, .inr (7, [.ref xl, .ref xt, .ref xg, .ref xu, .ref xT, .ref xh, .int made, .long tim])), (xl, .inl (G.2 3, 21, .inr (.inr (.inr (.inr lv)))))] ++ pl) s.heap := hP
  have hl := lv_entry ([.ref h0, .int p1, .int p2, .int p3, .long p4]) (n := 6) (Nat.le_of_ble_eq_true rfl)
  rw [lg_entry_eq]
  generalize (lg_sl ([.ref h0, .int p1, .int p2, .int p3, .long p4]) ++ List.replicate (6 - (lg_sl ([.ref h0, .int p1, .int p2, .int p3, .long p4])).length) Slot.unset).toArray = ls at hl ⊢
  have hl : lv_has ls 6 [(0, .ref h0), (1, .int p1), (2, .int p2), (3, .int p3), (4, .long p4)] := hl
  have hF : F_X5_level made tim lv p1 p2 p3 p4 pl = F_X5_level made tim lv p1 p2 p3 p4 pl := rfl
  refine lv_iload_n hx hb dX5_level_0 rfl (lv_at hl 1 rfl) ?_
  refine lv_iconst (v := 1) hx hb dX5_level_1 (by decide) ?_
  refine lv_icmp_lt (tgt := 11) hx hb dX5_level_2 (by decide) (fun c_2 => ?_) (fun c_2 => ?_)
  · have hF := if_t hF c_2
    refine lv_iconst (v := (-1)) hx hb dX5_level_11 (by decide) ?_
    refine W.widen (k := 1) (n := 4) (Nat.le_of_ble_eq_true rfl) (Nat.le_of_ble_eq_true rfl) ?_
    exact W.iret (v := (-1)) hx hb hr (fun t ht hW => ⟨⟨(-1), (made, lv, pl), rfl, ⟨0, (congrFun hF 0).symm⟩, by rw [ht]; exact hP.part [0, 1] rfl, hD.part [0, 1] (by decide) rfl⟩, hS.F ht⟩) hS.2.2 dX5_level_12
  · have hF := if_f hF c_2
    refine lv_iload_n hx hb dX5_level_5 rfl (lv_at hl 1 rfl) ?_
    refine lv_bipush (v := 20) hx hb dX5_level_6 (by decide) ?_
    refine lv_icmp_le (tgt := 13) hx hb dX5_level_8 (by decide) (fun c_8 => ?_) (fun c_8 => ?_)
    · have hF := if_t hF c_8
      refine lv_iload_n hx hb dX5_level_13 rfl (lv_at hl 2 rfl) ?_
      refine lv_if_lt (tgt := 49) hx hb dX5_level_14 (by decide) (fun c_14 => ?_) (fun c_14 => ?_)
      · have hF := if_t hF c_14
        refine lv_bipush (v := (-2)) hx hb dX5_level_49 (by decide) ?_
        refine W.widen (k := 1) (n := 4) (Nat.le_of_ble_eq_true rfl) (Nat.le_of_ble_eq_true rfl) ?_
        exact W.iret (v := (-2)) hx hb hr (fun t ht hW => ⟨⟨(-2), (made, lv, pl), rfl, ⟨0, (congrFun hF 0).symm⟩, by rw [ht]; exact hP.part [0, 1] rfl, hD.part [0, 1] (by decide) rfl⟩, hS.F ht⟩) hS.2.2 dX5_level_51
      · have hF := if_f hF c_14
        refine lv_iload_n hx hb dX5_level_17 rfl (lv_at hl 2 rfl) ?_
        refine lv_iconst (v := 3) hx hb dX5_level_18 (by decide) ?_
        refine lv_icmp_ge (tgt := 49) hx hb dX5_level_19 (by decide) (fun c_19 => ?_) (fun c_19 => ?_)
        · have hF := if_t hF c_19
          refine lv_bipush (v := (-2)) hx hb dX5_level_49 (by decide) ?_
          refine W.widen (k := 1) (n := 4) (Nat.le_of_ble_eq_true rfl) (Nat.le_of_ble_eq_true rfl) ?_
          exact W.iret (v := (-2)) hx hb hr (fun t ht hW => ⟨⟨(-2), (made, lv, pl), rfl, ⟨0, (congrFun hF 0).symm⟩, by rw [ht]; exact hP.part [0, 1] rfl, hD.part [0, 1] (by decide) rfl⟩, hS.F ht⟩) hS.2.2 dX5_level_51
        · have hF := if_f hF c_19
          refine lv_iload_n hx hb dX5_level_22 rfl (lv_at hl 3 rfl) ?_
          refine lv_iconst (v := 1) hx hb dX5_level_23 (by decide) ?_
          refine lv_icmp_lt (tgt := 49) hx hb dX5_level_24 (by decide) (fun c_24 => ?_) (fun c_24 => ?_)
          · have hF := if_t hF c_24
            refine lv_bipush (v := (-2)) hx hb dX5_level_49 (by decide) ?_
            refine W.widen (k := 1) (n := 4) (Nat.le_of_ble_eq_true rfl) (Nat.le_of_ble_eq_true rfl) ?_
            exact W.iret (v := (-2)) hx hb hr (fun t ht hW => ⟨⟨(-2), (made, lv, pl), rfl, ⟨0, (congrFun hF 0).symm⟩, by rw [ht]; exact hP.part [0, 1] rfl, hD.part [0, 1] (by decide) rfl⟩, hS.F ht⟩) hS.2.2 dX5_level_51
          · have hF := if_f hF c_24
            refine lv_iload_n hx hb dX5_level_27 rfl (lv_at hl 3 rfl) ?_
            refine lv_bipush (v := 10) hx hb dX5_level_28 (by decide) ?_
            refine lv_icmp_gt (tgt := 49) hx hb dX5_level_30 (by decide) (fun c_30 => ?_) (fun c_30 => ?_)
            · have hF := if_t hF c_30
              refine lv_bipush (v := (-2)) hx hb dX5_level_49 (by decide) ?_
              refine W.widen (k := 1) (n := 4) (Nat.le_of_ble_eq_true rfl) (Nat.le_of_ble_eq_true rfl) ?_
              exact W.iret (v := (-2)) hx hb hr (fun t ht hW => ⟨⟨(-2), (made, lv, pl), rfl, ⟨0, (congrFun hF 0).symm⟩, by rw [ht]; exact hP.part [0, 1] rfl, hD.part [0, 1] (by decide) rfl⟩, hS.F ht⟩) hS.2.2 dX5_level_51
            · have hF := if_f hF c_30
              refine lv_lload hx hb dX5_level_33 (lv_at hl 4 rfl) ?_
              refine lv_lconst (v := 0) hx hb dX5_level_35 (by decide) ?_
              refine W.lcmp hx hb dX5_level_36 ?_
              refine lv_if_lt (tgt := 49) hx hb dX5_level_37 (by decide) (fun c_37 => ?_) (fun c_37 => ?_)
              · have hF := if_t hF c_37
                refine lv_bipush (v := (-2)) hx hb dX5_level_49 (by decide) ?_
                refine W.widen (k := 1) (n := 4) (Nat.le_of_ble_eq_true rfl) (Nat.le_of_ble_eq_true rfl) ?_
                exact W.iret (v := (-2)) hx hb hr (fun t ht hW => ⟨⟨(-2), (made, lv, pl), rfl, ⟨0, (congrFun hF 0).symm⟩, by rw [ht]; exact hP.part [0, 1] rfl, hD.part [0, 1] (by decide) rfl⟩, hS.F ht⟩) hS.2.2 dX5_level_51
              · have hF := if_f hF c_37
                refine lv_lload hx hb dX5_level_40 (lv_at hl 4 rfl) ?_
                refine lv_ldc2 (v := 100000) hx hb hown (hts (.constantLong RX5 49 (100000)) (by decide +kernel)) dX5_level_42 ?_
                refine W.lcmp hx hb dX5_level_45 ?_
                refine lv_if_le (tgt := 52) hx hb dX5_level_46 (by decide) (fun c_46 => ?_) (fun c_46 => ?_)
                · have hF := if_t hF c_46
                  refine lv_aload_n hx hb dX5_level_52 rfl (lv_at hl 0 rfl) ?_
                  refine va_get (D := G.1) (ci := 7) (v := .ref xl) (C := RX5) (T := TX5) (N := 8) hx hb hts iX5 hown hK.1 hP 0 rfl rfl 0 (by decide) (hts (.fieldLink RX5 11 "RightsSteps" "levels" "[LRightsSteps$Level;") (by decide +kernel)) (fun _ h9 => h9) rfl dX5_level_53 ?_
                  refine lv_iload_n hx hb dX5_level_56 rfl (lv_at hl 1 rfl) ?_
                  refine va_aldq (f := lv) hx hb hK.1 hP 1 3 rfl rfl (in_lw c_2 c_8) dX5_level_57 ?_
                  rcases hQ_58 : (lv (p1 : Int32).toNatClampNeg) with _ | y58
                  · have hF := oc_n hF hQ_58
                    refine lv_ifnullN (tgt := 64) hx hb dX5_level_58 (by decide) ?_
                    refine lv_aload_n hx hb dX5_level_64 rfl (lv_at hl 0 rfl) ?_
                    refine va_get (D := G.1) (ci := 7) (v := .ref xl) (C := RX5) (T := TX5) (N := 8) hx hb hts iX5 hown hK.1 hP 0 rfl rfl 0 (by decide) (hts (.fieldLink RX5 11 "RightsSteps" "levels" "[LRightsSteps$Level;") (by decide +kernel)) (fun _ h9 => h9) rfl dX5_level_65 ?_
                    refine lv_iload_n hx hb dX5_level_68 rfl (lv_at hl 1 rfl) ?_
                    refine va_new (ci := 3) (fs := [.int 0, .int 0, .int 0, .long 0]) (C := RX1) (T := TX1) (N := 4) hx hb hts iX1 tyX1 tyX1_ok hown (hts (.classLink RX5 9 RX1) (by decide +kernel)) (hts (.instantiable RX1 4) (by decide +kernel)) (hts (.initialized RX1) (by decide +kernel)) hK.1 hP hD hS hA rfl (fun j hj => by rcases (show j = 0 ∨ j = 1 ∨ j = 2 ∨ j = 3 by omega) with rfl | rfl | rfl | rfl <;> rfl) (Nat.le_of_ble_eq_true rfl) (Nat.le_of_ble_eq_true rfl) dX5_level_69 (fun q1 H hP hD hS => ?_)
                    refine W.widen (k := 1) (n := 4) (Nat.le_of_ble_eq_true rfl) (Nat.le_of_ble_eq_true rfl) ?_
                    have hP : va_P G.1 vwCl ([(h0, .inr (7, [.ref xl, .ref xt, .ref xg, .ref xu, .ref xT, .ref xh, .int made, .long tim])), (xl, .inl (G.2 3, 21, .inr (.inr (.inr (.inr lv))))), (q1, .inr (3, [.int 0, .int 0, .int 0, .long 0]))] ++ pl) H := hP.swap
                    have hD : va_D A ([(h0, .inr (7, [.ref xl, .ref xt, .ref xg, .ref xu, .ref xT, .ref xh, .int made, .long tim])), (xl, .inl (G.2 3, 21, .inr (.inr (.inr (.inr lv))))), (q1, .inr (3, [.int 0, .int 0, .int 0, .long 0]))] ++ pl) := hD.swap
                    refine lv_dup hx hb dX5_level_72 rfl ?_
                    refine lv_iload_n hx hb dX5_level_73 rfl (lv_at hl 1 rfl) ?_
                    refine lv_iload_n hx hb dX5_level_74 rfl (lv_at hl 2 rfl) ?_
                    refine lv_iload_n hx hb dX5_level_75 rfl (lv_at hl 3 rfl) ?_
                    refine lv_lload hx hb dX5_level_76 (lv_at hl 4 rfl) ?_
                    have hPc := hP.sub (ws' := [(q1, .inr (3, [.int 0, .int 0, .int 0, .long 0]))]) [2] rfl
                    have hDc := hD.sub (ws' := [(q1, .inr (3, [.int 0, .int 0, .int 0, .long 0]))]) [2] (by decide) rfl
                    refine clq_v (wr := [(h0, .inr (7, [.ref xl, .ref xt, .ref xg, .ref xu, .ref xT, .ref xh, .int made, .long tim])), (xl, .inl (G.2 3, 21, .inr (.inr (.inr (.inr lv)))))]) (va_runI (As := [.int p1, .int p2, .int p3, .long p4]) (rest := [.ref q1, .int p1, .ref xl]) ⟨hx, hb, hml, hown, hts⟩ (c_X1_init l G q1 _ p1 p2 p3 p4) (cwI 4 hts gX5_level_X1_init rfl rfl rfl (hts (.initialized RX1) (by decide +kernel)) (hts (.methodLink RX5 51 yX1_init) (by decide +kernel)) (hts (.instanceMethod yX1_init) (by decide +kernel)) rfl (by decide +kernel) ⟨Nat.le_of_ble_eq_true rfl, Nat.le_of_ble_eq_true rfl⟩) (pR_S hK hPc hDc) rfl rfl hl.1 rfl (lv_room (Nat.le_of_ble_eq_true rfl)) dX5_level_78 ⟨Nat.le_of_ble_eq_true rfl, Nat.le_of_ble_eq_true rfl⟩) hP hD hS hA [2] [0, 1] rfl rfl (by decide) (by decide) (fun u2 ez2 H locs hP hD hS => ?_)
                    have hP : va_P G.1 vwCl ([(h0, .inr (7, [.ref xl, .ref xt, .ref xg, .ref xu, .ref xT, .ref xh, .int made, .long tim])), (xl, .inl (G.2 3, 21, .inr (.inr (.inr (.inr lv))))), (q1, .inr (3, [.int p1, .int p2, .int p3, .long p4]))] ++ pl) H := hP
                    have hD : va_D A ([(h0, .inr (7, [.ref xl, .ref xt, .ref xg, .ref xu, .ref xT, .ref xh, .int made, .long tim])), (xl, .inl (G.2 3, 21, .inr (.inr (.inr (.inr lv))))), (q1, .inr (3, [.int p1, .int p2, .int p3, .long p4]))] ++ pl) := hD
                    refine va_astq (f := lv) hx hb hK.1 hP hD hS 1 3 2 3 rfl rfl rfl rfl (in_lw c_2 c_8) dX5_level_81 (fun H locs hP hD hS => ?_)
                    have hP : va_P G.1 vwCl ([(h0, .inr (7, [.ref xl, .ref xt, .ref xg, .ref xu, .ref xT, .ref xh, .int made, .long tim])), (xl, .inl (G.2 3, 21, .inr (.inr (.inr (.inr (va_up lv (p1 : Int32).toNatClampNeg (some q1))))))), (q1, .inr (3, [.int p1, .int p2, .int p3, .long p4]))] ++ pl) H := hP
                    have hD : va_D A ([(h0, .inr (7, [.ref xl, .ref xt, .ref xg, .ref xu, .ref xT, .ref xh, .int made, .long tim])), (xl, .inl (G.2 3, 21, .inr (.inr (.inr (.inr (va_up lv (p1 : Int32).toNatClampNeg (some q1))))))), (q1, .inr (3, [.int p1, .int p2, .int p3, .long p4]))] ++ pl) := hD
                    refine lv_aload_n hx hb dX5_level_82 rfl (lv_at hl 0 rfl) ?_
                    refine lv_dup hx hb dX5_level_83 rfl ?_
                    refine va_get (D := G.1) (ci := 7) (v := .int made) (C := RX5) (T := TX5) (N := 8) hx hb hts iX5 hown hK.1 hP 0 rfl rfl 6 (by decide) (hts (.fieldLink RX5 54 "RightsSteps" "levelsMade" "I") (by decide +kernel)) (fun _ h9 => h9) rfl dX5_level_84 ?_
                    refine lv_iconst (v := 1) hx hb dX5_level_87 (by decide) ?_
                    refine lv_iadd hx hb dX5_level_88 ?_
                    refine va_put (D := G.1) (ci := 7) (v := .int (made + 1)) (ty := .int) (C := RX5) (T := TX5) (N := 8) hx hb hts iX5 tyX5 tyX5_ok nmX5 hown hK.1 hP hD hS 0 rfl rfl 6 (by decide) (hts (.fieldLink RX5 54 "RightsSteps" "levelsMade" "I") (by decide +kernel)) (fun _ h9 => h9) rfl (by decide +kernel) rfl rfl (Nat.le_of_ble_eq_true rfl) dX5_level_89 (fun H locs hP hD hS => ?_)
                    have hP : va_P G.1 vwCl ([(h0, .inr (7, [.ref xl, .ref xt, .ref xg, .ref xu, .ref xT, .ref xh, .int (made + 1), .long tim])), (xl, .inl (G.2 3, 21, .inr (.inr (.inr (.inr (va_up lv (p1 : Int32).toNatClampNeg (some q1))))))), (q1, .inr (3, [.int p1, .int p2, .int p3, .long p4]))] ++ pl) H := hP
                    have hD : va_D A ([(h0, .inr (7, [.ref xl, .ref xt, .ref xg, .ref xu, .ref xT, .ref xh, .int (made + 1), .long tim])), (xl, .inl (G.2 3, 21, .inr (.inr (.inr (.inr (va_up lv (p1 : Int32).toNatClampNeg (some q1))))))), (q1, .inr (3, [.int p1, .int p2, .int p3, .long p4]))] ++ pl) := hD
                    refine lv_aload_n hx hb dX5_level_92 rfl (lv_at hl 0 rfl) ?_
                    refine va_get (D := G.1) (ci := 7) (v := .int (made + 1)) (C := RX5) (T := TX5) (N := 8) hx hb hts iX5 hown hK.1 hP 0 rfl rfl 6 (by decide) (hts (.fieldLink RX5 54 "RightsSteps" "levelsMade" "I") (by decide +kernel)) (fun _ h9 => h9) rfl dX5_level_93 ?_
                    exact W.iret (v := (made + 1)) hx hb hr (fun t ht hW => ⟨⟨(made + 1), ((made + 1), (va_up lv (p1 : Int32).toNatClampNeg (some q1)), ((q1, .inr (3, [.int p1, .int p2, .int p3, .long p4])) :: pl)), rfl, ⟨q1, (congrFun hF q1).symm⟩, by rw [ht]; exact hP.part (cx := [(h0, .inr (7, [.ref xl, .ref xt, .ref xg, .ref xu, .ref xT, .ref xh, .int (made + 1), .long tim])), (xl, .inl (G.2 3, 21, .inr (.inr (.inr (.inr (va_up lv (p1 : Int32).toNatClampNeg (some q1))))))), (q1, .inr (3, [.int p1, .int p2, .int p3, .long p4]))]) [0, 1, 2] rfl, hD.part (cx := [(h0, .inr (7, [.ref xl, .ref xt, .ref xg, .ref xu, .ref xT, .ref xh, .int (made + 1), .long tim])), (xl, .inl (G.2 3, 21, .inr (.inr (.inr (.inr (va_up lv (p1 : Int32).toNatClampNeg (some q1))))))), (q1, .inr (3, [.int p1, .int p2, .int p3, .long p4]))]) [0, 1, 2] (by decide) rfl⟩, hS.F ht⟩) hS.2.2 dX5_level_96
                  · have hF := oc_s hF hQ_58
                    refine lv_ifnull hx hb dX5_level_58 ?_
                    refine lv_bipush (v := (-3)) hx hb dX5_level_61 (by decide) ?_
                    refine W.widen (k := 1) (n := 4) (Nat.le_of_ble_eq_true rfl) (Nat.le_of_ble_eq_true rfl) ?_
                    exact W.iret (v := (-3)) hx hb hr (fun t ht hW => ⟨⟨(-3), (made, lv, pl), rfl, ⟨0, (congrFun hF 0).symm⟩, by rw [ht]; exact hP.part [0, 1] rfl, hD.part [0, 1] (by decide) rfl⟩, hS.F ht⟩) hS.2.2 dX5_level_63
                · have hF := if_f hF c_46
                  refine lv_bipush (v := (-2)) hx hb dX5_level_49 (by decide) ?_
                  refine W.widen (k := 1) (n := 4) (Nat.le_of_ble_eq_true rfl) (Nat.le_of_ble_eq_true rfl) ?_
                  exact W.iret (v := (-2)) hx hb hr (fun t ht hW => ⟨⟨(-2), (made, lv, pl), rfl, ⟨0, (congrFun hF 0).symm⟩, by rw [ht]; exact hP.part [0, 1] rfl, hD.part [0, 1] (by decide) rfl⟩, hS.F ht⟩) hS.2.2 dX5_level_51
    · have hF := if_f hF c_8
      refine lv_iconst (v := (-1)) hx hb dX5_level_11 (by decide) ?_
      refine W.widen (k := 1) (n := 4) (Nat.le_of_ble_eq_true rfl) (Nat.le_of_ble_eq_true rfl) ?_
      exact W.iret (v := (-1)) hx hb hr (fun t ht hW => ⟨⟨(-1), (made, lv, pl), rfl, ⟨0, (congrFun hF 0).symm⟩, by rw [ht]; exact hP.part [0, 1] rfl, hD.part [0, 1] (by decide) rfl⟩, hS.F ht⟩) hS.2.2 dX5_level_12

theorem in_t4 {n : Int32} (h0 : ¬ n < 1) (h1 : n ≤ 4) : vp_in (n - 1) 4 := by
  have a : (1 : Int) ≤ n.toInt := i_nlt h0
  have b : n.toInt ≤ 4 := i_le h1
  have t1 : (1 : Int32).toInt = 1 := rfl
  have e : (n - 1).toInt = n.toInt - (1 : Int32).toInt := fb_subI (by omega) (by omega)
  exact vp_in_iff.mpr ⟨by omega, by omega⟩

def F_X5_reset (made : Int32) (tim : Int64) (fT : Nat → Option Nat) (gsz : Int32) (num0 : Int32) (ses0 : Int32) (rol0 : Int64) (opn0 : Int32) (awl0 : Int32) (aws0 : Int32) (oct0 : Int32) (ksf0 : Int32) (ou0 : Int32) (num1 : Int32) (ses1 : Int32) (rol1 : Int64) (opn1 : Int32) (awl1 : Int32) (aws1 : Int32) (oct1 : Int32) (ksf1 : Int32) (ou1 : Int32) (num2 : Int32) (ses2 : Int32) (rol2 : Int64) (opn2 : Int32) (awl2 : Int32) (aws2 : Int32) (oct2 : Int32) (ksf2 : Int32) (ou2 : Int32) (num3 : Int32) (ses3 : Int32) (rol3 : Int64) (opn3 : Int32) (awl3 : Int32) (aws3 : Int32) (oct3 : Int32) (ksf3 : Int32) (ou3 : Int32) : Int32 × Int32 × Int32 × Int64 × Int32 × Int32 × Int32 × Int32 × Int32 × Int64 × Int32 × Int32 × Int32 × Int32 × Int32 × Int64 × Int32 × Int32 × Int32 × Int32 × Int32 × Int64 × Int32 × Int32 × Int32 × Int32 :=
  (lz (F_X3_startSession num0 ses0 rol0 opn0 awl0 aws0 oct0 ksf0 ou0 1) (fun u1 => (lz (F_X3_dropOctets num0 u1.1 u1.2.1 u1.2.2.1 u1.2.2.2 aws0 oct0 ksf0 ou0) (fun u2 => (lz (F_X3_startSession num1 ses1 rol1 opn1 awl1 aws1 oct1 ksf1 ou1 1) (fun u3 => (lz (F_X3_dropOctets num1 u3.1 u3.2.1 u3.2.2.1 u3.2.2.2 aws1 oct1 ksf1 ou1) (fun u4 => (lz (F_X3_startSession num2 ses2 rol2 opn2 awl2 aws2 oct2 ksf2 ou2 1) (fun u5 => (lz (F_X3_dropOctets num2 u5.1 u5.2.1 u5.2.2.1 u5.2.2.2 aws2 oct2 ksf2 ou2) (fun u6 => (lz (F_X3_startSession num3 ses3 rol3 opn3 awl3 aws3 oct3 ksf3 ou3 1) (fun u7 => (lz (F_X3_dropOctets num3 u7.1 u7.2.1 u7.2.2.1 u7.2.2.2 aws3 oct3 ksf3 ou3) (fun u8 => (lz (F_X0_forgetAll gsz) (fun u9 => ((if opn3 = 0 then (if opn2 = 0 then (if opn1 = 0 then (if opn0 = 0 then 0 else 1) else ((if opn0 = 0 then 0 else 1) + 1)) else ((if opn1 = 0 then (if opn0 = 0 then 0 else 1) else ((if opn0 = 0 then 0 else 1) + 1)) + 1)) else ((if opn2 = 0 then (if opn1 = 0 then (if opn0 = 0 then 0 else 1) else ((if opn0 = 0 then 0 else 1) + 1)) else ((if opn1 = 0 then (if opn0 = 0 then 0 else 1) else ((if opn0 = 0 then 0 else 1) + 1)) + 1)) + 1)), (u9, u1.1, u1.2.1, u1.2.2.1, u1.2.2.2, u2.1, u2.2, u3.1, u3.2.1, u3.2.2.1, u3.2.2.2, u4.1, u4.2, u5.1, u5.2.1, u5.2.2.1, u5.2.2.2, u6.1, u6.2, u7.1, u7.2.1, u7.2.2.1, u7.2.2.2, u8.1, u8.2))))))))))))))))))))
set_option maxHeartbeats 4000000 in
set_option maxRecDepth 100000 in
theorem c_X5_reset (l : Launch) (G : gG) (h0 xT xg t0 t1 t2 t3 xl xt xu xh xs u0t k0t u1t k1t u2t k2t u3t k3t : Nat) (sz : Nat) (made : Int32) (tim : Int64) (fT : Nat → Option Nat) (gsz : Int32) (num0 : Int32) (ses0 : Int32) (rol0 : Int64) (opn0 : Int32) (awl0 : Int32) (aws0 : Int32) (oct0 : Int32) (ksf0 : Int32) (ou0 : Int32) (num1 : Int32) (ses1 : Int32) (rol1 : Int64) (opn1 : Int32) (awl1 : Int32) (aws1 : Int32) (oct1 : Int32) (ksf1 : Int32) (ou1 : Int32) (num2 : Int32) (ses2 : Int32) (rol2 : Int64) (opn2 : Int32) (awl2 : Int32) (aws2 : Int32) (oct2 : Int32) (ksf2 : Int32) (ou2 : Int32) (num3 : Int32) (ses3 : Int32) (rol3 : Int64) (opn3 : Int32) (awl3 : Int32) (aws3 : Int32) (oct3 : Int32) (ksf3 : Int32) (ou3 : Int32) (hT0 : fT 0 = some t0) (hT1 : fT 1 = some t1) (hT2 : fT 2 = some t2) (hT3 : fT 3 = some t3) : Met l yX5_reset wsX5_reset ({ frames := 1, cells := 0, slots := 0, locals := 21 }) (va_Pc [.ref h0] (pR G [(h0, .inr (7, [.ref xl, .ref xt, .ref xg, .ref xu, .ref xT, .ref xh, .int made, .long tim])), (xT, .inl (G.2 4, 4, .inr (.inr (.inr (.inr fT))))), (xg, .inr (2, [.ref xs, .int gsz])), (t0, .inr (5, [.int num0, .int ses0, .long rol0, .int opn0, .int awl0, .int aws0, .int oct0, .int ksf0, .int ou0, .ref u0t, .ref k0t])), (t1, .inr (5, [.int num1, .int ses1, .long rol1, .int opn1, .int awl1, .int aws1, .int oct1, .int ksf1, .int ou1, .ref u1t, .ref k1t])), (t2, .inr (5, [.int num2, .int ses2, .long rol2, .int opn2, .int awl2, .int aws2, .int oct2, .int ksf2, .int ou2, .ref u2t, .ref k2t])), (t3, .inr (5, [.int num3, .int ses3, .long rol3, .int opn3, .int awl3, .int aws3, .int oct3, .int ksf3, .int ou3, .ref u3t, .ref k3t]))] sz)) (va_Qi (fun (r : Int32) (u : Int32 × Int32 × Int64 × Int32 × Int32 × Int32 × Int32 × Int32 × Int64 × Int32 × Int32 × Int32 × Int32 × Int32 × Int64 × Int32 × Int32 × Int32 × Int32 × Int32 × Int64 × Int32 × Int32 × Int32 × Int32) => (r, u) = F_X5_reset made tim fT gsz num0 ses0 rol0 opn0 awl0 aws0 oct0 ksf0 ou0 num1 ses1 rol1 opn1 awl1 aws1 oct1 ksf1 ou1 num2 ses2 rol2 opn2 awl2 aws2 oct2 ksf2 ou2 num3 ses3 rol3 opn3 awl3 aws3 oct3 ksf3 ou3) (fun u t => pO G [(h0, .inr (7, [.ref xl, .ref xt, .ref xg, .ref xu, .ref xT, .ref xh, .int made, .long tim])), (xT, .inl (G.2 4, 4, .inr (.inr (.inr (.inr fT))))), (xg, .inr (2, [.ref xs, .int u.1])), (t0, .inr (5, [.int num0, .int u.2.1, .long u.2.2.1, .int u.2.2.2.1, .int u.2.2.2.2.1, .int aws0, .int u.2.2.2.2.2.1, .int u.2.2.2.2.2.2.1, .int ou0, .ref u0t, .ref k0t])), (t1, .inr (5, [.int num1, .int u.2.2.2.2.2.2.2.1, .long u.2.2.2.2.2.2.2.2.1, .int u.2.2.2.2.2.2.2.2.2.1, .int u.2.2.2.2.2.2.2.2.2.2.1, .int aws1, .int u.2.2.2.2.2.2.2.2.2.2.2.1, .int u.2.2.2.2.2.2.2.2.2.2.2.2.1, .int ou1, .ref u1t, .ref k1t])), (t2, .inr (5, [.int num2, .int u.2.2.2.2.2.2.2.2.2.2.2.2.2.1, .long u.2.2.2.2.2.2.2.2.2.2.2.2.2.2.1, .int u.2.2.2.2.2.2.2.2.2.2.2.2.2.2.2.1, .int u.2.2.2.2.2.2.2.2.2.2.2.2.2.2.2.2.1, .int aws2, .int u.2.2.2.2.2.2.2.2.2.2.2.2.2.2.2.2.2.1, .int u.2.2.2.2.2.2.2.2.2.2.2.2.2.2.2.2.2.2.1, .int ou2, .ref u2t, .ref k2t])), (t3, .inr (5, [.int num3, .int u.2.2.2.2.2.2.2.2.2.2.2.2.2.2.2.2.2.2.2.1, .long u.2.2.2.2.2.2.2.2.2.2.2.2.2.2.2.2.2.2.2.2.1, .int u.2.2.2.2.2.2.2.2.2.2.2.2.2.2.2.2.2.2.2.2.2.1, .int u.2.2.2.2.2.2.2.2.2.2.2.2.2.2.2.2.2.2.2.2.2.2.1, .int aws3, .int u.2.2.2.2.2.2.2.2.2.2.2.2.2.2.2.2.2.2.2.2.2.2.2.1, .int u.2.2.2.2.2.2.2.2.2.2.2.2.2.2.2.2.2.2.2.2.2.2.2.2, .int ou3, .ref u3t, .ref k3t]))] (va_A [(h0, .inr (7, [.ref xl, .ref xt, .ref xg, .ref xu, .ref xT, .ref xh, .int made, .long tim])), (xT, .inl (G.2 4, 4, .inr (.inr (.inr (.inr fT))))), (xg, .inr (2, [.ref xs, .int gsz])), (t0, .inr (5, [.int num0, .int ses0, .long rol0, .int opn0, .int awl0, .int aws0, .int oct0, .int ksf0, .int ou0, .ref u0t, .ref k0t])), (t1, .inr (5, [.int num1, .int ses1, .long rol1, .int opn1, .int awl1, .int aws1, .int oct1, .int ksf1, .int ou1, .ref u1t, .ref k1t])), (t2, .inr (5, [.int num2, .int ses2, .long rol2, .int opn2, .int awl2, .int aws2, .int oct2, .int ksf2, .int ou2, .ref u2t, .ref k2t])), (t3, .inr (5, [.int num3, .int ses3, .long rol3, .int opn3, .int awl3, .int aws3, .int oct3, .int ksf3, .int ou3, .ref u3t, .ref k3t]))] sz) t) (va_A [(h0, .inr (7, [.ref xl, .ref xt, .ref xg, .ref xu, .ref xT, .ref xh, .int made, .long tim])), (xT, .inl (G.2 4, 4, .inr (.inr (.inr (.inr fT))))), (xg, .inr (2, [.ref xs, .int gsz])), (t0, .inr (5, [.int num0, .int ses0, .long rol0, .int opn0, .int awl0, .int aws0, .int oct0, .int ksf0, .int ou0, .ref u0t, .ref k0t])), (t1, .inr (5, [.int num1, .int ses1, .long rol1, .int opn1, .int awl1, .int aws1, .int oct1, .int ksf1, .int ou1, .ref u1t, .ref k1t])), (t2, .inr (5, [.int num2, .int ses2, .long rol2, .int opn2, .int awl2, .int aws2, .int oct2, .int ksf2, .int ou2, .ref u2t, .ref k2t])), (t3, .inr (5, [.int num3, .int ses3, .long rol3, .int opn3, .int awl3, .int aws3, .int oct3, .int ksf3, .int ou3, .ref u3t, .ref k3t]))] sz)) 0 0 (va_A [(h0, .inr (7, [.ref xl, .ref xt, .ref xg, .ref xu, .ref xT, .ref xh, .int made, .long tim])), (xT, .inl (G.2 4, 4, .inr (.inr (.inr (.inr fT))))), (xg, .inr (2, [.ref xs, .int gsz])), (t0, .inr (5, [.int num0, .int ses0, .long rol0, .int opn0, .int awl0, .int aws0, .int oct0, .int ksf0, .int ou0, .ref u0t, .ref k0t])), (t1, .inr (5, [.int num1, .int ses1, .long rol1, .int opn1, .int awl1, .int aws1, .int oct1, .int ksf1, .int ou1, .ref u1t, .ref k1t])), (t2, .inr (5, [.int num2, .int ses2, .long rol2, .int opn2, .int awl2, .int aws2, .int oct2, .int ksf2, .int ou2, .ref u2t, .ref k2t])), (t3, .inr (5, [.int num3, .int ses3, .long rol3, .int opn3, .int awl3, .int aws3, .int oct3, .int ksf3, .int ou3, .ref u3t, .ref k3t]))] sz) := by
  refine Met.ofW (cc := cX5_reset) (maxL := 4) (ret := (some .int)) (by decide) rfl ?_
  intro p e s m args below meth c s₁ B hml hv
  obtain ⟨rfl, hsz, hP, hK, hD0⟩ := hv
  have hx := B.exec
  have hb := B.bytes
  have hr := B.returns
  have hts := atoms_spec (ws := wsX5_reset) B.pre
  have hown : s.vm.findClass RX5 = some m.cls := findClass_of_methodNamed B.named
  have hlocks := B.notSynchronized
  subst hsz
  have iX3 : ∀ w ∈ wsX30, w ∈ wsX5_reset := by decide +kernel
  have iX5 : ∀ w ∈ wsX50, w ∈ wsX5_reset := by decide +kernel
  have hD := hD0.self (sz := s.heap.size)
  generalize hAe : va_A [(h0, .inr (7, [.ref xl, .ref xt, .ref xg, .ref xu, .ref xT, .ref xh, .int made, .long tim])), (xT, .inl (G.2 4, 4, .inr (.inr (.inr (.inr fT))))), (xg, .inr (2, [.ref xs, .int gsz])), (t0, .inr (5, [.int num0, .int ses0, .long rol0, .int opn0, .int awl0, .int aws0, .int oct0, .int ksf0, .int ou0, .ref u0t, .ref k0t])), (t1, .inr (5, [.int num1, .int ses1, .long rol1, .int opn1, .int awl1, .int aws1, .int oct1, .int ksf1, .int ou1, .ref u1t, .ref k1t])), (t2, .inr (5, [.int num2, .int ses2, .long rol2, .int opn2, .int awl2, .int aws2, .int oct2, .int ksf2, .int ou2, .ref u2t, .ref k2t])), (t3, .inr (5, [.int num3, .int ses3, .long rol3, .int opn3, .int awl3, .int aws3, .int oct3, .int ksf3, .int ou3, .ref u3t, .ref k3t]))] s.heap.size = A at hD ⊢
  have hA : ∀ q : Nat, s.heap.size ≤ q → A q := fun q h => by rw [← hAe]; exact Or.inr h
  have hS : va_S A s.heap s.heap [] := va_S.rf
  have hP : va_P G.1 vwCl [(h0, .inr (7, [.ref xl, .ref xt, .ref xg, .ref xu, .ref xT, .ref xh, .int made, .long tim])), (xT, .inl (G.2 4, 4, .inr (.inr (.inr (.inr fT))))), (xg, .inr (2, [.ref xs, .int gsz])), (t0, .inr (5, [.int num0, .int ses0, .long rol0, .int opn0, .int awl0, .int aws0, .int oct0, .int ksf0, .int ou0, .ref u0t, .ref k0t])), (t1, .inr (5, [.int num1, .int ses1, .long rol1, .int opn1, .int awl1, .int aws1, .int oct1, .int ksf1, .int ou1, .ref u1t, .ref k1t])), (t2, .inr (5, [.int num2, .int ses2, .long rol2, .int opn2, .int awl2, .int aws2, .int oct2, .int ksf2, .int ou2, .ref u2t, .ref k2t])), (t3, .inr (5, [.int num3, .int ses3, .long rol3, .int opn3, .int awl3, .int aws3, .int oct3, .int ksf3, .int ou3, .ref u3t, .ref k3t]))] s.heap := hP
  have hl := lv_entry ([.ref h0]) (n := 4) (Nat.le_of_ble_eq_true rfl)
  rw [lg_entry_eq]
  generalize (lg_sl ([.ref h0]) ++ List.replicate (4 - (lg_sl ([.ref h0])).length) Slot.unset).toArray = ls at hl ⊢
  have hl : lv_has ls 4 [(0, .ref h0)] := hl
  have hF : F_X5_reset made tim fT gsz num0 ses0 rol0 opn0 awl0 aws0 oct0 ksf0 ou0 num1 ses1 rol1 opn1 awl1 aws1 oct1 ksf1 ou1 num2 ses2 rol2 opn2 awl2 aws2 oct2 ksf2 ou2 num3 ses3 rol3 opn3 awl3 aws3 oct3 ksf3 ou3 = F_X5_reset made tim fT gsz num0 ses0 rol0 opn0 awl0 aws0 oct0 ksf0 ou0 num1 ses1 rol1 opn1 awl1 aws1 oct1 ksf1 ou1 num2 ses2 rol2 opn2 awl2 aws2 oct2 ksf2 ou2 num3 ses3 rol3 opn3 awl3 aws3 oct3 ksf3 ou3 := rfl
  refine lv_iconst (v := 0) hx hb dX5_reset_0 (by decide) ?_
  refine lv_istore_n (lv' := [(1, .int 0), (0, .ref h0)]) hx hb dX5_reset_1 rfl hl (by decide) rfl (fun ls hl => ?_)
  refine lv_iconst (v := 0) hx hb dX5_reset_2 (by decide) ?_
  refine lv_istore_n (lv' := [(2, .int 0), (1, .int 0), (0, .ref h0)]) hx hb dX5_reset_3 rfl hl (by decide) rfl (fun ls hl => ?_)
  refine lv_iload_n hx hb dX5_reset_4 rfl (lv_at hl 0 rfl) ?_
  refine lv_aload_n hx hb dX5_reset_5 rfl (lv_at hl 2 rfl) ?_
  refine va_get (D := G.1) (ci := 7) (v := .ref xT) (C := RX5) (T := TX5) (N := 8) hx hb hts iX5 hown hK.1 hP 0 rfl rfl 4 (by decide) (hts (.fieldLink RX5 38 "RightsSteps" "testers" "[LRightsSteps$Tester;") (by decide +kernel)) (fun _ h9 => h9) rfl dX5_reset_6 ?_
  refine va_alen (v := 4) hx hb hK.1 hP 1 4 rfl rfl rfl dX5_reset_9 ?_
  refine lv_icmp_ge (tgt := 45) hx hb dX5_reset_10 (by decide) (fun q => absurd q (by decide)) (fun _ => ?_)
  refine lv_aload_n hx hb dX5_reset_13 rfl (lv_at hl 2 rfl) ?_
  refine va_get (D := G.1) (ci := 7) (v := .ref xT) (C := RX5) (T := TX5) (N := 8) hx hb hts iX5 hown hK.1 hP 0 rfl rfl 4 (by decide) (hts (.fieldLink RX5 38 "RightsSteps" "testers" "[LRightsSteps$Tester;") (by decide +kernel)) (fun _ h9 => h9) rfl dX5_reset_14 ?_
  refine lv_iload_n hx hb dX5_reset_17 rfl (lv_at hl 0 rfl) ?_
  refine va_aldq (f := fT) hx hb hK.1 hP 1 4 rfl rfl (vp_in_iff.mpr (by decide)) dX5_reset_18 ?_
  refine W.eq (g2 := F0 m 19 ls (.ref t0 :: [])) (by rw [show fT (0 : Int32).toNatClampNeg = some t0 from hT0]; rfl) ?_
  refine lv_astore_n (lv' := [(3, .ref t0), (2, .int 0), (1, .int 0), (0, .ref h0)]) hx hb dX5_reset_19 rfl hl (by decide) rfl (fun ls hl => ?_)
  refine lv_aload_n hx hb dX5_reset_20 rfl (lv_at hl 0 rfl) ?_
  refine va_getN (D := G.1) (ci := 5) (v := .int opn0) (C := RX3) (T := TX3) (N := 11) hx hb hts iX3 hown hK.1 hP 3 rfl rfl 3 (by decide) (va_Nw.use rfl hK.2.2.2.2.2.1) (fun _ h9 => h9) rfl dX5_reset_21 ?_
  refine W.join (J := 30) (nL := 4) (lvm := [(3, .ref t0), (2, .int 0), (1, .int (if opn0 = 0 then 0 else 1)), (0, .ref h0)]) (st := []) (fun hJ => ?_) (fun ls hl => ?_)
  · refine lv_if_eq (tgt := 30) hx hb dX5_reset_24 (by decide) (fun c_24 => ?_) (fun c_24 => ?_)
    · exact hJ ls (by rw [if_pos c_24]; exact lv_sub hl [0, 1, 2, 3] rfl)
    · refine lv_iinc (v := 1) (lv' := [(1, .int 1), (3, .ref t0), (2, .int 0), (0, .ref h0)]) hx hb dX5_reset_27 hl (k := 2) rfl (by decide) (by decide) rfl (fun ls hl => ?_)
      exact hJ ls (by rw [if_neg c_24]; exact lv_sub hl [1, 2, 0, 3] rfl)
  · refine lv_aload_n hx hb dX5_reset_30 rfl (lv_at hl 0 rfl) ?_
    refine lv_iconst (v := 1) hx hb dX5_reset_31 (by decide) ?_
    have hPc := hP.sub (ws' := [(t0, .inr (5, [.int num0, .int ses0, .long rol0, .int opn0, .int awl0, .int aws0, .int oct0, .int ksf0, .int ou0, .ref u0t, .ref k0t]))]) [3] rfl
    have hDc := hD.sub (ws' := [(t0, .inr (5, [.int num0, .int ses0, .long rol0, .int opn0, .int awl0, .int aws0, .int oct0, .int ksf0, .int ou0, .ref u0t, .ref k0t]))]) [3] (by decide) rfl
    refine cl_v (wr := [(h0, .inr (7, [.ref xl, .ref xt, .ref xg, .ref xu, .ref xT, .ref xh, .int made, .long tim])), (xT, .inl (G.2 4, 4, .inr (.inr (.inr (.inr fT))))), (xg, .inr (2, [.ref xs, .int gsz])), (t1, .inr (5, [.int num1, .int ses1, .long rol1, .int opn1, .int awl1, .int aws1, .int oct1, .int ksf1, .int ou1, .ref u1t, .ref k1t])), (t2, .inr (5, [.int num2, .int ses2, .long rol2, .int opn2, .int awl2, .int aws2, .int oct2, .int ksf2, .int ou2, .ref u2t, .ref k2t])), (t3, .inr (5, [.int num3, .int ses3, .long rol3, .int opn3, .int awl3, .int aws3, .int oct3, .int ksf3, .int ou3, .ref u3t, .ref k3t]))]) (va_runV (As := [.int 1]) (rest := []) ⟨hx, hb, hml, hown, hts⟩ (c_X3_startSession l G t0 u0t k0t _ num0 ses0 rol0 opn0 awl0 aws0 oct0 ksf0 ou0 1) (cwV 1 hts gX5_reset_X3_startSession rfl rfl rfl (by decide +kernel) ⟨Nat.le_of_ble_eq_true rfl, Nat.le_of_ble_eq_true rfl⟩) (pR_V hK hPc hDc (q0 := 0) rfl rfl) rfl rfl hl.1 rfl (lv_room (Nat.le_of_ble_eq_true rfl)) dX5_reset_32 ⟨Nat.le_of_ble_eq_true rfl, Nat.le_of_ble_eq_true rfl⟩) hP hD hS hA [3] [0, 1, 2, 4, 5, 6] rfl rfl (by decide) (by decide) (fun u1 ez1 H locs hP hD hS => ?_)
    have hP : va_P G.1 vwCl [(h0, .inr (7, [.ref xl, .ref xt, .ref xg, .ref xu, .ref xT, .ref xh, .int made, .long tim])), (xT, .inl (G.2 4, 4, .inr (.inr (.inr (.inr fT))))), (xg, .inr (2, [.ref xs, .int gsz])), (t1, .inr (5, [.int num1, .int ses1, .long rol1, .int opn1, .int awl1, .int aws1, .int oct1, .int ksf1, .int ou1, .ref u1t, .ref k1t])), (t2, .inr (5, [.int num2, .int ses2, .long rol2, .int opn2, .int awl2, .int aws2, .int oct2, .int ksf2, .int ou2, .ref u2t, .ref k2t])), (t3, .inr (5, [.int num3, .int ses3, .long rol3, .int opn3, .int awl3, .int aws3, .int oct3, .int ksf3, .int ou3, .ref u3t, .ref k3t])), (t0, .inr (5, [.int num0, .int u1.1, .long u1.2.1, .int u1.2.2.1, .int u1.2.2.2, .int aws0, .int oct0, .int ksf0, .int ou0, .ref u0t, .ref k0t]))] H := hP
    have hD : va_D A [(h0, .inr (7, [.ref xl, .ref xt, .ref xg, .ref xu, .ref xT, .ref xh, .int made, .long tim])), (xT, .inl (G.2 4, 4, .inr (.inr (.inr (.inr fT))))), (xg, .inr (2, [.ref xs, .int gsz])), (t1, .inr (5, [.int num1, .int ses1, .long rol1, .int opn1, .int awl1, .int aws1, .int oct1, .int ksf1, .int ou1, .ref u1t, .ref k1t])), (t2, .inr (5, [.int num2, .int ses2, .long rol2, .int opn2, .int awl2, .int aws2, .int oct2, .int ksf2, .int ou2, .ref u2t, .ref k2t])), (t3, .inr (5, [.int num3, .int ses3, .long rol3, .int opn3, .int awl3, .int aws3, .int oct3, .int ksf3, .int ou3, .ref u3t, .ref k3t])), (t0, .inr (5, [.int num0, .int u1.1, .long u1.2.1, .int u1.2.2.1, .int u1.2.2.2, .int aws0, .int oct0, .int ksf0, .int ou0, .ref u0t, .ref k0t]))] := hD
    have hF := lz_e hF ez1
    refine lv_aload_n hx hb dX5_reset_35 rfl (lv_at hl 0 rfl) ?_
    have hPc := hP.sub (ws' := [(t0, .inr (5, [.int num0, .int u1.1, .long u1.2.1, .int u1.2.2.1, .int u1.2.2.2, .int aws0, .int oct0, .int ksf0, .int ou0, .ref u0t, .ref k0t]))]) [6] rfl
    have hDc := hD.sub (ws' := [(t0, .inr (5, [.int num0, .int u1.1, .long u1.2.1, .int u1.2.2.1, .int u1.2.2.2, .int aws0, .int oct0, .int ksf0, .int ou0, .ref u0t, .ref k0t]))]) [6] (by decide) rfl
    refine cl_v (wr := [(h0, .inr (7, [.ref xl, .ref xt, .ref xg, .ref xu, .ref xT, .ref xh, .int made, .long tim])), (xT, .inl (G.2 4, 4, .inr (.inr (.inr (.inr fT))))), (xg, .inr (2, [.ref xs, .int gsz])), (t1, .inr (5, [.int num1, .int ses1, .long rol1, .int opn1, .int awl1, .int aws1, .int oct1, .int ksf1, .int ou1, .ref u1t, .ref k1t])), (t2, .inr (5, [.int num2, .int ses2, .long rol2, .int opn2, .int awl2, .int aws2, .int oct2, .int ksf2, .int ou2, .ref u2t, .ref k2t])), (t3, .inr (5, [.int num3, .int ses3, .long rol3, .int opn3, .int awl3, .int aws3, .int oct3, .int ksf3, .int ou3, .ref u3t, .ref k3t]))]) (va_runV (As := []) (rest := []) ⟨hx, hb, hml, hown, hts⟩ (c_X3_dropOctets l G t0 u0t k0t _ num0 u1.1 u1.2.1 u1.2.2.1 u1.2.2.2 aws0 oct0 ksf0 ou0) (cwV 0 hts gX5_reset_X3_dropOctets rfl rfl rfl (by decide +kernel) ⟨Nat.le_of_ble_eq_true rfl, Nat.le_of_ble_eq_true rfl⟩) (pR_V hK hPc hDc (q0 := 0) rfl rfl) rfl rfl hl.1 rfl (lv_room (Nat.le_of_ble_eq_true rfl)) dX5_reset_36 ⟨Nat.le_of_ble_eq_true rfl, Nat.le_of_ble_eq_true rfl⟩) hP hD hS hA [6] [0, 1, 2, 3, 4, 5] rfl rfl (by decide) (by decide) (fun u2 ez2 H locs hP hD hS => ?_)
    have hP : va_P G.1 vwCl [(h0, .inr (7, [.ref xl, .ref xt, .ref xg, .ref xu, .ref xT, .ref xh, .int made, .long tim])), (xT, .inl (G.2 4, 4, .inr (.inr (.inr (.inr fT))))), (xg, .inr (2, [.ref xs, .int gsz])), (t1, .inr (5, [.int num1, .int ses1, .long rol1, .int opn1, .int awl1, .int aws1, .int oct1, .int ksf1, .int ou1, .ref u1t, .ref k1t])), (t2, .inr (5, [.int num2, .int ses2, .long rol2, .int opn2, .int awl2, .int aws2, .int oct2, .int ksf2, .int ou2, .ref u2t, .ref k2t])), (t3, .inr (5, [.int num3, .int ses3, .long rol3, .int opn3, .int awl3, .int aws3, .int oct3, .int ksf3, .int ou3, .ref u3t, .ref k3t])), (t0, .inr (5, [.int num0, .int u1.1, .long u1.2.1, .int u1.2.2.1, .int u1.2.2.2, .int aws0, .int u2.1, .int u2.2, .int ou0, .ref u0t, .ref k0t]))] H := hP
    have hD : va_D A [(h0, .inr (7, [.ref xl, .ref xt, .ref xg, .ref xu, .ref xT, .ref xh, .int made, .long tim])), (xT, .inl (G.2 4, 4, .inr (.inr (.inr (.inr fT))))), (xg, .inr (2, [.ref xs, .int gsz])), (t1, .inr (5, [.int num1, .int ses1, .long rol1, .int opn1, .int awl1, .int aws1, .int oct1, .int ksf1, .int ou1, .ref u1t, .ref k1t])), (t2, .inr (5, [.int num2, .int ses2, .long rol2, .int opn2, .int awl2, .int aws2, .int oct2, .int ksf2, .int ou2, .ref u2t, .ref k2t])), (t3, .inr (5, [.int num3, .int ses3, .long rol3, .int opn3, .int awl3, .int aws3, .int oct3, .int ksf3, .int ou3, .ref u3t, .ref k3t])), (t0, .inr (5, [.int num0, .int u1.1, .long u1.2.1, .int u1.2.2.1, .int u1.2.2.2, .int aws0, .int u2.1, .int u2.2, .int ou0, .ref u0t, .ref k0t]))] := hD
    have hF := lz_e hF ez2
    refine lv_iinc (v := 1) (lv' := [(2, .int 1), (3, .ref t0), (1, .int (if opn0 = 0 then 0 else 1)), (0, .ref h0)]) hx hb dX5_reset_39 hl (k := 1) rfl (by decide) (by decide) rfl (fun ls hl => ?_)
    refine lv_goto (tgt := 4) hx hb dX5_reset_42 (by decide) ?_
    refine lv_iload_n hx hb dX5_reset_4 rfl (lv_at hl 0 rfl) ?_
    refine lv_aload_n hx hb dX5_reset_5 rfl (lv_at hl 3 rfl) ?_
    refine va_get (D := G.1) (ci := 7) (v := .ref xT) (C := RX5) (T := TX5) (N := 8) hx hb hts iX5 hown hK.1 hP 0 rfl rfl 4 (by decide) (hts (.fieldLink RX5 38 "RightsSteps" "testers" "[LRightsSteps$Tester;") (by decide +kernel)) (fun _ h9 => h9) rfl dX5_reset_6 ?_
    refine va_alen (v := 4) hx hb hK.1 hP 1 4 rfl rfl rfl dX5_reset_9 ?_
    refine lv_icmp_ge (tgt := 45) hx hb dX5_reset_10 (by decide) (fun q => absurd q (by decide)) (fun _ => ?_)
    refine lv_aload_n hx hb dX5_reset_13 rfl (lv_at hl 3 rfl) ?_
    refine va_get (D := G.1) (ci := 7) (v := .ref xT) (C := RX5) (T := TX5) (N := 8) hx hb hts iX5 hown hK.1 hP 0 rfl rfl 4 (by decide) (hts (.fieldLink RX5 38 "RightsSteps" "testers" "[LRightsSteps$Tester;") (by decide +kernel)) (fun _ h9 => h9) rfl dX5_reset_14 ?_
    refine lv_iload_n hx hb dX5_reset_17 rfl (lv_at hl 0 rfl) ?_
    refine va_aldq (f := fT) hx hb hK.1 hP 1 4 rfl rfl (vp_in_iff.mpr (by decide)) dX5_reset_18 ?_
    refine W.eq (g2 := F0 m 19 ls (.ref t1 :: [])) (by rw [show fT (1 : Int32).toNatClampNeg = some t1 from hT1]; rfl) ?_
    refine lv_astore_n (lv' := [(3, .ref t1), (2, .int 1), (1, .int (if opn0 = 0 then 0 else 1)), (0, .ref h0)]) hx hb dX5_reset_19 rfl hl (by decide) rfl (fun ls hl => ?_)
    refine lv_aload_n hx hb dX5_reset_20 rfl (lv_at hl 0 rfl) ?_
    refine va_getN (D := G.1) (ci := 5) (v := .int opn1) (C := RX3) (T := TX3) (N := 11) hx hb hts iX3 hown hK.1 hP 3 rfl rfl 3 (by decide) (va_Nw.use rfl hK.2.2.2.2.2.1) (fun _ h9 => h9) rfl dX5_reset_21 ?_
    refine W.join (J := 30) (nL := 4) (lvm := [(3, .ref t1), (2, .int 1), (1, .int (if opn1 = 0 then (if opn0 = 0 then 0 else 1) else ((if opn0 = 0 then 0 else 1) + 1))), (0, .ref h0)]) (st := []) (fun hJ => ?_) (fun ls hl => ?_)
    · refine lv_if_eq (tgt := 30) hx hb dX5_reset_24 (by decide) (fun c_24_2 => ?_) (fun c_24_2 => ?_)
      · exact hJ ls (by rw [if_pos c_24_2]; exact lv_sub hl [0, 1, 2, 3] rfl)
      · refine lv_iinc (v := ((if opn0 = 0 then 0 else 1) + 1)) (lv' := [(1, .int ((if opn0 = 0 then 0 else 1) + 1)), (3, .ref t1), (2, .int 1), (0, .ref h0)]) hx hb dX5_reset_27 hl (k := 2) rfl rfl (by decide) rfl (fun ls hl => ?_)
        exact hJ ls (by rw [if_neg c_24_2]; exact lv_sub hl [1, 2, 0, 3] rfl)
    · refine lv_aload_n hx hb dX5_reset_30 rfl (lv_at hl 0 rfl) ?_
      refine lv_iconst (v := 1) hx hb dX5_reset_31 (by decide) ?_
      have hPc := hP.sub (ws' := [(t1, .inr (5, [.int num1, .int ses1, .long rol1, .int opn1, .int awl1, .int aws1, .int oct1, .int ksf1, .int ou1, .ref u1t, .ref k1t]))]) [3] rfl
      have hDc := hD.sub (ws' := [(t1, .inr (5, [.int num1, .int ses1, .long rol1, .int opn1, .int awl1, .int aws1, .int oct1, .int ksf1, .int ou1, .ref u1t, .ref k1t]))]) [3] (by decide) rfl
      refine cl_v (wr := [(h0, .inr (7, [.ref xl, .ref xt, .ref xg, .ref xu, .ref xT, .ref xh, .int made, .long tim])), (xT, .inl (G.2 4, 4, .inr (.inr (.inr (.inr fT))))), (xg, .inr (2, [.ref xs, .int gsz])), (t2, .inr (5, [.int num2, .int ses2, .long rol2, .int opn2, .int awl2, .int aws2, .int oct2, .int ksf2, .int ou2, .ref u2t, .ref k2t])), (t3, .inr (5, [.int num3, .int ses3, .long rol3, .int opn3, .int awl3, .int aws3, .int oct3, .int ksf3, .int ou3, .ref u3t, .ref k3t])), (t0, .inr (5, [.int num0, .int u1.1, .long u1.2.1, .int u1.2.2.1, .int u1.2.2.2, .int aws0, .int u2.1, .int u2.2, .int ou0, .ref u0t, .ref k0t]))]) (va_runV (As := [.int 1]) (rest := []) ⟨hx, hb, hml, hown, hts⟩ (c_X3_startSession l G t1 u1t k1t _ num1 ses1 rol1 opn1 awl1 aws1 oct1 ksf1 ou1 1) (cwV 1 hts gX5_reset_X3_startSession rfl rfl rfl (by decide +kernel) ⟨Nat.le_of_ble_eq_true rfl, Nat.le_of_ble_eq_true rfl⟩) (pR_V hK hPc hDc (q0 := 0) rfl rfl) rfl rfl hl.1 rfl (lv_room (Nat.le_of_ble_eq_true rfl)) dX5_reset_32 ⟨Nat.le_of_ble_eq_true rfl, Nat.le_of_ble_eq_true rfl⟩) hP hD hS hA [3] [0, 1, 2, 4, 5, 6] rfl rfl (by decide) (by decide) (fun u3 ez3 H locs hP hD hS => ?_)
      have hP : va_P G.1 vwCl [(h0, .inr (7, [.ref xl, .ref xt, .ref xg, .ref xu, .ref xT, .ref xh, .int made, .long tim])), (xT, .inl (G.2 4, 4, .inr (.inr (.inr (.inr fT))))), (xg, .inr (2, [.ref xs, .int gsz])), (t2, .inr (5, [.int num2, .int ses2, .long rol2, .int opn2, .int awl2, .int aws2, .int oct2, .int ksf2, .int ou2, .ref u2t, .ref k2t])), (t3, .inr (5, [.int num3, .int ses3, .long rol3, .int opn3, .int awl3, .int aws3, .int oct3, .int ksf3, .int ou3, .ref u3t, .ref k3t])), (t0, .inr (5, [.int num0, .int u1.1, .long u1.2.1, .int u1.2.2.1, .int u1.2.2.2, .int aws0, .int u2.1, .int u2.2, .int ou0, .ref u0t, .ref k0t])), (t1, .inr (5, [.int num1, .int u3.1, .long u3.2.1, .int u3.2.2.1, .int u3.2.2.2, .int aws1, .int oct1, .int ksf1, .int ou1, .ref u1t, .ref k1t]))] H := hP
      have hD : va_D A [(h0, .inr (7, [.ref xl, .ref xt, .ref xg, .ref xu, .ref xT, .ref xh, .int made, .long tim])), (xT, .inl (G.2 4, 4, .inr (.inr (.inr (.inr fT))))), (xg, .inr (2, [.ref xs, .int gsz])), (t2, .inr (5, [.int num2, .int ses2, .long rol2, .int opn2, .int awl2, .int aws2, .int oct2, .int ksf2, .int ou2, .ref u2t, .ref k2t])), (t3, .inr (5, [.int num3, .int ses3, .long rol3, .int opn3, .int awl3, .int aws3, .int oct3, .int ksf3, .int ou3, .ref u3t, .ref k3t])), (t0, .inr (5, [.int num0, .int u1.1, .long u1.2.1, .int u1.2.2.1, .int u1.2.2.2, .int aws0, .int u2.1, .int u2.2, .int ou0, .ref u0t, .ref k0t])), (t1, .inr (5, [.int num1, .int u3.1, .long u3.2.1, .int u3.2.2.1, .int u3.2.2.2, .int aws1, .int oct1, .int ksf1, .int ou1, .ref u1t, .ref k1t]))] := hD
      have hF := lz_e hF ez3
      refine lv_aload_n hx hb dX5_reset_35 rfl (lv_at hl 0 rfl) ?_
      have hPc := hP.sub (ws' := [(t1, .inr (5, [.int num1, .int u3.1, .long u3.2.1, .int u3.2.2.1, .int u3.2.2.2, .int aws1, .int oct1, .int ksf1, .int ou1, .ref u1t, .ref k1t]))]) [6] rfl
      have hDc := hD.sub (ws' := [(t1, .inr (5, [.int num1, .int u3.1, .long u3.2.1, .int u3.2.2.1, .int u3.2.2.2, .int aws1, .int oct1, .int ksf1, .int ou1, .ref u1t, .ref k1t]))]) [6] (by decide) rfl
      refine cl_v (wr := [(h0, .inr (7, [.ref xl, .ref xt, .ref xg, .ref xu, .ref xT, .ref xh, .int made, .long tim])), (xT, .inl (G.2 4, 4, .inr (.inr (.inr (.inr fT))))), (xg, .inr (2, [.ref xs, .int gsz])), (t2, .inr (5, [.int num2, .int ses2, .long rol2, .int opn2, .int awl2, .int aws2, .int oct2, .int ksf2, .int ou2, .ref u2t, .ref k2t])), (t3, .inr (5, [.int num3, .int ses3, .long rol3, .int opn3, .int awl3, .int aws3, .int oct3, .int ksf3, .int ou3, .ref u3t, .ref k3t])), (t0, .inr (5, [.int num0, .int u1.1, .long u1.2.1, .int u1.2.2.1, .int u1.2.2.2, .int aws0, .int u2.1, .int u2.2, .int ou0, .ref u0t, .ref k0t]))]) (va_runV (As := []) (rest := []) ⟨hx, hb, hml, hown, hts⟩ (c_X3_dropOctets l G t1 u1t k1t _ num1 u3.1 u3.2.1 u3.2.2.1 u3.2.2.2 aws1 oct1 ksf1 ou1) (cwV 0 hts gX5_reset_X3_dropOctets rfl rfl rfl (by decide +kernel) ⟨Nat.le_of_ble_eq_true rfl, Nat.le_of_ble_eq_true rfl⟩) (pR_V hK hPc hDc (q0 := 0) rfl rfl) rfl rfl hl.1 rfl (lv_room (Nat.le_of_ble_eq_true rfl)) dX5_reset_36 ⟨Nat.le_of_ble_eq_true rfl, Nat.le_of_ble_eq_true rfl⟩) hP hD hS hA [6] [0, 1, 2, 3, 4, 5] rfl rfl (by decide) (by decide) (fun u4 ez4 H locs hP hD hS => ?_)
      have hP : va_P G.1 vwCl [(h0, .inr (7, [.ref xl, .ref xt, .ref xg, .ref xu, .ref xT, .ref xh, .int made, .long tim])), (xT, .inl (G.2 4, 4, .inr (.inr (.inr (.inr fT))))), (xg, .inr (2, [.ref xs, .int gsz])), (t2, .inr (5, [.int num2, .int ses2, .long rol2, .int opn2, .int awl2, .int aws2, .int oct2, .int ksf2, .int ou2, .ref u2t, .ref k2t])), (t3, .inr (5, [.int num3, .int ses3, .long rol3, .int opn3, .int awl3, .int aws3, .int oct3, .int ksf3, .int ou3, .ref u3t, .ref k3t])), (t0, .inr (5, [.int num0, .int u1.1, .long u1.2.1, .int u1.2.2.1, .int u1.2.2.2, .int aws0, .int u2.1, .int u2.2, .int ou0, .ref u0t, .ref k0t])), (t1, .inr (5, [.int num1, .int u3.1, .long u3.2.1, .int u3.2.2.1, .int u3.2.2.2, .int aws1, .int u4.1, .int u4.2, .int ou1, .ref u1t, .ref k1t]))] H := hP
      have hD : va_D A [(h0, .inr (7, [.ref xl, .ref xt, .ref xg, .ref xu, .ref xT, .ref xh, .int made, .long tim])), (xT, .inl (G.2 4, 4, .inr (.inr (.inr (.inr fT))))), (xg, .inr (2, [.ref xs, .int gsz])), (t2, .inr (5, [.int num2, .int ses2, .long rol2, .int opn2, .int awl2, .int aws2, .int oct2, .int ksf2, .int ou2, .ref u2t, .ref k2t])), (t3, .inr (5, [.int num3, .int ses3, .long rol3, .int opn3, .int awl3, .int aws3, .int oct3, .int ksf3, .int ou3, .ref u3t, .ref k3t])), (t0, .inr (5, [.int num0, .int u1.1, .long u1.2.1, .int u1.2.2.1, .int u1.2.2.2, .int aws0, .int u2.1, .int u2.2, .int ou0, .ref u0t, .ref k0t])), (t1, .inr (5, [.int num1, .int u3.1, .long u3.2.1, .int u3.2.2.1, .int u3.2.2.2, .int aws1, .int u4.1, .int u4.2, .int ou1, .ref u1t, .ref k1t]))] := hD
      have hF := lz_e hF ez4
      refine lv_iinc (v := 2) (lv' := [(2, .int 2), (3, .ref t1), (1, .int (if opn1 = 0 then (if opn0 = 0 then 0 else 1) else ((if opn0 = 0 then 0 else 1) + 1))), (0, .ref h0)]) hx hb dX5_reset_39 hl (k := 1) rfl (by decide) (by decide) rfl (fun ls hl => ?_)
      refine lv_goto (tgt := 4) hx hb dX5_reset_42 (by decide) ?_
      refine lv_iload_n hx hb dX5_reset_4 rfl (lv_at hl 0 rfl) ?_
      refine lv_aload_n hx hb dX5_reset_5 rfl (lv_at hl 3 rfl) ?_
      refine va_get (D := G.1) (ci := 7) (v := .ref xT) (C := RX5) (T := TX5) (N := 8) hx hb hts iX5 hown hK.1 hP 0 rfl rfl 4 (by decide) (hts (.fieldLink RX5 38 "RightsSteps" "testers" "[LRightsSteps$Tester;") (by decide +kernel)) (fun _ h9 => h9) rfl dX5_reset_6 ?_
      refine va_alen (v := 4) hx hb hK.1 hP 1 4 rfl rfl rfl dX5_reset_9 ?_
      refine lv_icmp_ge (tgt := 45) hx hb dX5_reset_10 (by decide) (fun q => absurd q (by decide)) (fun _ => ?_)
      refine lv_aload_n hx hb dX5_reset_13 rfl (lv_at hl 3 rfl) ?_
      refine va_get (D := G.1) (ci := 7) (v := .ref xT) (C := RX5) (T := TX5) (N := 8) hx hb hts iX5 hown hK.1 hP 0 rfl rfl 4 (by decide) (hts (.fieldLink RX5 38 "RightsSteps" "testers" "[LRightsSteps$Tester;") (by decide +kernel)) (fun _ h9 => h9) rfl dX5_reset_14 ?_
      refine lv_iload_n hx hb dX5_reset_17 rfl (lv_at hl 0 rfl) ?_
      refine va_aldq (f := fT) hx hb hK.1 hP 1 4 rfl rfl (vp_in_iff.mpr (by decide)) dX5_reset_18 ?_
      refine W.eq (g2 := F0 m 19 ls (.ref t2 :: [])) (by rw [show fT (2 : Int32).toNatClampNeg = some t2 from hT2]; rfl) ?_
      refine lv_astore_n (lv' := [(3, .ref t2), (2, .int 2), (1, .int (if opn1 = 0 then (if opn0 = 0 then 0 else 1) else ((if opn0 = 0 then 0 else 1) + 1))), (0, .ref h0)]) hx hb dX5_reset_19 rfl hl (by decide) rfl (fun ls hl => ?_)
      refine lv_aload_n hx hb dX5_reset_20 rfl (lv_at hl 0 rfl) ?_
      refine va_getN (D := G.1) (ci := 5) (v := .int opn2) (C := RX3) (T := TX3) (N := 11) hx hb hts iX3 hown hK.1 hP 3 rfl rfl 3 (by decide) (va_Nw.use rfl hK.2.2.2.2.2.1) (fun _ h9 => h9) rfl dX5_reset_21 ?_
      refine W.join (J := 30) (nL := 4) (lvm := [(3, .ref t2), (2, .int 2), (1, .int (if opn2 = 0 then (if opn1 = 0 then (if opn0 = 0 then 0 else 1) else ((if opn0 = 0 then 0 else 1) + 1)) else ((if opn1 = 0 then (if opn0 = 0 then 0 else 1) else ((if opn0 = 0 then 0 else 1) + 1)) + 1))), (0, .ref h0)]) (st := []) (fun hJ => ?_) (fun ls hl => ?_)
      · refine lv_if_eq (tgt := 30) hx hb dX5_reset_24 (by decide) (fun c_24_3 => ?_) (fun c_24_3 => ?_)
        · exact hJ ls (by rw [if_pos c_24_3]; exact lv_sub hl [0, 1, 2, 3] rfl)
        · refine lv_iinc (v := ((if opn1 = 0 then (if opn0 = 0 then 0 else 1) else ((if opn0 = 0 then 0 else 1) + 1)) + 1)) (lv' := [(1, .int ((if opn1 = 0 then (if opn0 = 0 then 0 else 1) else ((if opn0 = 0 then 0 else 1) + 1)) + 1)), (3, .ref t2), (2, .int 2), (0, .ref h0)]) hx hb dX5_reset_27 hl (k := 2) rfl rfl (by decide) rfl (fun ls hl => ?_)
          exact hJ ls (by rw [if_neg c_24_3]; exact lv_sub hl [1, 2, 0, 3] rfl)
      · refine lv_aload_n hx hb dX5_reset_30 rfl (lv_at hl 0 rfl) ?_
        refine lv_iconst (v := 1) hx hb dX5_reset_31 (by decide) ?_
        have hPc := hP.sub (ws' := [(t2, .inr (5, [.int num2, .int ses2, .long rol2, .int opn2, .int awl2, .int aws2, .int oct2, .int ksf2, .int ou2, .ref u2t, .ref k2t]))]) [3] rfl
        have hDc := hD.sub (ws' := [(t2, .inr (5, [.int num2, .int ses2, .long rol2, .int opn2, .int awl2, .int aws2, .int oct2, .int ksf2, .int ou2, .ref u2t, .ref k2t]))]) [3] (by decide) rfl
        refine cl_v (wr := [(h0, .inr (7, [.ref xl, .ref xt, .ref xg, .ref xu, .ref xT, .ref xh, .int made, .long tim])), (xT, .inl (G.2 4, 4, .inr (.inr (.inr (.inr fT))))), (xg, .inr (2, [.ref xs, .int gsz])), (t3, .inr (5, [.int num3, .int ses3, .long rol3, .int opn3, .int awl3, .int aws3, .int oct3, .int ksf3, .int ou3, .ref u3t, .ref k3t])), (t0, .inr (5, [.int num0, .int u1.1, .long u1.2.1, .int u1.2.2.1, .int u1.2.2.2, .int aws0, .int u2.1, .int u2.2, .int ou0, .ref u0t, .ref k0t])), (t1, .inr (5, [.int num1, .int u3.1, .long u3.2.1, .int u3.2.2.1, .int u3.2.2.2, .int aws1, .int u4.1, .int u4.2, .int ou1, .ref u1t, .ref k1t]))]) (va_runV (As := [.int 1]) (rest := []) ⟨hx, hb, hml, hown, hts⟩ (c_X3_startSession l G t2 u2t k2t _ num2 ses2 rol2 opn2 awl2 aws2 oct2 ksf2 ou2 1) (cwV 1 hts gX5_reset_X3_startSession rfl rfl rfl (by decide +kernel) ⟨Nat.le_of_ble_eq_true rfl, Nat.le_of_ble_eq_true rfl⟩) (pR_V hK hPc hDc (q0 := 0) rfl rfl) rfl rfl hl.1 rfl (lv_room (Nat.le_of_ble_eq_true rfl)) dX5_reset_32 ⟨Nat.le_of_ble_eq_true rfl, Nat.le_of_ble_eq_true rfl⟩) hP hD hS hA [3] [0, 1, 2, 4, 5, 6] rfl rfl (by decide) (by decide) (fun u5 ez5 H locs hP hD hS => ?_)
        have hP : va_P G.1 vwCl [(h0, .inr (7, [.ref xl, .ref xt, .ref xg, .ref xu, .ref xT, .ref xh, .int made, .long tim])), (xT, .inl (G.2 4, 4, .inr (.inr (.inr (.inr fT))))), (xg, .inr (2, [.ref xs, .int gsz])), (t3, .inr (5, [.int num3, .int ses3, .long rol3, .int opn3, .int awl3, .int aws3, .int oct3, .int ksf3, .int ou3, .ref u3t, .ref k3t])), (t0, .inr (5, [.int num0, .int u1.1, .long u1.2.1, .int u1.2.2.1, .int u1.2.2.2, .int aws0, .int u2.1, .int u2.2, .int ou0, .ref u0t, .ref k0t])), (t1, .inr (5, [.int num1, .int u3.1, .long u3.2.1, .int u3.2.2.1, .int u3.2.2.2, .int aws1, .int u4.1, .int u4.2, .int ou1, .ref u1t, .ref k1t])), (t2, .inr (5, [.int num2, .int u5.1, .long u5.2.1, .int u5.2.2.1, .int u5.2.2.2, .int aws2, .int oct2, .int ksf2, .int ou2, .ref u2t, .ref k2t]))] H := hP
        have hD : va_D A [(h0, .inr (7, [.ref xl, .ref xt, .ref xg, .ref xu, .ref xT, .ref xh, .int made, .long tim])), (xT, .inl (G.2 4, 4, .inr (.inr (.inr (.inr fT))))), (xg, .inr (2, [.ref xs, .int gsz])), (t3, .inr (5, [.int num3, .int ses3, .long rol3, .int opn3, .int awl3, .int aws3, .int oct3, .int ksf3, .int ou3, .ref u3t, .ref k3t])), (t0, .inr (5, [.int num0, .int u1.1, .long u1.2.1, .int u1.2.2.1, .int u1.2.2.2, .int aws0, .int u2.1, .int u2.2, .int ou0, .ref u0t, .ref k0t])), (t1, .inr (5, [.int num1, .int u3.1, .long u3.2.1, .int u3.2.2.1, .int u3.2.2.2, .int aws1, .int u4.1, .int u4.2, .int ou1, .ref u1t, .ref k1t])), (t2, .inr (5, [.int num2, .int u5.1, .long u5.2.1, .int u5.2.2.1, .int u5.2.2.2, .int aws2, .int oct2, .int ksf2, .int ou2, .ref u2t, .ref k2t]))] := hD
        have hF := lz_e hF ez5
        refine lv_aload_n hx hb dX5_reset_35 rfl (lv_at hl 0 rfl) ?_
        have hPc := hP.sub (ws' := [(t2, .inr (5, [.int num2, .int u5.1, .long u5.2.1, .int u5.2.2.1, .int u5.2.2.2, .int aws2, .int oct2, .int ksf2, .int ou2, .ref u2t, .ref k2t]))]) [6] rfl
        have hDc := hD.sub (ws' := [(t2, .inr (5, [.int num2, .int u5.1, .long u5.2.1, .int u5.2.2.1, .int u5.2.2.2, .int aws2, .int oct2, .int ksf2, .int ou2, .ref u2t, .ref k2t]))]) [6] (by decide) rfl
        refine cl_v (wr := [(h0, .inr (7, [.ref xl, .ref xt, .ref xg, .ref xu, .ref xT, .ref xh, .int made, .long tim])), (xT, .inl (G.2 4, 4, .inr (.inr (.inr (.inr fT))))), (xg, .inr (2, [.ref xs, .int gsz])), (t3, .inr (5, [.int num3, .int ses3, .long rol3, .int opn3, .int awl3, .int aws3, .int oct3, .int ksf3, .int ou3, .ref u3t, .ref k3t])), (t0, .inr (5, [.int num0, .int u1.1, .long u1.2.1, .int u1.2.2.1, .int u1.2.2.2, .int aws0, .int u2.1, .int u2.2, .int ou0, .ref u0t, .ref k0t])), (t1, .inr (5, [.int num1, .int u3.1, .long u3.2.1, .int u3.2.2.1, .int u3.2.2.2, .int aws1, .int u4.1, .int u4.2, .int ou1, .ref u1t, .ref k1t]))]) (va_runV (As := []) (rest := []) ⟨hx, hb, hml, hown, hts⟩ (c_X3_dropOctets l G t2 u2t k2t _ num2 u5.1 u5.2.1 u5.2.2.1 u5.2.2.2 aws2 oct2 ksf2 ou2) (cwV 0 hts gX5_reset_X3_dropOctets rfl rfl rfl (by decide +kernel) ⟨Nat.le_of_ble_eq_true rfl, Nat.le_of_ble_eq_true rfl⟩) (pR_V hK hPc hDc (q0 := 0) rfl rfl) rfl rfl hl.1 rfl (lv_room (Nat.le_of_ble_eq_true rfl)) dX5_reset_36 ⟨Nat.le_of_ble_eq_true rfl, Nat.le_of_ble_eq_true rfl⟩) hP hD hS hA [6] [0, 1, 2, 3, 4, 5] rfl rfl (by decide) (by decide) (fun u6 ez6 H locs hP hD hS => ?_)
        have hP : va_P G.1 vwCl [(h0, .inr (7, [.ref xl, .ref xt, .ref xg, .ref xu, .ref xT, .ref xh, .int made, .long tim])), (xT, .inl (G.2 4, 4, .inr (.inr (.inr (.inr fT))))), (xg, .inr (2, [.ref xs, .int gsz])), (t3, .inr (5, [.int num3, .int ses3, .long rol3, .int opn3, .int awl3, .int aws3, .int oct3, .int ksf3, .int ou3, .ref u3t, .ref k3t])), (t0, .inr (5, [.int num0, .int u1.1, .long u1.2.1, .int u1.2.2.1, .int u1.2.2.2, .int aws0, .int u2.1, .int u2.2, .int ou0, .ref u0t, .ref k0t])), (t1, .inr (5, [.int num1, .int u3.1, .long u3.2.1, .int u3.2.2.1, .int u3.2.2.2, .int aws1, .int u4.1, .int u4.2, .int ou1, .ref u1t, .ref k1t])), (t2, .inr (5, [.int num2, .int u5.1, .long u5.2.1, .int u5.2.2.1, .int u5.2.2.2, .int aws2, .int u6.1, .int u6.2, .int ou2, .ref u2t, .ref k2t]))] H := hP
        have hD : va_D A [(h0, .inr (7, [.ref xl, .ref xt, .ref xg, .ref xu, .ref xT, .ref xh, .int made, .long tim])), (xT, .inl (G.2 4, 4, .inr (.inr (.inr (.inr fT))))), (xg, .inr (2, [.ref xs, .int gsz])), (t3, .inr (5, [.int num3, .int ses3, .long rol3, .int opn3, .int awl3, .int aws3, .int oct3, .int ksf3, .int ou3, .ref u3t, .ref k3t])), (t0, .inr (5, [.int num0, .int u1.1, .long u1.2.1, .int u1.2.2.1, .int u1.2.2.2, .int aws0, .int u2.1, .int u2.2, .int ou0, .ref u0t, .ref k0t])), (t1, .inr (5, [.int num1, .int u3.1, .long u3.2.1, .int u3.2.2.1, .int u3.2.2.2, .int aws1, .int u4.1, .int u4.2, .int ou1, .ref u1t, .ref k1t])), (t2, .inr (5, [.int num2, .int u5.1, .long u5.2.1, .int u5.2.2.1, .int u5.2.2.2, .int aws2, .int u6.1, .int u6.2, .int ou2, .ref u2t, .ref k2t]))] := hD
        have hF := lz_e hF ez6
        refine lv_iinc (v := 3) (lv' := [(2, .int 3), (3, .ref t2), (1, .int (if opn2 = 0 then (if opn1 = 0 then (if opn0 = 0 then 0 else 1) else ((if opn0 = 0 then 0 else 1) + 1)) else ((if opn1 = 0 then (if opn0 = 0 then 0 else 1) else ((if opn0 = 0 then 0 else 1) + 1)) + 1))), (0, .ref h0)]) hx hb dX5_reset_39 hl (k := 1) rfl (by decide) (by decide) rfl (fun ls hl => ?_)
        refine lv_goto (tgt := 4) hx hb dX5_reset_42 (by decide) ?_
        refine lv_iload_n hx hb dX5_reset_4 rfl (lv_at hl 0 rfl) ?_
        refine lv_aload_n hx hb dX5_reset_5 rfl (lv_at hl 3 rfl) ?_
        refine va_get (D := G.1) (ci := 7) (v := .ref xT) (C := RX5) (T := TX5) (N := 8) hx hb hts iX5 hown hK.1 hP 0 rfl rfl 4 (by decide) (hts (.fieldLink RX5 38 "RightsSteps" "testers" "[LRightsSteps$Tester;") (by decide +kernel)) (fun _ h9 => h9) rfl dX5_reset_6 ?_
        refine va_alen (v := 4) hx hb hK.1 hP 1 4 rfl rfl rfl dX5_reset_9 ?_
        refine lv_icmp_ge (tgt := 45) hx hb dX5_reset_10 (by decide) (fun q => absurd q (by decide)) (fun _ => ?_)
        refine lv_aload_n hx hb dX5_reset_13 rfl (lv_at hl 3 rfl) ?_
        refine va_get (D := G.1) (ci := 7) (v := .ref xT) (C := RX5) (T := TX5) (N := 8) hx hb hts iX5 hown hK.1 hP 0 rfl rfl 4 (by decide) (hts (.fieldLink RX5 38 "RightsSteps" "testers" "[LRightsSteps$Tester;") (by decide +kernel)) (fun _ h9 => h9) rfl dX5_reset_14 ?_
        refine lv_iload_n hx hb dX5_reset_17 rfl (lv_at hl 0 rfl) ?_
        refine va_aldq (f := fT) hx hb hK.1 hP 1 4 rfl rfl (vp_in_iff.mpr (by decide)) dX5_reset_18 ?_
        refine W.eq (g2 := F0 m 19 ls (.ref t3 :: [])) (by rw [show fT (3 : Int32).toNatClampNeg = some t3 from hT3]; rfl) ?_
        refine lv_astore_n (lv' := [(3, .ref t3), (2, .int 3), (1, .int (if opn2 = 0 then (if opn1 = 0 then (if opn0 = 0 then 0 else 1) else ((if opn0 = 0 then 0 else 1) + 1)) else ((if opn1 = 0 then (if opn0 = 0 then 0 else 1) else ((if opn0 = 0 then 0 else 1) + 1)) + 1))), (0, .ref h0)]) hx hb dX5_reset_19 rfl hl (by decide) rfl (fun ls hl => ?_)
        refine lv_aload_n hx hb dX5_reset_20 rfl (lv_at hl 0 rfl) ?_
        refine va_getN (D := G.1) (ci := 5) (v := .int opn3) (C := RX3) (T := TX3) (N := 11) hx hb hts iX3 hown hK.1 hP 3 rfl rfl 3 (by decide) (va_Nw.use rfl hK.2.2.2.2.2.1) (fun _ h9 => h9) rfl dX5_reset_21 ?_
        refine W.join (J := 30) (nL := 4) (lvm := [(3, .ref t3), (2, .int 3), (1, .int (if opn3 = 0 then (if opn2 = 0 then (if opn1 = 0 then (if opn0 = 0 then 0 else 1) else ((if opn0 = 0 then 0 else 1) + 1)) else ((if opn1 = 0 then (if opn0 = 0 then 0 else 1) else ((if opn0 = 0 then 0 else 1) + 1)) + 1)) else ((if opn2 = 0 then (if opn1 = 0 then (if opn0 = 0 then 0 else 1) else ((if opn0 = 0 then 0 else 1) + 1)) else ((if opn1 = 0 then (if opn0 = 0 then 0 else 1) else ((if opn0 = 0 then 0 else 1) + 1)) + 1)) + 1))), (0, .ref h0)]) (st := []) (fun hJ => ?_) (fun ls hl => ?_)
        · refine lv_if_eq (tgt := 30) hx hb dX5_reset_24 (by decide) (fun c_24_4 => ?_) (fun c_24_4 => ?_)
          · exact hJ ls (by rw [if_pos c_24_4]; exact lv_sub hl [0, 1, 2, 3] rfl)
          · refine lv_iinc (v := ((if opn2 = 0 then (if opn1 = 0 then (if opn0 = 0 then 0 else 1) else ((if opn0 = 0 then 0 else 1) + 1)) else ((if opn1 = 0 then (if opn0 = 0 then 0 else 1) else ((if opn0 = 0 then 0 else 1) + 1)) + 1)) + 1)) (lv' := [(1, .int ((if opn2 = 0 then (if opn1 = 0 then (if opn0 = 0 then 0 else 1) else ((if opn0 = 0 then 0 else 1) + 1)) else ((if opn1 = 0 then (if opn0 = 0 then 0 else 1) else ((if opn0 = 0 then 0 else 1) + 1)) + 1)) + 1)), (3, .ref t3), (2, .int 3), (0, .ref h0)]) hx hb dX5_reset_27 hl (k := 2) rfl rfl (by decide) rfl (fun ls hl => ?_)
            exact hJ ls (by rw [if_neg c_24_4]; exact lv_sub hl [1, 2, 0, 3] rfl)
        · refine lv_aload_n hx hb dX5_reset_30 rfl (lv_at hl 0 rfl) ?_
          refine lv_iconst (v := 1) hx hb dX5_reset_31 (by decide) ?_
          have hPc := hP.sub (ws' := [(t3, .inr (5, [.int num3, .int ses3, .long rol3, .int opn3, .int awl3, .int aws3, .int oct3, .int ksf3, .int ou3, .ref u3t, .ref k3t]))]) [3] rfl
          have hDc := hD.sub (ws' := [(t3, .inr (5, [.int num3, .int ses3, .long rol3, .int opn3, .int awl3, .int aws3, .int oct3, .int ksf3, .int ou3, .ref u3t, .ref k3t]))]) [3] (by decide) rfl
          refine cl_v (wr := [(h0, .inr (7, [.ref xl, .ref xt, .ref xg, .ref xu, .ref xT, .ref xh, .int made, .long tim])), (xT, .inl (G.2 4, 4, .inr (.inr (.inr (.inr fT))))), (xg, .inr (2, [.ref xs, .int gsz])), (t0, .inr (5, [.int num0, .int u1.1, .long u1.2.1, .int u1.2.2.1, .int u1.2.2.2, .int aws0, .int u2.1, .int u2.2, .int ou0, .ref u0t, .ref k0t])), (t1, .inr (5, [.int num1, .int u3.1, .long u3.2.1, .int u3.2.2.1, .int u3.2.2.2, .int aws1, .int u4.1, .int u4.2, .int ou1, .ref u1t, .ref k1t])), (t2, .inr (5, [.int num2, .int u5.1, .long u5.2.1, .int u5.2.2.1, .int u5.2.2.2, .int aws2, .int u6.1, .int u6.2, .int ou2, .ref u2t, .ref k2t]))]) (va_runV (As := [.int 1]) (rest := []) ⟨hx, hb, hml, hown, hts⟩ (c_X3_startSession l G t3 u3t k3t _ num3 ses3 rol3 opn3 awl3 aws3 oct3 ksf3 ou3 1) (cwV 1 hts gX5_reset_X3_startSession rfl rfl rfl (by decide +kernel) ⟨Nat.le_of_ble_eq_true rfl, Nat.le_of_ble_eq_true rfl⟩) (pR_V hK hPc hDc (q0 := 0) rfl rfl) rfl rfl hl.1 rfl (lv_room (Nat.le_of_ble_eq_true rfl)) dX5_reset_32 ⟨Nat.le_of_ble_eq_true rfl, Nat.le_of_ble_eq_true rfl⟩) hP hD hS hA [3] [0, 1, 2, 4, 5, 6] rfl rfl (by decide) (by decide) (fun u7 ez7 H locs hP hD hS => ?_)
          have hP : va_P G.1 vwCl [(h0, .inr (7, [.ref xl, .ref xt, .ref xg, .ref xu, .ref xT, .ref xh, .int made, .long tim])), (xT, .inl (G.2 4, 4, .inr (.inr (.inr (.inr fT))))), (xg, .inr (2, [.ref xs, .int gsz])), (t0, .inr (5, [.int num0, .int u1.1, .long u1.2.1, .int u1.2.2.1, .int u1.2.2.2, .int aws0, .int u2.1, .int u2.2, .int ou0, .ref u0t, .ref k0t])), (t1, .inr (5, [.int num1, .int u3.1, .long u3.2.1, .int u3.2.2.1, .int u3.2.2.2, .int aws1, .int u4.1, .int u4.2, .int ou1, .ref u1t, .ref k1t])), (t2, .inr (5, [.int num2, .int u5.1, .long u5.2.1, .int u5.2.2.1, .int u5.2.2.2, .int aws2, .int u6.1, .int u6.2, .int ou2, .ref u2t, .ref k2t])), (t3, .inr (5, [.int num3, .int u7.1, .long u7.2.1, .int u7.2.2.1, .int u7.2.2.2, .int aws3, .int oct3, .int ksf3, .int ou3, .ref u3t, .ref k3t]))] H := hP
          have hD : va_D A [(h0, .inr (7, [.ref xl, .ref xt, .ref xg, .ref xu, .ref xT, .ref xh, .int made, .long tim])), (xT, .inl (G.2 4, 4, .inr (.inr (.inr (.inr fT))))), (xg, .inr (2, [.ref xs, .int gsz])), (t0, .inr (5, [.int num0, .int u1.1, .long u1.2.1, .int u1.2.2.1, .int u1.2.2.2, .int aws0, .int u2.1, .int u2.2, .int ou0, .ref u0t, .ref k0t])), (t1, .inr (5, [.int num1, .int u3.1, .long u3.2.1, .int u3.2.2.1, .int u3.2.2.2, .int aws1, .int u4.1, .int u4.2, .int ou1, .ref u1t, .ref k1t])), (t2, .inr (5, [.int num2, .int u5.1, .long u5.2.1, .int u5.2.2.1, .int u5.2.2.2, .int aws2, .int u6.1, .int u6.2, .int ou2, .ref u2t, .ref k2t])), (t3, .inr (5, [.int num3, .int u7.1, .long u7.2.1, .int u7.2.2.1, .int u7.2.2.2, .int aws3, .int oct3, .int ksf3, .int ou3, .ref u3t, .ref k3t]))] := hD
          have hF := lz_e hF ez7
          refine lv_aload_n hx hb dX5_reset_35 rfl (lv_at hl 0 rfl) ?_
          have hPc := hP.sub (ws' := [(t3, .inr (5, [.int num3, .int u7.1, .long u7.2.1, .int u7.2.2.1, .int u7.2.2.2, .int aws3, .int oct3, .int ksf3, .int ou3, .ref u3t, .ref k3t]))]) [6] rfl
          have hDc := hD.sub (ws' := [(t3, .inr (5, [.int num3, .int u7.1, .long u7.2.1, .int u7.2.2.1, .int u7.2.2.2, .int aws3, .int oct3, .int ksf3, .int ou3, .ref u3t, .ref k3t]))]) [6] (by decide) rfl
          refine cl_v (wr := [(h0, .inr (7, [.ref xl, .ref xt, .ref xg, .ref xu, .ref xT, .ref xh, .int made, .long tim])), (xT, .inl (G.2 4, 4, .inr (.inr (.inr (.inr fT))))), (xg, .inr (2, [.ref xs, .int gsz])), (t0, .inr (5, [.int num0, .int u1.1, .long u1.2.1, .int u1.2.2.1, .int u1.2.2.2, .int aws0, .int u2.1, .int u2.2, .int ou0, .ref u0t, .ref k0t])), (t1, .inr (5, [.int num1, .int u3.1, .long u3.2.1, .int u3.2.2.1, .int u3.2.2.2, .int aws1, .int u4.1, .int u4.2, .int ou1, .ref u1t, .ref k1t])), (t2, .inr (5, [.int num2, .int u5.1, .long u5.2.1, .int u5.2.2.1, .int u5.2.2.2, .int aws2, .int u6.1, .int u6.2, .int ou2, .ref u2t, .ref k2t]))]) (va_runV (As := []) (rest := []) ⟨hx, hb, hml, hown, hts⟩ (c_X3_dropOctets l G t3 u3t k3t _ num3 u7.1 u7.2.1 u7.2.2.1 u7.2.2.2 aws3 oct3 ksf3 ou3) (cwV 0 hts gX5_reset_X3_dropOctets rfl rfl rfl (by decide +kernel) ⟨Nat.le_of_ble_eq_true rfl, Nat.le_of_ble_eq_true rfl⟩) (pR_V hK hPc hDc (q0 := 0) rfl rfl) rfl rfl hl.1 rfl (lv_room (Nat.le_of_ble_eq_true rfl)) dX5_reset_36 ⟨Nat.le_of_ble_eq_true rfl, Nat.le_of_ble_eq_true rfl⟩) hP hD hS hA [6] [0, 1, 2, 3, 4, 5] rfl rfl (by decide) (by decide) (fun u8 ez8 H locs hP hD hS => ?_)
          have hP : va_P G.1 vwCl [(h0, .inr (7, [.ref xl, .ref xt, .ref xg, .ref xu, .ref xT, .ref xh, .int made, .long tim])), (xT, .inl (G.2 4, 4, .inr (.inr (.inr (.inr fT))))), (xg, .inr (2, [.ref xs, .int gsz])), (t0, .inr (5, [.int num0, .int u1.1, .long u1.2.1, .int u1.2.2.1, .int u1.2.2.2, .int aws0, .int u2.1, .int u2.2, .int ou0, .ref u0t, .ref k0t])), (t1, .inr (5, [.int num1, .int u3.1, .long u3.2.1, .int u3.2.2.1, .int u3.2.2.2, .int aws1, .int u4.1, .int u4.2, .int ou1, .ref u1t, .ref k1t])), (t2, .inr (5, [.int num2, .int u5.1, .long u5.2.1, .int u5.2.2.1, .int u5.2.2.2, .int aws2, .int u6.1, .int u6.2, .int ou2, .ref u2t, .ref k2t])), (t3, .inr (5, [.int num3, .int u7.1, .long u7.2.1, .int u7.2.2.1, .int u7.2.2.2, .int aws3, .int u8.1, .int u8.2, .int ou3, .ref u3t, .ref k3t]))] H := hP
          have hD : va_D A [(h0, .inr (7, [.ref xl, .ref xt, .ref xg, .ref xu, .ref xT, .ref xh, .int made, .long tim])), (xT, .inl (G.2 4, 4, .inr (.inr (.inr (.inr fT))))), (xg, .inr (2, [.ref xs, .int gsz])), (t0, .inr (5, [.int num0, .int u1.1, .long u1.2.1, .int u1.2.2.1, .int u1.2.2.2, .int aws0, .int u2.1, .int u2.2, .int ou0, .ref u0t, .ref k0t])), (t1, .inr (5, [.int num1, .int u3.1, .long u3.2.1, .int u3.2.2.1, .int u3.2.2.2, .int aws1, .int u4.1, .int u4.2, .int ou1, .ref u1t, .ref k1t])), (t2, .inr (5, [.int num2, .int u5.1, .long u5.2.1, .int u5.2.2.1, .int u5.2.2.2, .int aws2, .int u6.1, .int u6.2, .int ou2, .ref u2t, .ref k2t])), (t3, .inr (5, [.int num3, .int u7.1, .long u7.2.1, .int u7.2.2.1, .int u7.2.2.2, .int aws3, .int u8.1, .int u8.2, .int ou3, .ref u3t, .ref k3t]))] := hD
          have hF := lz_e hF ez8
          refine lv_iinc (v := 4) (lv' := [(2, .int 4), (3, .ref t3), (1, .int (if opn3 = 0 then (if opn2 = 0 then (if opn1 = 0 then (if opn0 = 0 then 0 else 1) else ((if opn0 = 0 then 0 else 1) + 1)) else ((if opn1 = 0 then (if opn0 = 0 then 0 else 1) else ((if opn0 = 0 then 0 else 1) + 1)) + 1)) else ((if opn2 = 0 then (if opn1 = 0 then (if opn0 = 0 then 0 else 1) else ((if opn0 = 0 then 0 else 1) + 1)) else ((if opn1 = 0 then (if opn0 = 0 then 0 else 1) else ((if opn0 = 0 then 0 else 1) + 1)) + 1)) + 1))), (0, .ref h0)]) hx hb dX5_reset_39 hl (k := 1) rfl (by decide) (by decide) rfl (fun ls hl => ?_)
          refine lv_goto (tgt := 4) hx hb dX5_reset_42 (by decide) ?_
          refine lv_iload_n hx hb dX5_reset_4 rfl (lv_at hl 0 rfl) ?_
          refine lv_aload_n hx hb dX5_reset_5 rfl (lv_at hl 3 rfl) ?_
          refine va_get (D := G.1) (ci := 7) (v := .ref xT) (C := RX5) (T := TX5) (N := 8) hx hb hts iX5 hown hK.1 hP 0 rfl rfl 4 (by decide) (hts (.fieldLink RX5 38 "RightsSteps" "testers" "[LRightsSteps$Tester;") (by decide +kernel)) (fun _ h9 => h9) rfl dX5_reset_6 ?_
          refine va_alen (v := 4) hx hb hK.1 hP 1 4 rfl rfl rfl dX5_reset_9 ?_
          refine lv_icmp_ge (tgt := 45) hx hb dX5_reset_10 (by decide) (fun _ => ?_) (fun q => absurd (by decide) q)
          refine lv_aload_n hx hb dX5_reset_45 rfl (lv_at hl 3 rfl) ?_
          refine va_get (D := G.1) (ci := 7) (v := .ref xg) (C := RX5) (T := TX5) (N := 8) hx hb hts iX5 hown hK.1 hP 0 rfl rfl 2 (by decide) (hts (.fieldLink RX5 25 "RightsSteps" "given" "LRightsSteps$GivenSeeds;") (by decide +kernel)) (fun _ h9 => h9) rfl dX5_reset_46 ?_
          have hPc := hP.sub (ws' := [(xg, .inr (2, [.ref xs, .int gsz]))]) [2] rfl
          have hDc := hD.sub (ws' := [(xg, .inr (2, [.ref xs, .int gsz]))]) [2] (by decide) rfl
          refine cl_v (wr := [(h0, .inr (7, [.ref xl, .ref xt, .ref xg, .ref xu, .ref xT, .ref xh, .int made, .long tim])), (xT, .inl (G.2 4, 4, .inr (.inr (.inr (.inr fT))))), (t0, .inr (5, [.int num0, .int u1.1, .long u1.2.1, .int u1.2.2.1, .int u1.2.2.2, .int aws0, .int u2.1, .int u2.2, .int ou0, .ref u0t, .ref k0t])), (t1, .inr (5, [.int num1, .int u3.1, .long u3.2.1, .int u3.2.2.1, .int u3.2.2.2, .int aws1, .int u4.1, .int u4.2, .int ou1, .ref u1t, .ref k1t])), (t2, .inr (5, [.int num2, .int u5.1, .long u5.2.1, .int u5.2.2.1, .int u5.2.2.2, .int aws2, .int u6.1, .int u6.2, .int ou2, .ref u2t, .ref k2t])), (t3, .inr (5, [.int num3, .int u7.1, .long u7.2.1, .int u7.2.2.1, .int u7.2.2.2, .int aws3, .int u8.1, .int u8.2, .int ou3, .ref u3t, .ref k3t]))]) (va_runV (As := []) (rest := []) ⟨hx, hb, hml, hown, hts⟩ (c_X0_forgetAll l G xg xs _ gsz) (cwV 0 hts gX5_reset_X0_forgetAll rfl rfl rfl (by decide +kernel) ⟨Nat.le_of_ble_eq_true rfl, Nat.le_of_ble_eq_true rfl⟩) (pR_V hK hPc hDc (q0 := 0) rfl rfl) rfl rfl hl.1 rfl (lv_room (Nat.le_of_ble_eq_true rfl)) dX5_reset_49 ⟨Nat.le_of_ble_eq_true rfl, Nat.le_of_ble_eq_true rfl⟩) hP hD hS hA [2] [0, 1, 3, 4, 5, 6] rfl rfl (by decide) (by decide) (fun u9 ez9 H locs hP hD hS => ?_)
          have hP : va_P G.1 vwCl [(h0, .inr (7, [.ref xl, .ref xt, .ref xg, .ref xu, .ref xT, .ref xh, .int made, .long tim])), (xT, .inl (G.2 4, 4, .inr (.inr (.inr (.inr fT))))), (t0, .inr (5, [.int num0, .int u1.1, .long u1.2.1, .int u1.2.2.1, .int u1.2.2.2, .int aws0, .int u2.1, .int u2.2, .int ou0, .ref u0t, .ref k0t])), (t1, .inr (5, [.int num1, .int u3.1, .long u3.2.1, .int u3.2.2.1, .int u3.2.2.2, .int aws1, .int u4.1, .int u4.2, .int ou1, .ref u1t, .ref k1t])), (t2, .inr (5, [.int num2, .int u5.1, .long u5.2.1, .int u5.2.2.1, .int u5.2.2.2, .int aws2, .int u6.1, .int u6.2, .int ou2, .ref u2t, .ref k2t])), (t3, .inr (5, [.int num3, .int u7.1, .long u7.2.1, .int u7.2.2.1, .int u7.2.2.2, .int aws3, .int u8.1, .int u8.2, .int ou3, .ref u3t, .ref k3t])), (xg, .inr (2, [.ref xs, .int u9]))] H := hP
          have hD : va_D A [(h0, .inr (7, [.ref xl, .ref xt, .ref xg, .ref xu, .ref xT, .ref xh, .int made, .long tim])), (xT, .inl (G.2 4, 4, .inr (.inr (.inr (.inr fT))))), (t0, .inr (5, [.int num0, .int u1.1, .long u1.2.1, .int u1.2.2.1, .int u1.2.2.2, .int aws0, .int u2.1, .int u2.2, .int ou0, .ref u0t, .ref k0t])), (t1, .inr (5, [.int num1, .int u3.1, .long u3.2.1, .int u3.2.2.1, .int u3.2.2.2, .int aws1, .int u4.1, .int u4.2, .int ou1, .ref u1t, .ref k1t])), (t2, .inr (5, [.int num2, .int u5.1, .long u5.2.1, .int u5.2.2.1, .int u5.2.2.2, .int aws2, .int u6.1, .int u6.2, .int ou2, .ref u2t, .ref k2t])), (t3, .inr (5, [.int num3, .int u7.1, .long u7.2.1, .int u7.2.2.1, .int u7.2.2.2, .int aws3, .int u8.1, .int u8.2, .int ou3, .ref u3t, .ref k3t])), (xg, .inr (2, [.ref xs, .int u9]))] := hD
          have hF := lz_e hF ez9
          refine lv_iload_n hx hb dX5_reset_52 rfl (lv_at hl 2 rfl) ?_
          exact W.iret (v := (if opn3 = 0 then (if opn2 = 0 then (if opn1 = 0 then (if opn0 = 0 then 0 else 1) else ((if opn0 = 0 then 0 else 1) + 1)) else ((if opn1 = 0 then (if opn0 = 0 then 0 else 1) else ((if opn0 = 0 then 0 else 1) + 1)) + 1)) else ((if opn2 = 0 then (if opn1 = 0 then (if opn0 = 0 then 0 else 1) else ((if opn0 = 0 then 0 else 1) + 1)) else ((if opn1 = 0 then (if opn0 = 0 then 0 else 1) else ((if opn0 = 0 then 0 else 1) + 1)) + 1)) + 1))) hx hb hr (fun t ht hW => ⟨⟨(if opn3 = 0 then (if opn2 = 0 then (if opn1 = 0 then (if opn0 = 0 then 0 else 1) else ((if opn0 = 0 then 0 else 1) + 1)) else ((if opn1 = 0 then (if opn0 = 0 then 0 else 1) else ((if opn0 = 0 then 0 else 1) + 1)) + 1)) else ((if opn2 = 0 then (if opn1 = 0 then (if opn0 = 0 then 0 else 1) else ((if opn0 = 0 then 0 else 1) + 1)) else ((if opn1 = 0 then (if opn0 = 0 then 0 else 1) else ((if opn0 = 0 then 0 else 1) + 1)) + 1)) + 1)), (u9, u1.1, u1.2.1, u1.2.2.1, u1.2.2.2, u2.1, u2.2, u3.1, u3.2.1, u3.2.2.1, u3.2.2.2, u4.1, u4.2, u5.1, u5.2.1, u5.2.2.1, u5.2.2.2, u6.1, u6.2, u7.1, u7.2.1, u7.2.2.1, u7.2.2.2, u8.1, u8.2), rfl, hF.symm, by rw [ht]; exact hP.sub [0, 1, 6, 2, 3, 4, 5] rfl, hD.sub [0, 1, 6, 2, 3, 4, 5] (by decide) rfl⟩, hS.F ht⟩) hS.2.2 dX5_reset_53

def ga (u : List Nat) (i : Nat) : Nat := u.getD i 0

set_option maxHeartbeats 4000000 in
set_option maxRecDepth 100000 in
theorem c_X5_init (l : Launch) (G : gG) (h0 : Nat) (sz : Nat) : Met l yX5_init wsX5_init ({ frames := 2, cells := 20, slots := 1601, locals := 45 }) (va_Pc [.ref h0] (pR G [(h0, .inr (7, [.null, .null, .null, .null, .null, .null, .int 0, .long 0]))] sz)) (va_Qv (fun u : List Nat => True) (fun u t => pO G [(h0, .inr (7, [.ref (ga u 0), .ref (ga u 1), .ref (ga u 3), .ref (ga u 5), .ref (ga u 7), .ref (ga u 8), .int 0, .long 0])), ((ga u 0), .inl (G.2 3, 21, .inr (.inr (.inr (.inr (fun _ => none)))))), ((ga u 1), .inr (4, [.ref (ga u 2), .int 0, .int 0])), ((ga u 2), .inl (G.2 0, 200, .inl (fun _ => 0))), ((ga u 3), .inr (2, [.ref (ga u 4), .int 0])), ((ga u 4), .inl (G.2 0, 256, .inl (fun _ => 0))), ((ga u 5), .inr (6, [.ref (ga u 6), .int 0, .int 0])), ((ga u 6), .inl (G.2 0, 900, .inl (fun _ => 0))), ((ga u 7), .inl (G.2 4, 4, .inr (.inr (.inr (.inr (va_up (va_up (va_up (va_up (fun _ => none) (0 : Int32).toNatClampNeg (some (ga u 8))) (1 : Int32).toNatClampNeg (some (ga u 11))) (2 : Int32).toNatClampNeg (some (ga u 14))) (3 : Int32).toNatClampNeg (some (ga u 17)))))))), ((ga u 8), .inr (5, [.int 1, .int 1, .long (-9223372036854775808), .int 0, .int 0, .int 0, .int 0, .int 0, .int 0, .ref (ga u 9), .ref (ga u 10)])), ((ga u 9), .inl (G.2 0, 21, .inl (fun _ => 0))), ((ga u 10), .inl (G.2 1, 21, .inr (.inl (F_J7_fill_d0a16 (fun _ => 0) (-9223372036854775808))))), ((ga u 11), .inr (5, [.int 2, .int 1, .long (-9223372036854775808), .int 0, .int 0, .int 0, .int 0, .int 0, .int 0, .ref (ga u 12), .ref (ga u 13)])), ((ga u 12), .inl (G.2 0, 21, .inl (fun _ => 0))), ((ga u 13), .inl (G.2 1, 21, .inr (.inl (F_J7_fill_d0a16 (fun _ => 0) (-9223372036854775808))))), ((ga u 14), .inr (5, [.int 3, .int 1, .long (-9223372036854775808), .int 0, .int 0, .int 0, .int 0, .int 0, .int 0, .ref (ga u 15), .ref (ga u 16)])), ((ga u 15), .inl (G.2 0, 21, .inl (fun _ => 0))), ((ga u 16), .inl (G.2 1, 21, .inr (.inl (F_J7_fill_d0a16 (fun _ => 0) (-9223372036854775808))))), ((ga u 17), .inr (5, [.int 4, .int 1, .long (-9223372036854775808), .int 0, .int 0, .int 0, .int 0, .int 0, .int 0, .ref (ga u 18), .ref (ga u 19)])), ((ga u 18), .inl (G.2 0, 21, .inl (fun _ => 0))), ((ga u 19), .inl (G.2 1, 21, .inr (.inl (F_J7_fill_d0a16 (fun _ => 0) (-9223372036854775808)))))] (va_A [(h0, .inr (7, [.null, .null, .null, .null, .null, .null, .int 0, .long 0]))] sz) t) (va_A [(h0, .inr (7, [.null, .null, .null, .null, .null, .null, .int 0, .long 0]))] sz)) 20 1601 (va_A [(h0, .inr (7, [.null, .null, .null, .null, .null, .null, .int 0, .long 0]))] sz) := by
  refine Met.ofW (cc := cX5_init) (maxL := 2) (ret := none) (by decide) rfl ?_
  intro p e s m args below meth c s₁ B hml hv
  obtain ⟨rfl, hsz, hP, hK, hD0⟩ := hv
  have hx := B.exec
  have hb := B.bytes
  have hr := B.returns
  have hts := atoms_spec (ws := wsX5_init) B.pre
  have hown : s.vm.findClass RX5 = some m.cls := findClass_of_methodNamed B.named
  have hlocks := B.notSynchronized
  have hin : meth.name = "<init>" := (name_of_methodNamed B.named B.method).1
  subst hsz
  have iX0 : ∀ w ∈ wsX00, w ∈ wsX5_init := by decide +kernel
  have iX2 : ∀ w ∈ wsX20, w ∈ wsX5_init := by decide +kernel
  have iX3 : ∀ w ∈ wsX30, w ∈ wsX5_init := by decide +kernel
  have iX4 : ∀ w ∈ wsX40, w ∈ wsX5_init := by decide +kernel
  have iX5 : ∀ w ∈ wsX50, w ∈ wsX5_init := by decide +kernel
  have hD := hD0.self (sz := s.heap.size)
  generalize hAe : va_A [(h0, .inr (7, [.null, .null, .null, .null, .null, .null, .int 0, .long 0]))] s.heap.size = A at hD ⊢
  have hA : ∀ q : Nat, s.heap.size ≤ q → A q := fun q h => by rw [← hAe]; exact Or.inr h
  have hS : va_S A s.heap s.heap [] := va_S.rf
  have hP : va_P G.1 vwCl [(h0, .inr (7, [.null, .null, .null, .null, .null, .null, .int 0, .long 0]))] s.heap := hP
  have hl := lv_entry ([.ref h0]) (n := 2) (Nat.le_of_ble_eq_true rfl)
  rw [lg_entry_eq]
  generalize (lg_sl ([.ref h0]) ++ List.replicate (2 - (lg_sl ([.ref h0])).length) Slot.unset).toArray = ls at hl ⊢
  have hl : lv_has ls 2 [(0, .ref h0)] := hl
  refine lv_aload_n hx hb dX5_init_0 rfl (lv_at hl 0 rfl) ?_
  refine W.objInit hx hb hown (hts (.methodLink RX5 1 objectInit) (by decide +kernel)) (hts (.instanceMethod objectInit) (by decide +kernel)) (hts (.code objectInit ⟨#[0xb1]⟩ 1 none) (by decide +kernel)) rfl (by rw [hml]; exact hl.1) rfl dX5_init_1 (Nat.le_of_ble_eq_true rfl) (Nat.le_of_ble_eq_true rfl) ?_
  refine W.eq (g2 := F0 m 4 ls ([])) rfl ?_
  refine lv_aload_n hx hb dX5_init_4 rfl (lv_at hl 0 rfl) ?_
  refine lv_bipush (v := 21) hx hb dX5_init_5 (by decide) ?_
  refine my_newq hx hb hown (hts (.classLink RX5 9 RX1) (by decide +kernel)) hK.2.2.2.2.2.2.2.2.2.2.2.2.2.2.2.2.2.2.1 hK hP hD hS hA 3 rfl (by decide) rfl (Nat.le_of_ble_eq_true rfl) (Nat.le_of_ble_eq_true rfl) (Nat.le_of_ble_eq_true rfl) dX5_init_7 (fun q1 H hP hD hS => ?_)
  refine W.widen (k := 1) (n := 21) (Nat.le_of_ble_eq_true rfl) (Nat.le_of_ble_eq_true rfl) ?_
  have hP : va_P G.1 vwCl [(h0, .inr (7, [.null, .null, .null, .null, .null, .null, .int 0, .long 0])), (q1, .inl (G.2 3, 21, .inr (.inr (.inr (.inr (fun _ => none))))))] H := hP
  have hD : va_D A [(h0, .inr (7, [.null, .null, .null, .null, .null, .null, .int 0, .long 0])), (q1, .inl (G.2 3, 21, .inr (.inr (.inr (.inr (fun _ => none))))))] := hD
  refine va_putF (D := G.1) (ci := 7) (v := .ref q1) (ty := .array (.object "RightsSteps$Level")) (C := RX5) (T := TX5) (N := 8) hx hb hts iX5 tyX5 tyX5_ok nmX5 hown hK.1 hP hD hS 0 rfl rfl 0 (by decide) (hts (.fieldLink RX5 11 "RightsSteps" "levels" "[LRightsSteps$Level;") (by decide +kernel)) (fun _ h9 => h9) rfl hin rfl (by decide +kernel) rfl rfl (Nat.le_of_ble_eq_true rfl) dX5_init_10 (fun H locs hP hD hS => ?_)
  have hP : va_P G.1 vwCl [(h0, .inr (7, [.ref q1, .null, .null, .null, .null, .null, .int 0, .long 0])), (q1, .inl (G.2 3, 21, .inr (.inr (.inr (.inr (fun _ => none))))))] H := hP
  have hD : va_D A [(h0, .inr (7, [.ref q1, .null, .null, .null, .null, .null, .int 0, .long 0])), (q1, .inl (G.2 3, 21, .inr (.inr (.inr (.inr (fun _ => none))))))] := hD
  refine lv_aload_n hx hb dX5_init_13 rfl (lv_at hl 0 rfl) ?_
  refine va_new (ci := 4) (fs := [.null, .int 0, .int 0]) (C := RX2) (T := TX2) (N := 3) hx hb hts iX2 tyX2 tyX2_ok hown (hts (.classLink RX5 15 RX2) (by decide +kernel)) (hts (.instantiable RX2 3) (by decide +kernel)) (hts (.initialized RX2) (by decide +kernel)) hK.1 hP hD hS hA rfl (fun j hj => by rcases (show j = 0 ∨ j = 1 ∨ j = 2 by omega) with rfl | rfl | rfl <;> rfl) (Nat.le_of_ble_eq_true rfl) (Nat.le_of_ble_eq_true rfl) dX5_init_14 (fun q2 H hP hD hS => ?_)
  refine W.widen (k := 2) (n := 24) (Nat.le_of_ble_eq_true rfl) (Nat.le_of_ble_eq_true rfl) ?_
  have hP : va_P G.1 vwCl [(h0, .inr (7, [.ref q1, .null, .null, .null, .null, .null, .int 0, .long 0])), (q1, .inl (G.2 3, 21, .inr (.inr (.inr (.inr (fun _ => none)))))), (q2, .inr (4, [.null, .int 0, .int 0]))] H := hP
  have hD : va_D A [(h0, .inr (7, [.ref q1, .null, .null, .null, .null, .null, .int 0, .long 0])), (q1, .inl (G.2 3, 21, .inr (.inr (.inr (.inr (fun _ => none)))))), (q2, .inr (4, [.null, .int 0, .int 0]))] := hD
  refine lv_dup hx hb dX5_init_17 rfl ?_
  have hPc := hP.sub (ws' := [(q2, .inr (4, [.null, .int 0, .int 0]))]) [2] rfl
  have hDc := hD.sub (ws' := [(q2, .inr (4, [.null, .int 0, .int 0]))]) [2] (by decide) rfl
  refine cl_v (wr := [(h0, .inr (7, [.ref q1, .null, .null, .null, .null, .null, .int 0, .long 0])), (q1, .inl (G.2 3, 21, .inr (.inr (.inr (.inr (fun _ => none))))))]) (va_runIN (As := []) (rest := [.ref q2, .ref h0]) ⟨hx, hb, hml, hown, hts⟩ (c_X2_init l G q2 _) ⟨va_cnB 0 hts gX5_init_X2_init_n17 rfl rfl rfl hK.2.2.2.2.2.2.2.2.2.2.2.2.2.2.1 (hts (.initialized RX2) (by decide +kernel)) (by decide +kernel) ⟨Nat.le_of_ble_eq_true rfl, Nat.le_of_ble_eq_true rfl⟩, rfl, hts (.instanceMethod yX2_init) (by decide +kernel)⟩ (pR_S hK hPc hDc) rfl rfl hl.1 rfl (lv_room (Nat.le_of_ble_eq_true rfl)) dX5_init_18 ⟨Nat.le_of_ble_eq_true rfl, Nat.le_of_ble_eq_true rfl⟩) hP hD hS hA [2] [0, 1] rfl rfl (by decide) (by decide) (fun u3 ez3 H locs hP hD hS => ?_)
  have hP : va_P G.1 vwCl [(h0, .inr (7, [.ref q1, .null, .null, .null, .null, .null, .int 0, .long 0])), (q1, .inl (G.2 3, 21, .inr (.inr (.inr (.inr (fun _ => none)))))), (q2, .inr (4, [.ref u3, .int 0, .int 0])), (u3, .inl (G.2 0, 200, .inl (fun _ => 0)))] H := hP
  have hD : va_D A [(h0, .inr (7, [.ref q1, .null, .null, .null, .null, .null, .int 0, .long 0])), (q1, .inl (G.2 3, 21, .inr (.inr (.inr (.inr (fun _ => none)))))), (q2, .inr (4, [.ref u3, .int 0, .int 0])), (u3, .inl (G.2 0, 200, .inl (fun _ => 0)))] := hD
  refine W.widen (k := 3) (n := 224) (Nat.le_of_ble_eq_true rfl) (Nat.le_of_ble_eq_true rfl) ?_
  refine va_putF (D := G.1) (ci := 7) (v := .ref q2) (ty := .object "RightsSteps$Tape") (C := RX5) (T := TX5) (N := 8) hx hb hts iX5 tyX5 tyX5_ok nmX5 hown hK.1 hP hD hS 0 rfl rfl 1 (by decide) (hts (.fieldLink RX5 18 "RightsSteps" "tape" "LRightsSteps$Tape;") (by decide +kernel)) (fun _ h9 => h9) rfl hin rfl (by decide +kernel) rfl rfl (Nat.le_of_ble_eq_true rfl) dX5_init_21 (fun H locs hP hD hS => ?_)
  have hP : va_P G.1 vwCl [(h0, .inr (7, [.ref q1, .ref q2, .null, .null, .null, .null, .int 0, .long 0])), (q1, .inl (G.2 3, 21, .inr (.inr (.inr (.inr (fun _ => none)))))), (q2, .inr (4, [.ref u3, .int 0, .int 0])), (u3, .inl (G.2 0, 200, .inl (fun _ => 0)))] H := hP
  have hD : va_D A [(h0, .inr (7, [.ref q1, .ref q2, .null, .null, .null, .null, .int 0, .long 0])), (q1, .inl (G.2 3, 21, .inr (.inr (.inr (.inr (fun _ => none)))))), (q2, .inr (4, [.ref u3, .int 0, .int 0])), (u3, .inl (G.2 0, 200, .inl (fun _ => 0)))] := hD
  refine lv_aload_n hx hb dX5_init_24 rfl (lv_at hl 0 rfl) ?_
  refine va_new (ci := 2) (fs := [.null, .int 0]) (C := RX0) (T := TX0) (N := 2) hx hb hts iX0 tyX0 tyX0_ok hown (hts (.classLink RX5 22 RX0) (by decide +kernel)) (hts (.instantiable RX0 2) (by decide +kernel)) (hts (.initialized RX0) (by decide +kernel)) hK.1 hP hD hS hA rfl (fun j hj => by rcases (show j = 0 ∨ j = 1 by omega) with rfl | rfl <;> rfl) (Nat.le_of_ble_eq_true rfl) (Nat.le_of_ble_eq_true rfl) dX5_init_25 (fun q4 H hP hD hS => ?_)
  refine W.widen (k := 4) (n := 226) (Nat.le_of_ble_eq_true rfl) (Nat.le_of_ble_eq_true rfl) ?_
  have hP : va_P G.1 vwCl [(h0, .inr (7, [.ref q1, .ref q2, .null, .null, .null, .null, .int 0, .long 0])), (q1, .inl (G.2 3, 21, .inr (.inr (.inr (.inr (fun _ => none)))))), (q2, .inr (4, [.ref u3, .int 0, .int 0])), (u3, .inl (G.2 0, 200, .inl (fun _ => 0))), (q4, .inr (2, [.null, .int 0]))] H := hP
  have hD : va_D A [(h0, .inr (7, [.ref q1, .ref q2, .null, .null, .null, .null, .int 0, .long 0])), (q1, .inl (G.2 3, 21, .inr (.inr (.inr (.inr (fun _ => none)))))), (q2, .inr (4, [.ref u3, .int 0, .int 0])), (u3, .inl (G.2 0, 200, .inl (fun _ => 0))), (q4, .inr (2, [.null, .int 0]))] := hD
  refine lv_dup hx hb dX5_init_28 rfl ?_
  have hPc := hP.sub (ws' := [(q4, .inr (2, [.null, .int 0]))]) [4] rfl
  have hDc := hD.sub (ws' := [(q4, .inr (2, [.null, .int 0]))]) [4] (by decide) rfl
  refine cl_v (wr := [(h0, .inr (7, [.ref q1, .ref q2, .null, .null, .null, .null, .int 0, .long 0])), (q1, .inl (G.2 3, 21, .inr (.inr (.inr (.inr (fun _ => none)))))), (q2, .inr (4, [.ref u3, .int 0, .int 0])), (u3, .inl (G.2 0, 200, .inl (fun _ => 0)))]) (va_runIN (As := []) (rest := [.ref q4, .ref h0]) ⟨hx, hb, hml, hown, hts⟩ (c_X0_init l G q4 _) ⟨va_cnB 0 hts gX5_init_X0_init_n24 rfl rfl rfl hK.2.2.2.2.2.2.2.2.2.2.2.2.2.2.2.1 (hts (.initialized RX0) (by decide +kernel)) (by decide +kernel) ⟨Nat.le_of_ble_eq_true rfl, Nat.le_of_ble_eq_true rfl⟩, rfl, hts (.instanceMethod yX0_init) (by decide +kernel)⟩ (pR_S hK hPc hDc) rfl rfl hl.1 rfl (lv_room (Nat.le_of_ble_eq_true rfl)) dX5_init_29 ⟨Nat.le_of_ble_eq_true rfl, Nat.le_of_ble_eq_true rfl⟩) hP hD hS hA [4] [0, 1, 2, 3] rfl rfl (by decide) (by decide) (fun u5 ez5 H locs hP hD hS => ?_)
  have hP : va_P G.1 vwCl [(h0, .inr (7, [.ref q1, .ref q2, .null, .null, .null, .null, .int 0, .long 0])), (q1, .inl (G.2 3, 21, .inr (.inr (.inr (.inr (fun _ => none)))))), (q2, .inr (4, [.ref u3, .int 0, .int 0])), (u3, .inl (G.2 0, 200, .inl (fun _ => 0))), (q4, .inr (2, [.ref u5, .int 0])), (u5, .inl (G.2 0, 256, .inl (fun _ => 0)))] H := hP
  have hD : va_D A [(h0, .inr (7, [.ref q1, .ref q2, .null, .null, .null, .null, .int 0, .long 0])), (q1, .inl (G.2 3, 21, .inr (.inr (.inr (.inr (fun _ => none)))))), (q2, .inr (4, [.ref u3, .int 0, .int 0])), (u3, .inl (G.2 0, 200, .inl (fun _ => 0))), (q4, .inr (2, [.ref u5, .int 0])), (u5, .inl (G.2 0, 256, .inl (fun _ => 0)))] := hD
  refine W.widen (k := 5) (n := 482) (Nat.le_of_ble_eq_true rfl) (Nat.le_of_ble_eq_true rfl) ?_
  refine va_putF (D := G.1) (ci := 7) (v := .ref q4) (ty := .object "RightsSteps$GivenSeeds") (C := RX5) (T := TX5) (N := 8) hx hb hts iX5 tyX5 tyX5_ok nmX5 hown hK.1 hP hD hS 0 rfl rfl 2 (by decide) (hts (.fieldLink RX5 25 "RightsSteps" "given" "LRightsSteps$GivenSeeds;") (by decide +kernel)) (fun _ h9 => h9) rfl hin rfl (by decide +kernel) rfl rfl (Nat.le_of_ble_eq_true rfl) dX5_init_32 (fun H locs hP hD hS => ?_)
  have hP : va_P G.1 vwCl [(h0, .inr (7, [.ref q1, .ref q2, .ref q4, .null, .null, .null, .int 0, .long 0])), (q1, .inl (G.2 3, 21, .inr (.inr (.inr (.inr (fun _ => none)))))), (q2, .inr (4, [.ref u3, .int 0, .int 0])), (u3, .inl (G.2 0, 200, .inl (fun _ => 0))), (q4, .inr (2, [.ref u5, .int 0])), (u5, .inl (G.2 0, 256, .inl (fun _ => 0)))] H := hP
  have hD : va_D A [(h0, .inr (7, [.ref q1, .ref q2, .ref q4, .null, .null, .null, .int 0, .long 0])), (q1, .inl (G.2 3, 21, .inr (.inr (.inr (.inr (fun _ => none)))))), (q2, .inr (4, [.ref u3, .int 0, .int 0])), (u3, .inl (G.2 0, 200, .inl (fun _ => 0))), (q4, .inr (2, [.ref u5, .int 0])), (u5, .inl (G.2 0, 256, .inl (fun _ => 0)))] := hD
  refine lv_aload_n hx hb dX5_init_35 rfl (lv_at hl 0 rfl) ?_
  refine va_new (ci := 6) (fs := [.null, .int 0, .int 0]) (C := RX4) (T := TX4) (N := 3) hx hb hts iX4 tyX4 tyX4_ok hown (hts (.classLink RX5 29 RX4) (by decide +kernel)) (hts (.instantiable RX4 3) (by decide +kernel)) (hts (.initialized RX4) (by decide +kernel)) hK.1 hP hD hS hA rfl (fun j hj => by rcases (show j = 0 ∨ j = 1 ∨ j = 2 by omega) with rfl | rfl | rfl <;> rfl) (Nat.le_of_ble_eq_true rfl) (Nat.le_of_ble_eq_true rfl) dX5_init_36 (fun q6 H hP hD hS => ?_)
  refine W.widen (k := 6) (n := 485) (Nat.le_of_ble_eq_true rfl) (Nat.le_of_ble_eq_true rfl) ?_
  have hP : va_P G.1 vwCl [(h0, .inr (7, [.ref q1, .ref q2, .ref q4, .null, .null, .null, .int 0, .long 0])), (q1, .inl (G.2 3, 21, .inr (.inr (.inr (.inr (fun _ => none)))))), (q2, .inr (4, [.ref u3, .int 0, .int 0])), (u3, .inl (G.2 0, 200, .inl (fun _ => 0))), (q4, .inr (2, [.ref u5, .int 0])), (u5, .inl (G.2 0, 256, .inl (fun _ => 0))), (q6, .inr (6, [.null, .int 0, .int 0]))] H := hP
  have hD : va_D A [(h0, .inr (7, [.ref q1, .ref q2, .ref q4, .null, .null, .null, .int 0, .long 0])), (q1, .inl (G.2 3, 21, .inr (.inr (.inr (.inr (fun _ => none)))))), (q2, .inr (4, [.ref u3, .int 0, .int 0])), (u3, .inl (G.2 0, 200, .inl (fun _ => 0))), (q4, .inr (2, [.ref u5, .int 0])), (u5, .inl (G.2 0, 256, .inl (fun _ => 0))), (q6, .inr (6, [.null, .int 0, .int 0]))] := hD
  refine lv_dup hx hb dX5_init_39 rfl ?_
  have hPc := hP.sub (ws' := [(q6, .inr (6, [.null, .int 0, .int 0]))]) [6] rfl
  have hDc := hD.sub (ws' := [(q6, .inr (6, [.null, .int 0, .int 0]))]) [6] (by decide) rfl
  refine cl_v (wr := [(h0, .inr (7, [.ref q1, .ref q2, .ref q4, .null, .null, .null, .int 0, .long 0])), (q1, .inl (G.2 3, 21, .inr (.inr (.inr (.inr (fun _ => none)))))), (q2, .inr (4, [.ref u3, .int 0, .int 0])), (u3, .inl (G.2 0, 200, .inl (fun _ => 0))), (q4, .inr (2, [.ref u5, .int 0])), (u5, .inl (G.2 0, 256, .inl (fun _ => 0)))]) (va_runIN (As := []) (rest := [.ref q6, .ref h0]) ⟨hx, hb, hml, hown, hts⟩ (c_X4_init l G q6 _) ⟨va_cnB 0 hts gX5_init_X4_init_n31 rfl rfl rfl hK.2.2.2.2.2.2.2.2.2.2.2.2.2.2.2.2.1 (hts (.initialized RX4) (by decide +kernel)) (by decide +kernel) ⟨Nat.le_of_ble_eq_true rfl, Nat.le_of_ble_eq_true rfl⟩, rfl, hts (.instanceMethod yX4_init) (by decide +kernel)⟩ (pR_S hK hPc hDc) rfl rfl hl.1 rfl (lv_room (Nat.le_of_ble_eq_true rfl)) dX5_init_40 ⟨Nat.le_of_ble_eq_true rfl, Nat.le_of_ble_eq_true rfl⟩) hP hD hS hA [6] [0, 1, 2, 3, 4, 5] rfl rfl (by decide) (by decide) (fun u7 ez7 H locs hP hD hS => ?_)
  have hP : va_P G.1 vwCl [(h0, .inr (7, [.ref q1, .ref q2, .ref q4, .null, .null, .null, .int 0, .long 0])), (q1, .inl (G.2 3, 21, .inr (.inr (.inr (.inr (fun _ => none)))))), (q2, .inr (4, [.ref u3, .int 0, .int 0])), (u3, .inl (G.2 0, 200, .inl (fun _ => 0))), (q4, .inr (2, [.ref u5, .int 0])), (u5, .inl (G.2 0, 256, .inl (fun _ => 0))), (q6, .inr (6, [.ref u7, .int 0, .int 0])), (u7, .inl (G.2 0, 900, .inl (fun _ => 0)))] H := hP
  have hD : va_D A [(h0, .inr (7, [.ref q1, .ref q2, .ref q4, .null, .null, .null, .int 0, .long 0])), (q1, .inl (G.2 3, 21, .inr (.inr (.inr (.inr (fun _ => none)))))), (q2, .inr (4, [.ref u3, .int 0, .int 0])), (u3, .inl (G.2 0, 200, .inl (fun _ => 0))), (q4, .inr (2, [.ref u5, .int 0])), (u5, .inl (G.2 0, 256, .inl (fun _ => 0))), (q6, .inr (6, [.ref u7, .int 0, .int 0])), (u7, .inl (G.2 0, 900, .inl (fun _ => 0)))] := hD
  refine W.widen (k := 7) (n := 1385) (Nat.le_of_ble_eq_true rfl) (Nat.le_of_ble_eq_true rfl) ?_
  refine va_putF (D := G.1) (ci := 7) (v := .ref q6) (ty := .object "RightsSteps$UseLog") (C := RX5) (T := TX5) (N := 8) hx hb hts iX5 tyX5 tyX5_ok nmX5 hown hK.1 hP hD hS 0 rfl rfl 3 (by decide) (hts (.fieldLink RX5 32 "RightsSteps" "uses" "LRightsSteps$UseLog;") (by decide +kernel)) (fun _ h9 => h9) rfl hin rfl (by decide +kernel) rfl rfl (Nat.le_of_ble_eq_true rfl) dX5_init_43 (fun H locs hP hD hS => ?_)
  have hP : va_P G.1 vwCl [(h0, .inr (7, [.ref q1, .ref q2, .ref q4, .ref q6, .null, .null, .int 0, .long 0])), (q1, .inl (G.2 3, 21, .inr (.inr (.inr (.inr (fun _ => none)))))), (q2, .inr (4, [.ref u3, .int 0, .int 0])), (u3, .inl (G.2 0, 200, .inl (fun _ => 0))), (q4, .inr (2, [.ref u5, .int 0])), (u5, .inl (G.2 0, 256, .inl (fun _ => 0))), (q6, .inr (6, [.ref u7, .int 0, .int 0])), (u7, .inl (G.2 0, 900, .inl (fun _ => 0)))] H := hP
  have hD : va_D A [(h0, .inr (7, [.ref q1, .ref q2, .ref q4, .ref q6, .null, .null, .int 0, .long 0])), (q1, .inl (G.2 3, 21, .inr (.inr (.inr (.inr (fun _ => none)))))), (q2, .inr (4, [.ref u3, .int 0, .int 0])), (u3, .inl (G.2 0, 200, .inl (fun _ => 0))), (q4, .inr (2, [.ref u5, .int 0])), (u5, .inl (G.2 0, 256, .inl (fun _ => 0))), (q6, .inr (6, [.ref u7, .int 0, .int 0])), (u7, .inl (G.2 0, 900, .inl (fun _ => 0)))] := hD
  refine lv_aload_n hx hb dX5_init_46 rfl (lv_at hl 0 rfl) ?_
  refine lv_iconst (v := 4) hx hb dX5_init_47 (by decide) ?_
  refine my_newq hx hb hown (hts (.classLink RX5 36 RX3) (by decide +kernel)) hK.2.2.2.2.2.2.2.2.2.2.2.2.2.2.2.2.2.2.2 hK hP hD hS hA 4 rfl (by decide) rfl (Nat.le_of_ble_eq_true rfl) (Nat.le_of_ble_eq_true rfl) (Nat.le_of_ble_eq_true rfl) dX5_init_48 (fun q8 H hP hD hS => ?_)
  refine W.widen (k := 8) (n := 1389) (Nat.le_of_ble_eq_true rfl) (Nat.le_of_ble_eq_true rfl) ?_
  have hP : va_P G.1 vwCl [(h0, .inr (7, [.ref q1, .ref q2, .ref q4, .ref q6, .null, .null, .int 0, .long 0])), (q1, .inl (G.2 3, 21, .inr (.inr (.inr (.inr (fun _ => none)))))), (q2, .inr (4, [.ref u3, .int 0, .int 0])), (u3, .inl (G.2 0, 200, .inl (fun _ => 0))), (q4, .inr (2, [.ref u5, .int 0])), (u5, .inl (G.2 0, 256, .inl (fun _ => 0))), (q6, .inr (6, [.ref u7, .int 0, .int 0])), (u7, .inl (G.2 0, 900, .inl (fun _ => 0))), (q8, .inl (G.2 4, 4, .inr (.inr (.inr (.inr (fun _ => none))))))] H := hP
  have hD : va_D A [(h0, .inr (7, [.ref q1, .ref q2, .ref q4, .ref q6, .null, .null, .int 0, .long 0])), (q1, .inl (G.2 3, 21, .inr (.inr (.inr (.inr (fun _ => none)))))), (q2, .inr (4, [.ref u3, .int 0, .int 0])), (u3, .inl (G.2 0, 200, .inl (fun _ => 0))), (q4, .inr (2, [.ref u5, .int 0])), (u5, .inl (G.2 0, 256, .inl (fun _ => 0))), (q6, .inr (6, [.ref u7, .int 0, .int 0])), (u7, .inl (G.2 0, 900, .inl (fun _ => 0))), (q8, .inl (G.2 4, 4, .inr (.inr (.inr (.inr (fun _ => none))))))] := hD
  refine va_putF (D := G.1) (ci := 7) (v := .ref q8) (ty := .array (.object "RightsSteps$Tester")) (C := RX5) (T := TX5) (N := 8) hx hb hts iX5 tyX5 tyX5_ok nmX5 hown hK.1 hP hD hS 0 rfl rfl 4 (by decide) (hts (.fieldLink RX5 38 "RightsSteps" "testers" "[LRightsSteps$Tester;") (by decide +kernel)) (fun _ h9 => h9) rfl hin rfl (by decide +kernel) rfl rfl (Nat.le_of_ble_eq_true rfl) dX5_init_51 (fun H locs hP hD hS => ?_)
  have hP : va_P G.1 vwCl [(h0, .inr (7, [.ref q1, .ref q2, .ref q4, .ref q6, .ref q8, .null, .int 0, .long 0])), (q1, .inl (G.2 3, 21, .inr (.inr (.inr (.inr (fun _ => none)))))), (q2, .inr (4, [.ref u3, .int 0, .int 0])), (u3, .inl (G.2 0, 200, .inl (fun _ => 0))), (q4, .inr (2, [.ref u5, .int 0])), (u5, .inl (G.2 0, 256, .inl (fun _ => 0))), (q6, .inr (6, [.ref u7, .int 0, .int 0])), (u7, .inl (G.2 0, 900, .inl (fun _ => 0))), (q8, .inl (G.2 4, 4, .inr (.inr (.inr (.inr (fun _ => none))))))] H := hP
  have hD : va_D A [(h0, .inr (7, [.ref q1, .ref q2, .ref q4, .ref q6, .ref q8, .null, .int 0, .long 0])), (q1, .inl (G.2 3, 21, .inr (.inr (.inr (.inr (fun _ => none)))))), (q2, .inr (4, [.ref u3, .int 0, .int 0])), (u3, .inl (G.2 0, 200, .inl (fun _ => 0))), (q4, .inr (2, [.ref u5, .int 0])), (u5, .inl (G.2 0, 256, .inl (fun _ => 0))), (q6, .inr (6, [.ref u7, .int 0, .int 0])), (u7, .inl (G.2 0, 900, .inl (fun _ => 0))), (q8, .inl (G.2 4, 4, .inr (.inr (.inr (.inr (fun _ => none))))))] := hD
  refine lv_iconst (v := 0) hx hb dX5_init_54 (by decide) ?_
  refine lv_istore_n (lv' := [(1, .int 0), (0, .ref h0)]) hx hb dX5_init_55 rfl hl (by decide) rfl (fun ls hl => ?_)
  refine lv_iload_n hx hb dX5_init_56 rfl (lv_at hl 0 rfl) ?_
  refine lv_aload_n hx hb dX5_init_57 rfl (lv_at hl 1 rfl) ?_
  refine va_get (D := G.1) (ci := 7) (v := .ref q8) (C := RX5) (T := TX5) (N := 8) hx hb hts iX5 hown hK.1 hP 0 rfl rfl 4 (by decide) (hts (.fieldLink RX5 38 "RightsSteps" "testers" "[LRightsSteps$Tester;") (by decide +kernel)) (fun _ h9 => h9) rfl dX5_init_58 ?_
  refine va_alen (v := 4) hx hb hK.1 hP 8 4 rfl rfl rfl dX5_init_61 ?_
  refine lv_icmp_ge (tgt := 87) hx hb dX5_init_62 (by decide) (fun q => absurd q (by decide)) (fun _ => ?_)
  refine lv_aload_n hx hb dX5_init_65 rfl (lv_at hl 1 rfl) ?_
  refine va_get (D := G.1) (ci := 7) (v := .ref q8) (C := RX5) (T := TX5) (N := 8) hx hb hts iX5 hown hK.1 hP 0 rfl rfl 4 (by decide) (hts (.fieldLink RX5 38 "RightsSteps" "testers" "[LRightsSteps$Tester;") (by decide +kernel)) (fun _ h9 => h9) rfl dX5_init_66 ?_
  refine lv_iload_n hx hb dX5_init_69 rfl (lv_at hl 0 rfl) ?_
  refine va_new (ci := 5) (fs := [.int 0, .int 0, .long 0, .int 0, .int 0, .int 0, .int 0, .int 0, .int 0, .null, .null]) (C := RX3) (T := TX3) (N := 11) hx hb hts iX3 tyX3 tyX3_ok hown (hts (.classLink RX5 36 RX3) (by decide +kernel)) (hts (.instantiable RX3 11) (by decide +kernel)) (hts (.initialized RX3) (by decide +kernel)) hK.1 hP hD hS hA rfl (fun j hj => by rcases (show j = 0 ∨ j = 1 ∨ j = 2 ∨ j = 3 ∨ j = 4 ∨ j = 5 ∨ j = 6 ∨ j = 7 ∨ j = 8 ∨ j = 9 ∨ j = 10 by omega) with rfl | rfl | rfl | rfl | rfl | rfl | rfl | rfl | rfl | rfl | rfl <;> rfl) (Nat.le_of_ble_eq_true rfl) (Nat.le_of_ble_eq_true rfl) dX5_init_70 (fun q9 H hP hD hS => ?_)
  refine W.widen (k := 9) (n := 1400) (Nat.le_of_ble_eq_true rfl) (Nat.le_of_ble_eq_true rfl) ?_
  have hP : va_P G.1 vwCl [(h0, .inr (7, [.ref q1, .ref q2, .ref q4, .ref q6, .ref q8, .null, .int 0, .long 0])), (q1, .inl (G.2 3, 21, .inr (.inr (.inr (.inr (fun _ => none)))))), (q2, .inr (4, [.ref u3, .int 0, .int 0])), (u3, .inl (G.2 0, 200, .inl (fun _ => 0))), (q4, .inr (2, [.ref u5, .int 0])), (u5, .inl (G.2 0, 256, .inl (fun _ => 0))), (q6, .inr (6, [.ref u7, .int 0, .int 0])), (u7, .inl (G.2 0, 900, .inl (fun _ => 0))), (q8, .inl (G.2 4, 4, .inr (.inr (.inr (.inr (fun _ => none)))))), (q9, .inr (5, [.int 0, .int 0, .long 0, .int 0, .int 0, .int 0, .int 0, .int 0, .int 0, .null, .null]))] H := hP
  have hD : va_D A [(h0, .inr (7, [.ref q1, .ref q2, .ref q4, .ref q6, .ref q8, .null, .int 0, .long 0])), (q1, .inl (G.2 3, 21, .inr (.inr (.inr (.inr (fun _ => none)))))), (q2, .inr (4, [.ref u3, .int 0, .int 0])), (u3, .inl (G.2 0, 200, .inl (fun _ => 0))), (q4, .inr (2, [.ref u5, .int 0])), (u5, .inl (G.2 0, 256, .inl (fun _ => 0))), (q6, .inr (6, [.ref u7, .int 0, .int 0])), (u7, .inl (G.2 0, 900, .inl (fun _ => 0))), (q8, .inl (G.2 4, 4, .inr (.inr (.inr (.inr (fun _ => none)))))), (q9, .inr (5, [.int 0, .int 0, .long 0, .int 0, .int 0, .int 0, .int 0, .int 0, .int 0, .null, .null]))] := hD
  refine lv_dup hx hb dX5_init_73 rfl ?_
  refine lv_iload_n hx hb dX5_init_74 rfl (lv_at hl 0 rfl) ?_
  refine lv_iconst (v := 1) hx hb dX5_init_75 (by decide) ?_
  refine lv_iadd hx hb dX5_init_76 ?_
  refine W.eq (g2 := F0 m 77 ls (.int 1 :: .ref q9 :: .ref q9 :: .int 0 :: .ref q8 :: [])) rfl ?_
  have hPc := hP.sub (ws' := [(q9, .inr (5, [.int 0, .int 0, .long 0, .int 0, .int 0, .int 0, .int 0, .int 0, .int 0, .null, .null]))]) [9] rfl
  have hDc := hD.sub (ws' := [(q9, .inr (5, [.int 0, .int 0, .long 0, .int 0, .int 0, .int 0, .int 0, .int 0, .int 0, .null, .null]))]) [9] (by decide) rfl
  refine cl_v (wr := [(h0, .inr (7, [.ref q1, .ref q2, .ref q4, .ref q6, .ref q8, .null, .int 0, .long 0])), (q1, .inl (G.2 3, 21, .inr (.inr (.inr (.inr (fun _ => none)))))), (q2, .inr (4, [.ref u3, .int 0, .int 0])), (u3, .inl (G.2 0, 200, .inl (fun _ => 0))), (q4, .inr (2, [.ref u5, .int 0])), (u5, .inl (G.2 0, 256, .inl (fun _ => 0))), (q6, .inr (6, [.ref u7, .int 0, .int 0])), (u7, .inl (G.2 0, 900, .inl (fun _ => 0))), (q8, .inl (G.2 4, 4, .inr (.inr (.inr (.inr (fun _ => none))))))]) (va_runI (As := [.int 1]) (rest := [.ref q9, .int 0, .ref q8]) ⟨hx, hb, hml, hown, hts⟩ (c_X3_init l G q9 _ 1) (cwI 1 hts gX5_init_X3_init rfl rfl rfl (hts (.initialized RX3) (by decide +kernel)) (hts (.methodLink RX5 42 yX3_init) (by decide +kernel)) (hts (.instanceMethod yX3_init) (by decide +kernel)) rfl (by decide +kernel) ⟨Nat.le_of_ble_eq_true rfl, Nat.le_of_ble_eq_true rfl⟩) (pR_S hK hPc hDc) rfl rfl hl.1 rfl (lv_room (Nat.le_of_ble_eq_true rfl)) dX5_init_77 ⟨Nat.le_of_ble_eq_true rfl, Nat.le_of_ble_eq_true rfl⟩) hP hD hS hA [9] [0, 1, 2, 3, 4, 5, 6, 7, 8] rfl rfl (by decide) (by decide) (fun u10 ez10 H locs hP hD hS => ?_)
  have hP : va_P G.1 vwCl [(h0, .inr (7, [.ref q1, .ref q2, .ref q4, .ref q6, .ref q8, .null, .int 0, .long 0])), (q1, .inl (G.2 3, 21, .inr (.inr (.inr (.inr (fun _ => none)))))), (q2, .inr (4, [.ref u3, .int 0, .int 0])), (u3, .inl (G.2 0, 200, .inl (fun _ => 0))), (q4, .inr (2, [.ref u5, .int 0])), (u5, .inl (G.2 0, 256, .inl (fun _ => 0))), (q6, .inr (6, [.ref u7, .int 0, .int 0])), (u7, .inl (G.2 0, 900, .inl (fun _ => 0))), (q8, .inl (G.2 4, 4, .inr (.inr (.inr (.inr (fun _ => none)))))), (q9, .inr (5, [.int 1, .int 1, .long (-9223372036854775808), .int 0, .int 0, .int 0, .int 0, .int 0, .int 0, .ref u10.1, .ref u10.2])), (u10.1, .inl (G.2 0, 21, .inl (fun _ => 0))), (u10.2, .inl (G.2 1, 21, .inr (.inl (F_J7_fill_d0a16 (fun _ => 0) (-9223372036854775808)))))] H := hP
  have hD : va_D A [(h0, .inr (7, [.ref q1, .ref q2, .ref q4, .ref q6, .ref q8, .null, .int 0, .long 0])), (q1, .inl (G.2 3, 21, .inr (.inr (.inr (.inr (fun _ => none)))))), (q2, .inr (4, [.ref u3, .int 0, .int 0])), (u3, .inl (G.2 0, 200, .inl (fun _ => 0))), (q4, .inr (2, [.ref u5, .int 0])), (u5, .inl (G.2 0, 256, .inl (fun _ => 0))), (q6, .inr (6, [.ref u7, .int 0, .int 0])), (u7, .inl (G.2 0, 900, .inl (fun _ => 0))), (q8, .inl (G.2 4, 4, .inr (.inr (.inr (.inr (fun _ => none)))))), (q9, .inr (5, [.int 1, .int 1, .long (-9223372036854775808), .int 0, .int 0, .int 0, .int 0, .int 0, .int 0, .ref u10.1, .ref u10.2])), (u10.1, .inl (G.2 0, 21, .inl (fun _ => 0))), (u10.2, .inl (G.2 1, 21, .inr (.inl (F_J7_fill_d0a16 (fun _ => 0) (-9223372036854775808)))))] := hD
  refine W.widen (k := 11) (n := 1442) (Nat.le_of_ble_eq_true rfl) (Nat.le_of_ble_eq_true rfl) ?_
  refine va_astq (f := (fun _ => none)) hx hb hK.1 hP hD hS 8 4 9 5 rfl rfl rfl rfl (vp_in_iff.mpr (by decide)) dX5_init_80 (fun H locs hP hD hS => ?_)
  have hP : va_P G.1 vwCl [(h0, .inr (7, [.ref q1, .ref q2, .ref q4, .ref q6, .ref q8, .null, .int 0, .long 0])), (q1, .inl (G.2 3, 21, .inr (.inr (.inr (.inr (fun _ => none)))))), (q2, .inr (4, [.ref u3, .int 0, .int 0])), (u3, .inl (G.2 0, 200, .inl (fun _ => 0))), (q4, .inr (2, [.ref u5, .int 0])), (u5, .inl (G.2 0, 256, .inl (fun _ => 0))), (q6, .inr (6, [.ref u7, .int 0, .int 0])), (u7, .inl (G.2 0, 900, .inl (fun _ => 0))), (q8, .inl (G.2 4, 4, .inr (.inr (.inr (.inr (va_up (fun _ => none) (0 : Int32).toNatClampNeg (some q9))))))), (q9, .inr (5, [.int 1, .int 1, .long (-9223372036854775808), .int 0, .int 0, .int 0, .int 0, .int 0, .int 0, .ref u10.1, .ref u10.2])), (u10.1, .inl (G.2 0, 21, .inl (fun _ => 0))), (u10.2, .inl (G.2 1, 21, .inr (.inl (F_J7_fill_d0a16 (fun _ => 0) (-9223372036854775808)))))] H := hP
  have hD : va_D A [(h0, .inr (7, [.ref q1, .ref q2, .ref q4, .ref q6, .ref q8, .null, .int 0, .long 0])), (q1, .inl (G.2 3, 21, .inr (.inr (.inr (.inr (fun _ => none)))))), (q2, .inr (4, [.ref u3, .int 0, .int 0])), (u3, .inl (G.2 0, 200, .inl (fun _ => 0))), (q4, .inr (2, [.ref u5, .int 0])), (u5, .inl (G.2 0, 256, .inl (fun _ => 0))), (q6, .inr (6, [.ref u7, .int 0, .int 0])), (u7, .inl (G.2 0, 900, .inl (fun _ => 0))), (q8, .inl (G.2 4, 4, .inr (.inr (.inr (.inr (va_up (fun _ => none) (0 : Int32).toNatClampNeg (some q9))))))), (q9, .inr (5, [.int 1, .int 1, .long (-9223372036854775808), .int 0, .int 0, .int 0, .int 0, .int 0, .int 0, .ref u10.1, .ref u10.2])), (u10.1, .inl (G.2 0, 21, .inl (fun _ => 0))), (u10.2, .inl (G.2 1, 21, .inr (.inl (F_J7_fill_d0a16 (fun _ => 0) (-9223372036854775808)))))] := hD
  refine lv_iinc (v := 1) (lv' := [(1, .int 1), (0, .ref h0)]) hx hb dX5_init_81 hl (k := 0) rfl (by decide) (by decide) rfl (fun ls hl => ?_)
  refine lv_goto (tgt := 56) hx hb dX5_init_84 (by decide) ?_
  refine lv_iload_n hx hb dX5_init_56 rfl (lv_at hl 0 rfl) ?_
  refine lv_aload_n hx hb dX5_init_57 rfl (lv_at hl 1 rfl) ?_
  refine va_get (D := G.1) (ci := 7) (v := .ref q8) (C := RX5) (T := TX5) (N := 8) hx hb hts iX5 hown hK.1 hP 0 rfl rfl 4 (by decide) (hts (.fieldLink RX5 38 "RightsSteps" "testers" "[LRightsSteps$Tester;") (by decide +kernel)) (fun _ h9 => h9) rfl dX5_init_58 ?_
  refine va_alen (v := 4) hx hb hK.1 hP 8 4 rfl rfl rfl dX5_init_61 ?_
  refine lv_icmp_ge (tgt := 87) hx hb dX5_init_62 (by decide) (fun q => absurd q (by decide)) (fun _ => ?_)
  refine lv_aload_n hx hb dX5_init_65 rfl (lv_at hl 1 rfl) ?_
  refine va_get (D := G.1) (ci := 7) (v := .ref q8) (C := RX5) (T := TX5) (N := 8) hx hb hts iX5 hown hK.1 hP 0 rfl rfl 4 (by decide) (hts (.fieldLink RX5 38 "RightsSteps" "testers" "[LRightsSteps$Tester;") (by decide +kernel)) (fun _ h9 => h9) rfl dX5_init_66 ?_
  refine lv_iload_n hx hb dX5_init_69 rfl (lv_at hl 0 rfl) ?_
  refine va_new (ci := 5) (fs := [.int 0, .int 0, .long 0, .int 0, .int 0, .int 0, .int 0, .int 0, .int 0, .null, .null]) (C := RX3) (T := TX3) (N := 11) hx hb hts iX3 tyX3 tyX3_ok hown (hts (.classLink RX5 36 RX3) (by decide +kernel)) (hts (.instantiable RX3 11) (by decide +kernel)) (hts (.initialized RX3) (by decide +kernel)) hK.1 hP hD hS hA rfl (fun j hj => by rcases (show j = 0 ∨ j = 1 ∨ j = 2 ∨ j = 3 ∨ j = 4 ∨ j = 5 ∨ j = 6 ∨ j = 7 ∨ j = 8 ∨ j = 9 ∨ j = 10 by omega) with rfl | rfl | rfl | rfl | rfl | rfl | rfl | rfl | rfl | rfl | rfl <;> rfl) (Nat.le_of_ble_eq_true rfl) (Nat.le_of_ble_eq_true rfl) dX5_init_70 (fun q11 H hP hD hS => ?_)
  refine W.widen (k := 12) (n := 1453) (Nat.le_of_ble_eq_true rfl) (Nat.le_of_ble_eq_true rfl) ?_
  have hP : va_P G.1 vwCl [(h0, .inr (7, [.ref q1, .ref q2, .ref q4, .ref q6, .ref q8, .null, .int 0, .long 0])), (q1, .inl (G.2 3, 21, .inr (.inr (.inr (.inr (fun _ => none)))))), (q2, .inr (4, [.ref u3, .int 0, .int 0])), (u3, .inl (G.2 0, 200, .inl (fun _ => 0))), (q4, .inr (2, [.ref u5, .int 0])), (u5, .inl (G.2 0, 256, .inl (fun _ => 0))), (q6, .inr (6, [.ref u7, .int 0, .int 0])), (u7, .inl (G.2 0, 900, .inl (fun _ => 0))), (q8, .inl (G.2 4, 4, .inr (.inr (.inr (.inr (va_up (fun _ => none) (0 : Int32).toNatClampNeg (some q9))))))), (q9, .inr (5, [.int 1, .int 1, .long (-9223372036854775808), .int 0, .int 0, .int 0, .int 0, .int 0, .int 0, .ref u10.1, .ref u10.2])), (u10.1, .inl (G.2 0, 21, .inl (fun _ => 0))), (u10.2, .inl (G.2 1, 21, .inr (.inl (F_J7_fill_d0a16 (fun _ => 0) (-9223372036854775808))))), (q11, .inr (5, [.int 0, .int 0, .long 0, .int 0, .int 0, .int 0, .int 0, .int 0, .int 0, .null, .null]))] H := hP
  have hD : va_D A [(h0, .inr (7, [.ref q1, .ref q2, .ref q4, .ref q6, .ref q8, .null, .int 0, .long 0])), (q1, .inl (G.2 3, 21, .inr (.inr (.inr (.inr (fun _ => none)))))), (q2, .inr (4, [.ref u3, .int 0, .int 0])), (u3, .inl (G.2 0, 200, .inl (fun _ => 0))), (q4, .inr (2, [.ref u5, .int 0])), (u5, .inl (G.2 0, 256, .inl (fun _ => 0))), (q6, .inr (6, [.ref u7, .int 0, .int 0])), (u7, .inl (G.2 0, 900, .inl (fun _ => 0))), (q8, .inl (G.2 4, 4, .inr (.inr (.inr (.inr (va_up (fun _ => none) (0 : Int32).toNatClampNeg (some q9))))))), (q9, .inr (5, [.int 1, .int 1, .long (-9223372036854775808), .int 0, .int 0, .int 0, .int 0, .int 0, .int 0, .ref u10.1, .ref u10.2])), (u10.1, .inl (G.2 0, 21, .inl (fun _ => 0))), (u10.2, .inl (G.2 1, 21, .inr (.inl (F_J7_fill_d0a16 (fun _ => 0) (-9223372036854775808))))), (q11, .inr (5, [.int 0, .int 0, .long 0, .int 0, .int 0, .int 0, .int 0, .int 0, .int 0, .null, .null]))] := hD
  refine lv_dup hx hb dX5_init_73 rfl ?_
  refine lv_iload_n hx hb dX5_init_74 rfl (lv_at hl 0 rfl) ?_
  refine lv_iconst (v := 1) hx hb dX5_init_75 (by decide) ?_
  refine lv_iadd hx hb dX5_init_76 ?_
  refine W.eq (g2 := F0 m 77 ls (.int 2 :: .ref q11 :: .ref q11 :: .int 1 :: .ref q8 :: [])) rfl ?_
  have hPc := hP.sub (ws' := [(q11, .inr (5, [.int 0, .int 0, .long 0, .int 0, .int 0, .int 0, .int 0, .int 0, .int 0, .null, .null]))]) [12] rfl
  have hDc := hD.sub (ws' := [(q11, .inr (5, [.int 0, .int 0, .long 0, .int 0, .int 0, .int 0, .int 0, .int 0, .int 0, .null, .null]))]) [12] (by decide) rfl
  refine cl_v (wr := [(h0, .inr (7, [.ref q1, .ref q2, .ref q4, .ref q6, .ref q8, .null, .int 0, .long 0])), (q1, .inl (G.2 3, 21, .inr (.inr (.inr (.inr (fun _ => none)))))), (q2, .inr (4, [.ref u3, .int 0, .int 0])), (u3, .inl (G.2 0, 200, .inl (fun _ => 0))), (q4, .inr (2, [.ref u5, .int 0])), (u5, .inl (G.2 0, 256, .inl (fun _ => 0))), (q6, .inr (6, [.ref u7, .int 0, .int 0])), (u7, .inl (G.2 0, 900, .inl (fun _ => 0))), (q8, .inl (G.2 4, 4, .inr (.inr (.inr (.inr (va_up (fun _ => none) (0 : Int32).toNatClampNeg (some q9))))))), (q9, .inr (5, [.int 1, .int 1, .long (-9223372036854775808), .int 0, .int 0, .int 0, .int 0, .int 0, .int 0, .ref u10.1, .ref u10.2])), (u10.1, .inl (G.2 0, 21, .inl (fun _ => 0))), (u10.2, .inl (G.2 1, 21, .inr (.inl (F_J7_fill_d0a16 (fun _ => 0) (-9223372036854775808)))))]) (va_runI (As := [.int 2]) (rest := [.ref q11, .int 1, .ref q8]) ⟨hx, hb, hml, hown, hts⟩ (c_X3_init l G q11 _ 2) (cwI 1 hts gX5_init_X3_init rfl rfl rfl (hts (.initialized RX3) (by decide +kernel)) (hts (.methodLink RX5 42 yX3_init) (by decide +kernel)) (hts (.instanceMethod yX3_init) (by decide +kernel)) rfl (by decide +kernel) ⟨Nat.le_of_ble_eq_true rfl, Nat.le_of_ble_eq_true rfl⟩) (pR_S hK hPc hDc) rfl rfl hl.1 rfl (lv_room (Nat.le_of_ble_eq_true rfl)) dX5_init_77 ⟨Nat.le_of_ble_eq_true rfl, Nat.le_of_ble_eq_true rfl⟩) hP hD hS hA [12] [0, 1, 2, 3, 4, 5, 6, 7, 8, 9, 10, 11] rfl rfl (by decide) (by decide) (fun u12 ez12 H locs hP hD hS => ?_)
  have hP : va_P G.1 vwCl [(h0, .inr (7, [.ref q1, .ref q2, .ref q4, .ref q6, .ref q8, .null, .int 0, .long 0])), (q1, .inl (G.2 3, 21, .inr (.inr (.inr (.inr (fun _ => none)))))), (q2, .inr (4, [.ref u3, .int 0, .int 0])), (u3, .inl (G.2 0, 200, .inl (fun _ => 0))), (q4, .inr (2, [.ref u5, .int 0])), (u5, .inl (G.2 0, 256, .inl (fun _ => 0))), (q6, .inr (6, [.ref u7, .int 0, .int 0])), (u7, .inl (G.2 0, 900, .inl (fun _ => 0))), (q8, .inl (G.2 4, 4, .inr (.inr (.inr (.inr (va_up (fun _ => none) (0 : Int32).toNatClampNeg (some q9))))))), (q9, .inr (5, [.int 1, .int 1, .long (-9223372036854775808), .int 0, .int 0, .int 0, .int 0, .int 0, .int 0, .ref u10.1, .ref u10.2])), (u10.1, .inl (G.2 0, 21, .inl (fun _ => 0))), (u10.2, .inl (G.2 1, 21, .inr (.inl (F_J7_fill_d0a16 (fun _ => 0) (-9223372036854775808))))), (q11, .inr (5, [.int 2, .int 1, .long (-9223372036854775808), .int 0, .int 0, .int 0, .int 0, .int 0, .int 0, .ref u12.1, .ref u12.2])), (u12.1, .inl (G.2 0, 21, .inl (fun _ => 0))), (u12.2, .inl (G.2 1, 21, .inr (.inl (F_J7_fill_d0a16 (fun _ => 0) (-9223372036854775808)))))] H := hP
  have hD : va_D A [(h0, .inr (7, [.ref q1, .ref q2, .ref q4, .ref q6, .ref q8, .null, .int 0, .long 0])), (q1, .inl (G.2 3, 21, .inr (.inr (.inr (.inr (fun _ => none)))))), (q2, .inr (4, [.ref u3, .int 0, .int 0])), (u3, .inl (G.2 0, 200, .inl (fun _ => 0))), (q4, .inr (2, [.ref u5, .int 0])), (u5, .inl (G.2 0, 256, .inl (fun _ => 0))), (q6, .inr (6, [.ref u7, .int 0, .int 0])), (u7, .inl (G.2 0, 900, .inl (fun _ => 0))), (q8, .inl (G.2 4, 4, .inr (.inr (.inr (.inr (va_up (fun _ => none) (0 : Int32).toNatClampNeg (some q9))))))), (q9, .inr (5, [.int 1, .int 1, .long (-9223372036854775808), .int 0, .int 0, .int 0, .int 0, .int 0, .int 0, .ref u10.1, .ref u10.2])), (u10.1, .inl (G.2 0, 21, .inl (fun _ => 0))), (u10.2, .inl (G.2 1, 21, .inr (.inl (F_J7_fill_d0a16 (fun _ => 0) (-9223372036854775808))))), (q11, .inr (5, [.int 2, .int 1, .long (-9223372036854775808), .int 0, .int 0, .int 0, .int 0, .int 0, .int 0, .ref u12.1, .ref u12.2])), (u12.1, .inl (G.2 0, 21, .inl (fun _ => 0))), (u12.2, .inl (G.2 1, 21, .inr (.inl (F_J7_fill_d0a16 (fun _ => 0) (-9223372036854775808)))))] := hD
  refine W.widen (k := 14) (n := 1495) (Nat.le_of_ble_eq_true rfl) (Nat.le_of_ble_eq_true rfl) ?_
  refine va_astq (f := (va_up (fun _ => none) (0 : Int32).toNatClampNeg (some q9))) hx hb hK.1 hP hD hS 8 4 12 5 rfl rfl rfl rfl (vp_in_iff.mpr (by decide)) dX5_init_80 (fun H locs hP hD hS => ?_)
  have hP : va_P G.1 vwCl [(h0, .inr (7, [.ref q1, .ref q2, .ref q4, .ref q6, .ref q8, .null, .int 0, .long 0])), (q1, .inl (G.2 3, 21, .inr (.inr (.inr (.inr (fun _ => none)))))), (q2, .inr (4, [.ref u3, .int 0, .int 0])), (u3, .inl (G.2 0, 200, .inl (fun _ => 0))), (q4, .inr (2, [.ref u5, .int 0])), (u5, .inl (G.2 0, 256, .inl (fun _ => 0))), (q6, .inr (6, [.ref u7, .int 0, .int 0])), (u7, .inl (G.2 0, 900, .inl (fun _ => 0))), (q8, .inl (G.2 4, 4, .inr (.inr (.inr (.inr (va_up (va_up (fun _ => none) (0 : Int32).toNatClampNeg (some q9)) (1 : Int32).toNatClampNeg (some q11))))))), (q9, .inr (5, [.int 1, .int 1, .long (-9223372036854775808), .int 0, .int 0, .int 0, .int 0, .int 0, .int 0, .ref u10.1, .ref u10.2])), (u10.1, .inl (G.2 0, 21, .inl (fun _ => 0))), (u10.2, .inl (G.2 1, 21, .inr (.inl (F_J7_fill_d0a16 (fun _ => 0) (-9223372036854775808))))), (q11, .inr (5, [.int 2, .int 1, .long (-9223372036854775808), .int 0, .int 0, .int 0, .int 0, .int 0, .int 0, .ref u12.1, .ref u12.2])), (u12.1, .inl (G.2 0, 21, .inl (fun _ => 0))), (u12.2, .inl (G.2 1, 21, .inr (.inl (F_J7_fill_d0a16 (fun _ => 0) (-9223372036854775808)))))] H := hP
  have hD : va_D A [(h0, .inr (7, [.ref q1, .ref q2, .ref q4, .ref q6, .ref q8, .null, .int 0, .long 0])), (q1, .inl (G.2 3, 21, .inr (.inr (.inr (.inr (fun _ => none)))))), (q2, .inr (4, [.ref u3, .int 0, .int 0])), (u3, .inl (G.2 0, 200, .inl (fun _ => 0))), (q4, .inr (2, [.ref u5, .int 0])), (u5, .inl (G.2 0, 256, .inl (fun _ => 0))), (q6, .inr (6, [.ref u7, .int 0, .int 0])), (u7, .inl (G.2 0, 900, .inl (fun _ => 0))), (q8, .inl (G.2 4, 4, .inr (.inr (.inr (.inr (va_up (va_up (fun _ => none) (0 : Int32).toNatClampNeg (some q9)) (1 : Int32).toNatClampNeg (some q11))))))), (q9, .inr (5, [.int 1, .int 1, .long (-9223372036854775808), .int 0, .int 0, .int 0, .int 0, .int 0, .int 0, .ref u10.1, .ref u10.2])), (u10.1, .inl (G.2 0, 21, .inl (fun _ => 0))), (u10.2, .inl (G.2 1, 21, .inr (.inl (F_J7_fill_d0a16 (fun _ => 0) (-9223372036854775808))))), (q11, .inr (5, [.int 2, .int 1, .long (-9223372036854775808), .int 0, .int 0, .int 0, .int 0, .int 0, .int 0, .ref u12.1, .ref u12.2])), (u12.1, .inl (G.2 0, 21, .inl (fun _ => 0))), (u12.2, .inl (G.2 1, 21, .inr (.inl (F_J7_fill_d0a16 (fun _ => 0) (-9223372036854775808)))))] := hD
  refine lv_iinc (v := 2) (lv' := [(1, .int 2), (0, .ref h0)]) hx hb dX5_init_81 hl (k := 0) rfl (by decide) (by decide) rfl (fun ls hl => ?_)
  refine lv_goto (tgt := 56) hx hb dX5_init_84 (by decide) ?_
  refine lv_iload_n hx hb dX5_init_56 rfl (lv_at hl 0 rfl) ?_
  refine lv_aload_n hx hb dX5_init_57 rfl (lv_at hl 1 rfl) ?_
  refine va_get (D := G.1) (ci := 7) (v := .ref q8) (C := RX5) (T := TX5) (N := 8) hx hb hts iX5 hown hK.1 hP 0 rfl rfl 4 (by decide) (hts (.fieldLink RX5 38 "RightsSteps" "testers" "[LRightsSteps$Tester;") (by decide +kernel)) (fun _ h9 => h9) rfl dX5_init_58 ?_
  refine va_alen (v := 4) hx hb hK.1 hP 8 4 rfl rfl rfl dX5_init_61 ?_
  refine lv_icmp_ge (tgt := 87) hx hb dX5_init_62 (by decide) (fun q => absurd q (by decide)) (fun _ => ?_)
  refine lv_aload_n hx hb dX5_init_65 rfl (lv_at hl 1 rfl) ?_
  refine va_get (D := G.1) (ci := 7) (v := .ref q8) (C := RX5) (T := TX5) (N := 8) hx hb hts iX5 hown hK.1 hP 0 rfl rfl 4 (by decide) (hts (.fieldLink RX5 38 "RightsSteps" "testers" "[LRightsSteps$Tester;") (by decide +kernel)) (fun _ h9 => h9) rfl dX5_init_66 ?_
  refine lv_iload_n hx hb dX5_init_69 rfl (lv_at hl 0 rfl) ?_
  refine va_new (ci := 5) (fs := [.int 0, .int 0, .long 0, .int 0, .int 0, .int 0, .int 0, .int 0, .int 0, .null, .null]) (C := RX3) (T := TX3) (N := 11) hx hb hts iX3 tyX3 tyX3_ok hown (hts (.classLink RX5 36 RX3) (by decide +kernel)) (hts (.instantiable RX3 11) (by decide +kernel)) (hts (.initialized RX3) (by decide +kernel)) hK.1 hP hD hS hA rfl (fun j hj => by rcases (show j = 0 ∨ j = 1 ∨ j = 2 ∨ j = 3 ∨ j = 4 ∨ j = 5 ∨ j = 6 ∨ j = 7 ∨ j = 8 ∨ j = 9 ∨ j = 10 by omega) with rfl | rfl | rfl | rfl | rfl | rfl | rfl | rfl | rfl | rfl | rfl <;> rfl) (Nat.le_of_ble_eq_true rfl) (Nat.le_of_ble_eq_true rfl) dX5_init_70 (fun q13 H hP hD hS => ?_)
  refine W.widen (k := 15) (n := 1506) (Nat.le_of_ble_eq_true rfl) (Nat.le_of_ble_eq_true rfl) ?_
  have hP : va_P G.1 vwCl [(h0, .inr (7, [.ref q1, .ref q2, .ref q4, .ref q6, .ref q8, .null, .int 0, .long 0])), (q1, .inl (G.2 3, 21, .inr (.inr (.inr (.inr (fun _ => none)))))), (q2, .inr (4, [.ref u3, .int 0, .int 0])), (u3, .inl (G.2 0, 200, .inl (fun _ => 0))), (q4, .inr (2, [.ref u5, .int 0])), (u5, .inl (G.2 0, 256, .inl (fun _ => 0))), (q6, .inr (6, [.ref u7, .int 0, .int 0])), (u7, .inl (G.2 0, 900, .inl (fun _ => 0))), (q8, .inl (G.2 4, 4, .inr (.inr (.inr (.inr (va_up (va_up (fun _ => none) (0 : Int32).toNatClampNeg (some q9)) (1 : Int32).toNatClampNeg (some q11))))))), (q9, .inr (5, [.int 1, .int 1, .long (-9223372036854775808), .int 0, .int 0, .int 0, .int 0, .int 0, .int 0, .ref u10.1, .ref u10.2])), (u10.1, .inl (G.2 0, 21, .inl (fun _ => 0))), (u10.2, .inl (G.2 1, 21, .inr (.inl (F_J7_fill_d0a16 (fun _ => 0) (-9223372036854775808))))), (q11, .inr (5, [.int 2, .int 1, .long (-9223372036854775808), .int 0, .int 0, .int 0, .int 0, .int 0, .int 0, .ref u12.1, .ref u12.2])), (u12.1, .inl (G.2 0, 21, .inl (fun _ => 0))), (u12.2, .inl (G.2 1, 21, .inr (.inl (F_J7_fill_d0a16 (fun _ => 0) (-9223372036854775808))))), (q13, .inr (5, [.int 0, .int 0, .long 0, .int 0, .int 0, .int 0, .int 0, .int 0, .int 0, .null, .null]))] H := hP
  have hD : va_D A [(h0, .inr (7, [.ref q1, .ref q2, .ref q4, .ref q6, .ref q8, .null, .int 0, .long 0])), (q1, .inl (G.2 3, 21, .inr (.inr (.inr (.inr (fun _ => none)))))), (q2, .inr (4, [.ref u3, .int 0, .int 0])), (u3, .inl (G.2 0, 200, .inl (fun _ => 0))), (q4, .inr (2, [.ref u5, .int 0])), (u5, .inl (G.2 0, 256, .inl (fun _ => 0))), (q6, .inr (6, [.ref u7, .int 0, .int 0])), (u7, .inl (G.2 0, 900, .inl (fun _ => 0))), (q8, .inl (G.2 4, 4, .inr (.inr (.inr (.inr (va_up (va_up (fun _ => none) (0 : Int32).toNatClampNeg (some q9)) (1 : Int32).toNatClampNeg (some q11))))))), (q9, .inr (5, [.int 1, .int 1, .long (-9223372036854775808), .int 0, .int 0, .int 0, .int 0, .int 0, .int 0, .ref u10.1, .ref u10.2])), (u10.1, .inl (G.2 0, 21, .inl (fun _ => 0))), (u10.2, .inl (G.2 1, 21, .inr (.inl (F_J7_fill_d0a16 (fun _ => 0) (-9223372036854775808))))), (q11, .inr (5, [.int 2, .int 1, .long (-9223372036854775808), .int 0, .int 0, .int 0, .int 0, .int 0, .int 0, .ref u12.1, .ref u12.2])), (u12.1, .inl (G.2 0, 21, .inl (fun _ => 0))), (u12.2, .inl (G.2 1, 21, .inr (.inl (F_J7_fill_d0a16 (fun _ => 0) (-9223372036854775808))))), (q13, .inr (5, [.int 0, .int 0, .long 0, .int 0, .int 0, .int 0, .int 0, .int 0, .int 0, .null, .null]))] := hD
  refine lv_dup hx hb dX5_init_73 rfl ?_
  refine lv_iload_n hx hb dX5_init_74 rfl (lv_at hl 0 rfl) ?_
  refine lv_iconst (v := 1) hx hb dX5_init_75 (by decide) ?_
  refine lv_iadd hx hb dX5_init_76 ?_
  refine W.eq (g2 := F0 m 77 ls (.int 3 :: .ref q13 :: .ref q13 :: .int 2 :: .ref q8 :: [])) rfl ?_
  have hPc := hP.sub (ws' := [(q13, .inr (5, [.int 0, .int 0, .long 0, .int 0, .int 0, .int 0, .int 0, .int 0, .int 0, .null, .null]))]) [15] rfl
  have hDc := hD.sub (ws' := [(q13, .inr (5, [.int 0, .int 0, .long 0, .int 0, .int 0, .int 0, .int 0, .int 0, .int 0, .null, .null]))]) [15] (by decide) rfl
  refine cl_v (wr := [(h0, .inr (7, [.ref q1, .ref q2, .ref q4, .ref q6, .ref q8, .null, .int 0, .long 0])), (q1, .inl (G.2 3, 21, .inr (.inr (.inr (.inr (fun _ => none)))))), (q2, .inr (4, [.ref u3, .int 0, .int 0])), (u3, .inl (G.2 0, 200, .inl (fun _ => 0))), (q4, .inr (2, [.ref u5, .int 0])), (u5, .inl (G.2 0, 256, .inl (fun _ => 0))), (q6, .inr (6, [.ref u7, .int 0, .int 0])), (u7, .inl (G.2 0, 900, .inl (fun _ => 0))), (q8, .inl (G.2 4, 4, .inr (.inr (.inr (.inr (va_up (va_up (fun _ => none) (0 : Int32).toNatClampNeg (some q9)) (1 : Int32).toNatClampNeg (some q11))))))), (q9, .inr (5, [.int 1, .int 1, .long (-9223372036854775808), .int 0, .int 0, .int 0, .int 0, .int 0, .int 0, .ref u10.1, .ref u10.2])), (u10.1, .inl (G.2 0, 21, .inl (fun _ => 0))), (u10.2, .inl (G.2 1, 21, .inr (.inl (F_J7_fill_d0a16 (fun _ => 0) (-9223372036854775808))))), (q11, .inr (5, [.int 2, .int 1, .long (-9223372036854775808), .int 0, .int 0, .int 0, .int 0, .int 0, .int 0, .ref u12.1, .ref u12.2])), (u12.1, .inl (G.2 0, 21, .inl (fun _ => 0))), (u12.2, .inl (G.2 1, 21, .inr (.inl (F_J7_fill_d0a16 (fun _ => 0) (-9223372036854775808)))))]) (va_runI (As := [.int 3]) (rest := [.ref q13, .int 2, .ref q8]) ⟨hx, hb, hml, hown, hts⟩ (c_X3_init l G q13 _ 3) (cwI 1 hts gX5_init_X3_init rfl rfl rfl (hts (.initialized RX3) (by decide +kernel)) (hts (.methodLink RX5 42 yX3_init) (by decide +kernel)) (hts (.instanceMethod yX3_init) (by decide +kernel)) rfl (by decide +kernel) ⟨Nat.le_of_ble_eq_true rfl, Nat.le_of_ble_eq_true rfl⟩) (pR_S hK hPc hDc) rfl rfl hl.1 rfl (lv_room (Nat.le_of_ble_eq_true rfl)) dX5_init_77 ⟨Nat.le_of_ble_eq_true rfl, Nat.le_of_ble_eq_true rfl⟩) hP hD hS hA [15] [0, 1, 2, 3, 4, 5, 6, 7, 8, 9, 10, 11, 12, 13, 14] rfl rfl (by decide) (by decide) (fun u14 ez14 H locs hP hD hS => ?_)
  have hP : va_P G.1 vwCl [(h0, .inr (7, [.ref q1, .ref q2, .ref q4, .ref q6, .ref q8, .null, .int 0, .long 0])), (q1, .inl (G.2 3, 21, .inr (.inr (.inr (.inr (fun _ => none)))))), (q2, .inr (4, [.ref u3, .int 0, .int 0])), (u3, .inl (G.2 0, 200, .inl (fun _ => 0))), (q4, .inr (2, [.ref u5, .int 0])), (u5, .inl (G.2 0, 256, .inl (fun _ => 0))), (q6, .inr (6, [.ref u7, .int 0, .int 0])), (u7, .inl (G.2 0, 900, .inl (fun _ => 0))), (q8, .inl (G.2 4, 4, .inr (.inr (.inr (.inr (va_up (va_up (fun _ => none) (0 : Int32).toNatClampNeg (some q9)) (1 : Int32).toNatClampNeg (some q11))))))), (q9, .inr (5, [.int 1, .int 1, .long (-9223372036854775808), .int 0, .int 0, .int 0, .int 0, .int 0, .int 0, .ref u10.1, .ref u10.2])), (u10.1, .inl (G.2 0, 21, .inl (fun _ => 0))), (u10.2, .inl (G.2 1, 21, .inr (.inl (F_J7_fill_d0a16 (fun _ => 0) (-9223372036854775808))))), (q11, .inr (5, [.int 2, .int 1, .long (-9223372036854775808), .int 0, .int 0, .int 0, .int 0, .int 0, .int 0, .ref u12.1, .ref u12.2])), (u12.1, .inl (G.2 0, 21, .inl (fun _ => 0))), (u12.2, .inl (G.2 1, 21, .inr (.inl (F_J7_fill_d0a16 (fun _ => 0) (-9223372036854775808))))), (q13, .inr (5, [.int 3, .int 1, .long (-9223372036854775808), .int 0, .int 0, .int 0, .int 0, .int 0, .int 0, .ref u14.1, .ref u14.2])), (u14.1, .inl (G.2 0, 21, .inl (fun _ => 0))), (u14.2, .inl (G.2 1, 21, .inr (.inl (F_J7_fill_d0a16 (fun _ => 0) (-9223372036854775808)))))] H := hP
  have hD : va_D A [(h0, .inr (7, [.ref q1, .ref q2, .ref q4, .ref q6, .ref q8, .null, .int 0, .long 0])), (q1, .inl (G.2 3, 21, .inr (.inr (.inr (.inr (fun _ => none)))))), (q2, .inr (4, [.ref u3, .int 0, .int 0])), (u3, .inl (G.2 0, 200, .inl (fun _ => 0))), (q4, .inr (2, [.ref u5, .int 0])), (u5, .inl (G.2 0, 256, .inl (fun _ => 0))), (q6, .inr (6, [.ref u7, .int 0, .int 0])), (u7, .inl (G.2 0, 900, .inl (fun _ => 0))), (q8, .inl (G.2 4, 4, .inr (.inr (.inr (.inr (va_up (va_up (fun _ => none) (0 : Int32).toNatClampNeg (some q9)) (1 : Int32).toNatClampNeg (some q11))))))), (q9, .inr (5, [.int 1, .int 1, .long (-9223372036854775808), .int 0, .int 0, .int 0, .int 0, .int 0, .int 0, .ref u10.1, .ref u10.2])), (u10.1, .inl (G.2 0, 21, .inl (fun _ => 0))), (u10.2, .inl (G.2 1, 21, .inr (.inl (F_J7_fill_d0a16 (fun _ => 0) (-9223372036854775808))))), (q11, .inr (5, [.int 2, .int 1, .long (-9223372036854775808), .int 0, .int 0, .int 0, .int 0, .int 0, .int 0, .ref u12.1, .ref u12.2])), (u12.1, .inl (G.2 0, 21, .inl (fun _ => 0))), (u12.2, .inl (G.2 1, 21, .inr (.inl (F_J7_fill_d0a16 (fun _ => 0) (-9223372036854775808))))), (q13, .inr (5, [.int 3, .int 1, .long (-9223372036854775808), .int 0, .int 0, .int 0, .int 0, .int 0, .int 0, .ref u14.1, .ref u14.2])), (u14.1, .inl (G.2 0, 21, .inl (fun _ => 0))), (u14.2, .inl (G.2 1, 21, .inr (.inl (F_J7_fill_d0a16 (fun _ => 0) (-9223372036854775808)))))] := hD
  refine W.widen (k := 17) (n := 1548) (Nat.le_of_ble_eq_true rfl) (Nat.le_of_ble_eq_true rfl) ?_
  refine va_astq (f := (va_up (va_up (fun _ => none) (0 : Int32).toNatClampNeg (some q9)) (1 : Int32).toNatClampNeg (some q11))) hx hb hK.1 hP hD hS 8 4 15 5 rfl rfl rfl rfl (vp_in_iff.mpr (by decide)) dX5_init_80 (fun H locs hP hD hS => ?_)
  have hP : va_P G.1 vwCl [(h0, .inr (7, [.ref q1, .ref q2, .ref q4, .ref q6, .ref q8, .null, .int 0, .long 0])), (q1, .inl (G.2 3, 21, .inr (.inr (.inr (.inr (fun _ => none)))))), (q2, .inr (4, [.ref u3, .int 0, .int 0])), (u3, .inl (G.2 0, 200, .inl (fun _ => 0))), (q4, .inr (2, [.ref u5, .int 0])), (u5, .inl (G.2 0, 256, .inl (fun _ => 0))), (q6, .inr (6, [.ref u7, .int 0, .int 0])), (u7, .inl (G.2 0, 900, .inl (fun _ => 0))), (q8, .inl (G.2 4, 4, .inr (.inr (.inr (.inr (va_up (va_up (va_up (fun _ => none) (0 : Int32).toNatClampNeg (some q9)) (1 : Int32).toNatClampNeg (some q11)) (2 : Int32).toNatClampNeg (some q13))))))), (q9, .inr (5, [.int 1, .int 1, .long (-9223372036854775808), .int 0, .int 0, .int 0, .int 0, .int 0, .int 0, .ref u10.1, .ref u10.2])), (u10.1, .inl (G.2 0, 21, .inl (fun _ => 0))), (u10.2, .inl (G.2 1, 21, .inr (.inl (F_J7_fill_d0a16 (fun _ => 0) (-9223372036854775808))))), (q11, .inr (5, [.int 2, .int 1, .long (-9223372036854775808), .int 0, .int 0, .int 0, .int 0, .int 0, .int 0, .ref u12.1, .ref u12.2])), (u12.1, .inl (G.2 0, 21, .inl (fun _ => 0))), (u12.2, .inl (G.2 1, 21, .inr (.inl (F_J7_fill_d0a16 (fun _ => 0) (-9223372036854775808))))), (q13, .inr (5, [.int 3, .int 1, .long (-9223372036854775808), .int 0, .int 0, .int 0, .int 0, .int 0, .int 0, .ref u14.1, .ref u14.2])), (u14.1, .inl (G.2 0, 21, .inl (fun _ => 0))), (u14.2, .inl (G.2 1, 21, .inr (.inl (F_J7_fill_d0a16 (fun _ => 0) (-9223372036854775808)))))] H := hP
  have hD : va_D A [(h0, .inr (7, [.ref q1, .ref q2, .ref q4, .ref q6, .ref q8, .null, .int 0, .long 0])), (q1, .inl (G.2 3, 21, .inr (.inr (.inr (.inr (fun _ => none)))))), (q2, .inr (4, [.ref u3, .int 0, .int 0])), (u3, .inl (G.2 0, 200, .inl (fun _ => 0))), (q4, .inr (2, [.ref u5, .int 0])), (u5, .inl (G.2 0, 256, .inl (fun _ => 0))), (q6, .inr (6, [.ref u7, .int 0, .int 0])), (u7, .inl (G.2 0, 900, .inl (fun _ => 0))), (q8, .inl (G.2 4, 4, .inr (.inr (.inr (.inr (va_up (va_up (va_up (fun _ => none) (0 : Int32).toNatClampNeg (some q9)) (1 : Int32).toNatClampNeg (some q11)) (2 : Int32).toNatClampNeg (some q13))))))), (q9, .inr (5, [.int 1, .int 1, .long (-9223372036854775808), .int 0, .int 0, .int 0, .int 0, .int 0, .int 0, .ref u10.1, .ref u10.2])), (u10.1, .inl (G.2 0, 21, .inl (fun _ => 0))), (u10.2, .inl (G.2 1, 21, .inr (.inl (F_J7_fill_d0a16 (fun _ => 0) (-9223372036854775808))))), (q11, .inr (5, [.int 2, .int 1, .long (-9223372036854775808), .int 0, .int 0, .int 0, .int 0, .int 0, .int 0, .ref u12.1, .ref u12.2])), (u12.1, .inl (G.2 0, 21, .inl (fun _ => 0))), (u12.2, .inl (G.2 1, 21, .inr (.inl (F_J7_fill_d0a16 (fun _ => 0) (-9223372036854775808))))), (q13, .inr (5, [.int 3, .int 1, .long (-9223372036854775808), .int 0, .int 0, .int 0, .int 0, .int 0, .int 0, .ref u14.1, .ref u14.2])), (u14.1, .inl (G.2 0, 21, .inl (fun _ => 0))), (u14.2, .inl (G.2 1, 21, .inr (.inl (F_J7_fill_d0a16 (fun _ => 0) (-9223372036854775808)))))] := hD
  refine lv_iinc (v := 3) (lv' := [(1, .int 3), (0, .ref h0)]) hx hb dX5_init_81 hl (k := 0) rfl (by decide) (by decide) rfl (fun ls hl => ?_)
  refine lv_goto (tgt := 56) hx hb dX5_init_84 (by decide) ?_
  refine lv_iload_n hx hb dX5_init_56 rfl (lv_at hl 0 rfl) ?_
  refine lv_aload_n hx hb dX5_init_57 rfl (lv_at hl 1 rfl) ?_
  refine va_get (D := G.1) (ci := 7) (v := .ref q8) (C := RX5) (T := TX5) (N := 8) hx hb hts iX5 hown hK.1 hP 0 rfl rfl 4 (by decide) (hts (.fieldLink RX5 38 "RightsSteps" "testers" "[LRightsSteps$Tester;") (by decide +kernel)) (fun _ h9 => h9) rfl dX5_init_58 ?_
  refine va_alen (v := 4) hx hb hK.1 hP 8 4 rfl rfl rfl dX5_init_61 ?_
  refine lv_icmp_ge (tgt := 87) hx hb dX5_init_62 (by decide) (fun q => absurd q (by decide)) (fun _ => ?_)
  refine lv_aload_n hx hb dX5_init_65 rfl (lv_at hl 1 rfl) ?_
  refine va_get (D := G.1) (ci := 7) (v := .ref q8) (C := RX5) (T := TX5) (N := 8) hx hb hts iX5 hown hK.1 hP 0 rfl rfl 4 (by decide) (hts (.fieldLink RX5 38 "RightsSteps" "testers" "[LRightsSteps$Tester;") (by decide +kernel)) (fun _ h9 => h9) rfl dX5_init_66 ?_
  refine lv_iload_n hx hb dX5_init_69 rfl (lv_at hl 0 rfl) ?_
  refine va_new (ci := 5) (fs := [.int 0, .int 0, .long 0, .int 0, .int 0, .int 0, .int 0, .int 0, .int 0, .null, .null]) (C := RX3) (T := TX3) (N := 11) hx hb hts iX3 tyX3 tyX3_ok hown (hts (.classLink RX5 36 RX3) (by decide +kernel)) (hts (.instantiable RX3 11) (by decide +kernel)) (hts (.initialized RX3) (by decide +kernel)) hK.1 hP hD hS hA rfl (fun j hj => by rcases (show j = 0 ∨ j = 1 ∨ j = 2 ∨ j = 3 ∨ j = 4 ∨ j = 5 ∨ j = 6 ∨ j = 7 ∨ j = 8 ∨ j = 9 ∨ j = 10 by omega) with rfl | rfl | rfl | rfl | rfl | rfl | rfl | rfl | rfl | rfl | rfl <;> rfl) (Nat.le_of_ble_eq_true rfl) (Nat.le_of_ble_eq_true rfl) dX5_init_70 (fun q15 H hP hD hS => ?_)
  refine W.widen (k := 18) (n := 1559) (Nat.le_of_ble_eq_true rfl) (Nat.le_of_ble_eq_true rfl) ?_
  have hP : va_P G.1 vwCl [(h0, .inr (7, [.ref q1, .ref q2, .ref q4, .ref q6, .ref q8, .null, .int 0, .long 0])), (q1, .inl (G.2 3, 21, .inr (.inr (.inr (.inr (fun _ => none)))))), (q2, .inr (4, [.ref u3, .int 0, .int 0])), (u3, .inl (G.2 0, 200, .inl (fun _ => 0))), (q4, .inr (2, [.ref u5, .int 0])), (u5, .inl (G.2 0, 256, .inl (fun _ => 0))), (q6, .inr (6, [.ref u7, .int 0, .int 0])), (u7, .inl (G.2 0, 900, .inl (fun _ => 0))), (q8, .inl (G.2 4, 4, .inr (.inr (.inr (.inr (va_up (va_up (va_up (fun _ => none) (0 : Int32).toNatClampNeg (some q9)) (1 : Int32).toNatClampNeg (some q11)) (2 : Int32).toNatClampNeg (some q13))))))), (q9, .inr (5, [.int 1, .int 1, .long (-9223372036854775808), .int 0, .int 0, .int 0, .int 0, .int 0, .int 0, .ref u10.1, .ref u10.2])), (u10.1, .inl (G.2 0, 21, .inl (fun _ => 0))), (u10.2, .inl (G.2 1, 21, .inr (.inl (F_J7_fill_d0a16 (fun _ => 0) (-9223372036854775808))))), (q11, .inr (5, [.int 2, .int 1, .long (-9223372036854775808), .int 0, .int 0, .int 0, .int 0, .int 0, .int 0, .ref u12.1, .ref u12.2])), (u12.1, .inl (G.2 0, 21, .inl (fun _ => 0))), (u12.2, .inl (G.2 1, 21, .inr (.inl (F_J7_fill_d0a16 (fun _ => 0) (-9223372036854775808))))), (q13, .inr (5, [.int 3, .int 1, .long (-9223372036854775808), .int 0, .int 0, .int 0, .int 0, .int 0, .int 0, .ref u14.1, .ref u14.2])), (u14.1, .inl (G.2 0, 21, .inl (fun _ => 0))), (u14.2, .inl (G.2 1, 21, .inr (.inl (F_J7_fill_d0a16 (fun _ => 0) (-9223372036854775808))))), (q15, .inr (5, [.int 0, .int 0, .long 0, .int 0, .int 0, .int 0, .int 0, .int 0, .int 0, .null, .null]))] H := hP
  have hD : va_D A [(h0, .inr (7, [.ref q1, .ref q2, .ref q4, .ref q6, .ref q8, .null, .int 0, .long 0])), (q1, .inl (G.2 3, 21, .inr (.inr (.inr (.inr (fun _ => none)))))), (q2, .inr (4, [.ref u3, .int 0, .int 0])), (u3, .inl (G.2 0, 200, .inl (fun _ => 0))), (q4, .inr (2, [.ref u5, .int 0])), (u5, .inl (G.2 0, 256, .inl (fun _ => 0))), (q6, .inr (6, [.ref u7, .int 0, .int 0])), (u7, .inl (G.2 0, 900, .inl (fun _ => 0))), (q8, .inl (G.2 4, 4, .inr (.inr (.inr (.inr (va_up (va_up (va_up (fun _ => none) (0 : Int32).toNatClampNeg (some q9)) (1 : Int32).toNatClampNeg (some q11)) (2 : Int32).toNatClampNeg (some q13))))))), (q9, .inr (5, [.int 1, .int 1, .long (-9223372036854775808), .int 0, .int 0, .int 0, .int 0, .int 0, .int 0, .ref u10.1, .ref u10.2])), (u10.1, .inl (G.2 0, 21, .inl (fun _ => 0))), (u10.2, .inl (G.2 1, 21, .inr (.inl (F_J7_fill_d0a16 (fun _ => 0) (-9223372036854775808))))), (q11, .inr (5, [.int 2, .int 1, .long (-9223372036854775808), .int 0, .int 0, .int 0, .int 0, .int 0, .int 0, .ref u12.1, .ref u12.2])), (u12.1, .inl (G.2 0, 21, .inl (fun _ => 0))), (u12.2, .inl (G.2 1, 21, .inr (.inl (F_J7_fill_d0a16 (fun _ => 0) (-9223372036854775808))))), (q13, .inr (5, [.int 3, .int 1, .long (-9223372036854775808), .int 0, .int 0, .int 0, .int 0, .int 0, .int 0, .ref u14.1, .ref u14.2])), (u14.1, .inl (G.2 0, 21, .inl (fun _ => 0))), (u14.2, .inl (G.2 1, 21, .inr (.inl (F_J7_fill_d0a16 (fun _ => 0) (-9223372036854775808))))), (q15, .inr (5, [.int 0, .int 0, .long 0, .int 0, .int 0, .int 0, .int 0, .int 0, .int 0, .null, .null]))] := hD
  refine lv_dup hx hb dX5_init_73 rfl ?_
  refine lv_iload_n hx hb dX5_init_74 rfl (lv_at hl 0 rfl) ?_
  refine lv_iconst (v := 1) hx hb dX5_init_75 (by decide) ?_
  refine lv_iadd hx hb dX5_init_76 ?_
  refine W.eq (g2 := F0 m 77 ls (.int 4 :: .ref q15 :: .ref q15 :: .int 3 :: .ref q8 :: [])) rfl ?_
  have hPc := hP.sub (ws' := [(q15, .inr (5, [.int 0, .int 0, .long 0, .int 0, .int 0, .int 0, .int 0, .int 0, .int 0, .null, .null]))]) [18] rfl
  have hDc := hD.sub (ws' := [(q15, .inr (5, [.int 0, .int 0, .long 0, .int 0, .int 0, .int 0, .int 0, .int 0, .int 0, .null, .null]))]) [18] (by decide) rfl
  refine cl_v (wr := [(h0, .inr (7, [.ref q1, .ref q2, .ref q4, .ref q6, .ref q8, .null, .int 0, .long 0])), (q1, .inl (G.2 3, 21, .inr (.inr (.inr (.inr (fun _ => none)))))), (q2, .inr (4, [.ref u3, .int 0, .int 0])), (u3, .inl (G.2 0, 200, .inl (fun _ => 0))), (q4, .inr (2, [.ref u5, .int 0])), (u5, .inl (G.2 0, 256, .inl (fun _ => 0))), (q6, .inr (6, [.ref u7, .int 0, .int 0])), (u7, .inl (G.2 0, 900, .inl (fun _ => 0))), (q8, .inl (G.2 4, 4, .inr (.inr (.inr (.inr (va_up (va_up (va_up (fun _ => none) (0 : Int32).toNatClampNeg (some q9)) (1 : Int32).toNatClampNeg (some q11)) (2 : Int32).toNatClampNeg (some q13))))))), (q9, .inr (5, [.int 1, .int 1, .long (-9223372036854775808), .int 0, .int 0, .int 0, .int 0, .int 0, .int 0, .ref u10.1, .ref u10.2])), (u10.1, .inl (G.2 0, 21, .inl (fun _ => 0))), (u10.2, .inl (G.2 1, 21, .inr (.inl (F_J7_fill_d0a16 (fun _ => 0) (-9223372036854775808))))), (q11, .inr (5, [.int 2, .int 1, .long (-9223372036854775808), .int 0, .int 0, .int 0, .int 0, .int 0, .int 0, .ref u12.1, .ref u12.2])), (u12.1, .inl (G.2 0, 21, .inl (fun _ => 0))), (u12.2, .inl (G.2 1, 21, .inr (.inl (F_J7_fill_d0a16 (fun _ => 0) (-9223372036854775808))))), (q13, .inr (5, [.int 3, .int 1, .long (-9223372036854775808), .int 0, .int 0, .int 0, .int 0, .int 0, .int 0, .ref u14.1, .ref u14.2])), (u14.1, .inl (G.2 0, 21, .inl (fun _ => 0))), (u14.2, .inl (G.2 1, 21, .inr (.inl (F_J7_fill_d0a16 (fun _ => 0) (-9223372036854775808)))))]) (va_runI (As := [.int 4]) (rest := [.ref q15, .int 3, .ref q8]) ⟨hx, hb, hml, hown, hts⟩ (c_X3_init l G q15 _ 4) (cwI 1 hts gX5_init_X3_init rfl rfl rfl (hts (.initialized RX3) (by decide +kernel)) (hts (.methodLink RX5 42 yX3_init) (by decide +kernel)) (hts (.instanceMethod yX3_init) (by decide +kernel)) rfl (by decide +kernel) ⟨Nat.le_of_ble_eq_true rfl, Nat.le_of_ble_eq_true rfl⟩) (pR_S hK hPc hDc) rfl rfl hl.1 rfl (lv_room (Nat.le_of_ble_eq_true rfl)) dX5_init_77 ⟨Nat.le_of_ble_eq_true rfl, Nat.le_of_ble_eq_true rfl⟩) hP hD hS hA [18] [0, 1, 2, 3, 4, 5, 6, 7, 8, 9, 10, 11, 12, 13, 14, 15, 16, 17] rfl rfl (by decide) (by decide) (fun u16 ez16 H locs hP hD hS => ?_)
  have hP : va_P G.1 vwCl [(h0, .inr (7, [.ref q1, .ref q2, .ref q4, .ref q6, .ref q8, .null, .int 0, .long 0])), (q1, .inl (G.2 3, 21, .inr (.inr (.inr (.inr (fun _ => none)))))), (q2, .inr (4, [.ref u3, .int 0, .int 0])), (u3, .inl (G.2 0, 200, .inl (fun _ => 0))), (q4, .inr (2, [.ref u5, .int 0])), (u5, .inl (G.2 0, 256, .inl (fun _ => 0))), (q6, .inr (6, [.ref u7, .int 0, .int 0])), (u7, .inl (G.2 0, 900, .inl (fun _ => 0))), (q8, .inl (G.2 4, 4, .inr (.inr (.inr (.inr (va_up (va_up (va_up (fun _ => none) (0 : Int32).toNatClampNeg (some q9)) (1 : Int32).toNatClampNeg (some q11)) (2 : Int32).toNatClampNeg (some q13))))))), (q9, .inr (5, [.int 1, .int 1, .long (-9223372036854775808), .int 0, .int 0, .int 0, .int 0, .int 0, .int 0, .ref u10.1, .ref u10.2])), (u10.1, .inl (G.2 0, 21, .inl (fun _ => 0))), (u10.2, .inl (G.2 1, 21, .inr (.inl (F_J7_fill_d0a16 (fun _ => 0) (-9223372036854775808))))), (q11, .inr (5, [.int 2, .int 1, .long (-9223372036854775808), .int 0, .int 0, .int 0, .int 0, .int 0, .int 0, .ref u12.1, .ref u12.2])), (u12.1, .inl (G.2 0, 21, .inl (fun _ => 0))), (u12.2, .inl (G.2 1, 21, .inr (.inl (F_J7_fill_d0a16 (fun _ => 0) (-9223372036854775808))))), (q13, .inr (5, [.int 3, .int 1, .long (-9223372036854775808), .int 0, .int 0, .int 0, .int 0, .int 0, .int 0, .ref u14.1, .ref u14.2])), (u14.1, .inl (G.2 0, 21, .inl (fun _ => 0))), (u14.2, .inl (G.2 1, 21, .inr (.inl (F_J7_fill_d0a16 (fun _ => 0) (-9223372036854775808))))), (q15, .inr (5, [.int 4, .int 1, .long (-9223372036854775808), .int 0, .int 0, .int 0, .int 0, .int 0, .int 0, .ref u16.1, .ref u16.2])), (u16.1, .inl (G.2 0, 21, .inl (fun _ => 0))), (u16.2, .inl (G.2 1, 21, .inr (.inl (F_J7_fill_d0a16 (fun _ => 0) (-9223372036854775808)))))] H := hP
  have hD : va_D A [(h0, .inr (7, [.ref q1, .ref q2, .ref q4, .ref q6, .ref q8, .null, .int 0, .long 0])), (q1, .inl (G.2 3, 21, .inr (.inr (.inr (.inr (fun _ => none)))))), (q2, .inr (4, [.ref u3, .int 0, .int 0])), (u3, .inl (G.2 0, 200, .inl (fun _ => 0))), (q4, .inr (2, [.ref u5, .int 0])), (u5, .inl (G.2 0, 256, .inl (fun _ => 0))), (q6, .inr (6, [.ref u7, .int 0, .int 0])), (u7, .inl (G.2 0, 900, .inl (fun _ => 0))), (q8, .inl (G.2 4, 4, .inr (.inr (.inr (.inr (va_up (va_up (va_up (fun _ => none) (0 : Int32).toNatClampNeg (some q9)) (1 : Int32).toNatClampNeg (some q11)) (2 : Int32).toNatClampNeg (some q13))))))), (q9, .inr (5, [.int 1, .int 1, .long (-9223372036854775808), .int 0, .int 0, .int 0, .int 0, .int 0, .int 0, .ref u10.1, .ref u10.2])), (u10.1, .inl (G.2 0, 21, .inl (fun _ => 0))), (u10.2, .inl (G.2 1, 21, .inr (.inl (F_J7_fill_d0a16 (fun _ => 0) (-9223372036854775808))))), (q11, .inr (5, [.int 2, .int 1, .long (-9223372036854775808), .int 0, .int 0, .int 0, .int 0, .int 0, .int 0, .ref u12.1, .ref u12.2])), (u12.1, .inl (G.2 0, 21, .inl (fun _ => 0))), (u12.2, .inl (G.2 1, 21, .inr (.inl (F_J7_fill_d0a16 (fun _ => 0) (-9223372036854775808))))), (q13, .inr (5, [.int 3, .int 1, .long (-9223372036854775808), .int 0, .int 0, .int 0, .int 0, .int 0, .int 0, .ref u14.1, .ref u14.2])), (u14.1, .inl (G.2 0, 21, .inl (fun _ => 0))), (u14.2, .inl (G.2 1, 21, .inr (.inl (F_J7_fill_d0a16 (fun _ => 0) (-9223372036854775808))))), (q15, .inr (5, [.int 4, .int 1, .long (-9223372036854775808), .int 0, .int 0, .int 0, .int 0, .int 0, .int 0, .ref u16.1, .ref u16.2])), (u16.1, .inl (G.2 0, 21, .inl (fun _ => 0))), (u16.2, .inl (G.2 1, 21, .inr (.inl (F_J7_fill_d0a16 (fun _ => 0) (-9223372036854775808)))))] := hD
  refine W.widen (k := 20) (n := 1601) (Nat.le_of_ble_eq_true rfl) (Nat.le_of_ble_eq_true rfl) ?_
  refine va_astq (f := (va_up (va_up (va_up (fun _ => none) (0 : Int32).toNatClampNeg (some q9)) (1 : Int32).toNatClampNeg (some q11)) (2 : Int32).toNatClampNeg (some q13))) hx hb hK.1 hP hD hS 8 4 18 5 rfl rfl rfl rfl (vp_in_iff.mpr (by decide)) dX5_init_80 (fun H locs hP hD hS => ?_)
  have hP : va_P G.1 vwCl [(h0, .inr (7, [.ref q1, .ref q2, .ref q4, .ref q6, .ref q8, .null, .int 0, .long 0])), (q1, .inl (G.2 3, 21, .inr (.inr (.inr (.inr (fun _ => none)))))), (q2, .inr (4, [.ref u3, .int 0, .int 0])), (u3, .inl (G.2 0, 200, .inl (fun _ => 0))), (q4, .inr (2, [.ref u5, .int 0])), (u5, .inl (G.2 0, 256, .inl (fun _ => 0))), (q6, .inr (6, [.ref u7, .int 0, .int 0])), (u7, .inl (G.2 0, 900, .inl (fun _ => 0))), (q8, .inl (G.2 4, 4, .inr (.inr (.inr (.inr (va_up (va_up (va_up (va_up (fun _ => none) (0 : Int32).toNatClampNeg (some q9)) (1 : Int32).toNatClampNeg (some q11)) (2 : Int32).toNatClampNeg (some q13)) (3 : Int32).toNatClampNeg (some q15))))))), (q9, .inr (5, [.int 1, .int 1, .long (-9223372036854775808), .int 0, .int 0, .int 0, .int 0, .int 0, .int 0, .ref u10.1, .ref u10.2])), (u10.1, .inl (G.2 0, 21, .inl (fun _ => 0))), (u10.2, .inl (G.2 1, 21, .inr (.inl (F_J7_fill_d0a16 (fun _ => 0) (-9223372036854775808))))), (q11, .inr (5, [.int 2, .int 1, .long (-9223372036854775808), .int 0, .int 0, .int 0, .int 0, .int 0, .int 0, .ref u12.1, .ref u12.2])), (u12.1, .inl (G.2 0, 21, .inl (fun _ => 0))), (u12.2, .inl (G.2 1, 21, .inr (.inl (F_J7_fill_d0a16 (fun _ => 0) (-9223372036854775808))))), (q13, .inr (5, [.int 3, .int 1, .long (-9223372036854775808), .int 0, .int 0, .int 0, .int 0, .int 0, .int 0, .ref u14.1, .ref u14.2])), (u14.1, .inl (G.2 0, 21, .inl (fun _ => 0))), (u14.2, .inl (G.2 1, 21, .inr (.inl (F_J7_fill_d0a16 (fun _ => 0) (-9223372036854775808))))), (q15, .inr (5, [.int 4, .int 1, .long (-9223372036854775808), .int 0, .int 0, .int 0, .int 0, .int 0, .int 0, .ref u16.1, .ref u16.2])), (u16.1, .inl (G.2 0, 21, .inl (fun _ => 0))), (u16.2, .inl (G.2 1, 21, .inr (.inl (F_J7_fill_d0a16 (fun _ => 0) (-9223372036854775808)))))] H := hP
  have hD : va_D A [(h0, .inr (7, [.ref q1, .ref q2, .ref q4, .ref q6, .ref q8, .null, .int 0, .long 0])), (q1, .inl (G.2 3, 21, .inr (.inr (.inr (.inr (fun _ => none)))))), (q2, .inr (4, [.ref u3, .int 0, .int 0])), (u3, .inl (G.2 0, 200, .inl (fun _ => 0))), (q4, .inr (2, [.ref u5, .int 0])), (u5, .inl (G.2 0, 256, .inl (fun _ => 0))), (q6, .inr (6, [.ref u7, .int 0, .int 0])), (u7, .inl (G.2 0, 900, .inl (fun _ => 0))), (q8, .inl (G.2 4, 4, .inr (.inr (.inr (.inr (va_up (va_up (va_up (va_up (fun _ => none) (0 : Int32).toNatClampNeg (some q9)) (1 : Int32).toNatClampNeg (some q11)) (2 : Int32).toNatClampNeg (some q13)) (3 : Int32).toNatClampNeg (some q15))))))), (q9, .inr (5, [.int 1, .int 1, .long (-9223372036854775808), .int 0, .int 0, .int 0, .int 0, .int 0, .int 0, .ref u10.1, .ref u10.2])), (u10.1, .inl (G.2 0, 21, .inl (fun _ => 0))), (u10.2, .inl (G.2 1, 21, .inr (.inl (F_J7_fill_d0a16 (fun _ => 0) (-9223372036854775808))))), (q11, .inr (5, [.int 2, .int 1, .long (-9223372036854775808), .int 0, .int 0, .int 0, .int 0, .int 0, .int 0, .ref u12.1, .ref u12.2])), (u12.1, .inl (G.2 0, 21, .inl (fun _ => 0))), (u12.2, .inl (G.2 1, 21, .inr (.inl (F_J7_fill_d0a16 (fun _ => 0) (-9223372036854775808))))), (q13, .inr (5, [.int 3, .int 1, .long (-9223372036854775808), .int 0, .int 0, .int 0, .int 0, .int 0, .int 0, .ref u14.1, .ref u14.2])), (u14.1, .inl (G.2 0, 21, .inl (fun _ => 0))), (u14.2, .inl (G.2 1, 21, .inr (.inl (F_J7_fill_d0a16 (fun _ => 0) (-9223372036854775808))))), (q15, .inr (5, [.int 4, .int 1, .long (-9223372036854775808), .int 0, .int 0, .int 0, .int 0, .int 0, .int 0, .ref u16.1, .ref u16.2])), (u16.1, .inl (G.2 0, 21, .inl (fun _ => 0))), (u16.2, .inl (G.2 1, 21, .inr (.inl (F_J7_fill_d0a16 (fun _ => 0) (-9223372036854775808)))))] := hD
  refine lv_iinc (v := 4) (lv' := [(1, .int 4), (0, .ref h0)]) hx hb dX5_init_81 hl (k := 0) rfl (by decide) (by decide) rfl (fun ls hl => ?_)
  refine lv_goto (tgt := 56) hx hb dX5_init_84 (by decide) ?_
  refine lv_iload_n hx hb dX5_init_56 rfl (lv_at hl 0 rfl) ?_
  refine lv_aload_n hx hb dX5_init_57 rfl (lv_at hl 1 rfl) ?_
  refine va_get (D := G.1) (ci := 7) (v := .ref q8) (C := RX5) (T := TX5) (N := 8) hx hb hts iX5 hown hK.1 hP 0 rfl rfl 4 (by decide) (hts (.fieldLink RX5 38 "RightsSteps" "testers" "[LRightsSteps$Tester;") (by decide +kernel)) (fun _ h9 => h9) rfl dX5_init_58 ?_
  refine va_alen (v := 4) hx hb hK.1 hP 8 4 rfl rfl rfl dX5_init_61 ?_
  refine lv_icmp_ge (tgt := 87) hx hb dX5_init_62 (by decide) (fun _ => ?_) (fun q => absurd (by decide) q)
  refine lv_aload_n hx hb dX5_init_87 rfl (lv_at hl 1 rfl) ?_
  refine lv_aload_n hx hb dX5_init_88 rfl (lv_at hl 1 rfl) ?_
  refine va_get (D := G.1) (ci := 7) (v := .ref q8) (C := RX5) (T := TX5) (N := 8) hx hb hts iX5 hown hK.1 hP 0 rfl rfl 4 (by decide) (hts (.fieldLink RX5 38 "RightsSteps" "testers" "[LRightsSteps$Tester;") (by decide +kernel)) (fun _ h9 => h9) rfl dX5_init_89 ?_
  refine lv_iconst (v := 0) hx hb dX5_init_92 (by decide) ?_
  refine va_aldq (f := (va_up (va_up (va_up (va_up (fun _ => none) (0 : Int32).toNatClampNeg (some q9)) (1 : Int32).toNatClampNeg (some q11)) (2 : Int32).toNatClampNeg (some q13)) (3 : Int32).toNatClampNeg (some q15))) hx hb hK.1 hP 8 4 rfl rfl (vp_in_iff.mpr (by decide)) dX5_init_93 ?_
  refine W.eq (g2 := F0 m 94 ls (.ref q9 :: .ref h0 :: [])) (rfl) ?_
  refine va_put (D := G.1) (ci := 7) (v := .ref q9) (ty := .object "RightsSteps$Tester") (C := RX5) (T := TX5) (N := 8) hx hb hts iX5 tyX5 tyX5_ok nmX5 hown hK.1 hP hD hS 0 rfl rfl 5 (by decide) (hts (.fieldLink RX5 45 "RightsSteps" "atHand" "LRightsSteps$Tester;") (by decide +kernel)) (fun _ h9 => h9) rfl (by decide +kernel) rfl rfl (Nat.le_of_ble_eq_true rfl) dX5_init_94 (fun H locs hP hD hS => ?_)
  have hP : va_P G.1 vwCl [(h0, .inr (7, [.ref q1, .ref q2, .ref q4, .ref q6, .ref q8, .ref q9, .int 0, .long 0])), (q1, .inl (G.2 3, 21, .inr (.inr (.inr (.inr (fun _ => none)))))), (q2, .inr (4, [.ref u3, .int 0, .int 0])), (u3, .inl (G.2 0, 200, .inl (fun _ => 0))), (q4, .inr (2, [.ref u5, .int 0])), (u5, .inl (G.2 0, 256, .inl (fun _ => 0))), (q6, .inr (6, [.ref u7, .int 0, .int 0])), (u7, .inl (G.2 0, 900, .inl (fun _ => 0))), (q8, .inl (G.2 4, 4, .inr (.inr (.inr (.inr (va_up (va_up (va_up (va_up (fun _ => none) (0 : Int32).toNatClampNeg (some q9)) (1 : Int32).toNatClampNeg (some q11)) (2 : Int32).toNatClampNeg (some q13)) (3 : Int32).toNatClampNeg (some q15))))))), (q9, .inr (5, [.int 1, .int 1, .long (-9223372036854775808), .int 0, .int 0, .int 0, .int 0, .int 0, .int 0, .ref u10.1, .ref u10.2])), (u10.1, .inl (G.2 0, 21, .inl (fun _ => 0))), (u10.2, .inl (G.2 1, 21, .inr (.inl (F_J7_fill_d0a16 (fun _ => 0) (-9223372036854775808))))), (q11, .inr (5, [.int 2, .int 1, .long (-9223372036854775808), .int 0, .int 0, .int 0, .int 0, .int 0, .int 0, .ref u12.1, .ref u12.2])), (u12.1, .inl (G.2 0, 21, .inl (fun _ => 0))), (u12.2, .inl (G.2 1, 21, .inr (.inl (F_J7_fill_d0a16 (fun _ => 0) (-9223372036854775808))))), (q13, .inr (5, [.int 3, .int 1, .long (-9223372036854775808), .int 0, .int 0, .int 0, .int 0, .int 0, .int 0, .ref u14.1, .ref u14.2])), (u14.1, .inl (G.2 0, 21, .inl (fun _ => 0))), (u14.2, .inl (G.2 1, 21, .inr (.inl (F_J7_fill_d0a16 (fun _ => 0) (-9223372036854775808))))), (q15, .inr (5, [.int 4, .int 1, .long (-9223372036854775808), .int 0, .int 0, .int 0, .int 0, .int 0, .int 0, .ref u16.1, .ref u16.2])), (u16.1, .inl (G.2 0, 21, .inl (fun _ => 0))), (u16.2, .inl (G.2 1, 21, .inr (.inl (F_J7_fill_d0a16 (fun _ => 0) (-9223372036854775808)))))] H := hP
  have hD : va_D A [(h0, .inr (7, [.ref q1, .ref q2, .ref q4, .ref q6, .ref q8, .ref q9, .int 0, .long 0])), (q1, .inl (G.2 3, 21, .inr (.inr (.inr (.inr (fun _ => none)))))), (q2, .inr (4, [.ref u3, .int 0, .int 0])), (u3, .inl (G.2 0, 200, .inl (fun _ => 0))), (q4, .inr (2, [.ref u5, .int 0])), (u5, .inl (G.2 0, 256, .inl (fun _ => 0))), (q6, .inr (6, [.ref u7, .int 0, .int 0])), (u7, .inl (G.2 0, 900, .inl (fun _ => 0))), (q8, .inl (G.2 4, 4, .inr (.inr (.inr (.inr (va_up (va_up (va_up (va_up (fun _ => none) (0 : Int32).toNatClampNeg (some q9)) (1 : Int32).toNatClampNeg (some q11)) (2 : Int32).toNatClampNeg (some q13)) (3 : Int32).toNatClampNeg (some q15))))))), (q9, .inr (5, [.int 1, .int 1, .long (-9223372036854775808), .int 0, .int 0, .int 0, .int 0, .int 0, .int 0, .ref u10.1, .ref u10.2])), (u10.1, .inl (G.2 0, 21, .inl (fun _ => 0))), (u10.2, .inl (G.2 1, 21, .inr (.inl (F_J7_fill_d0a16 (fun _ => 0) (-9223372036854775808))))), (q11, .inr (5, [.int 2, .int 1, .long (-9223372036854775808), .int 0, .int 0, .int 0, .int 0, .int 0, .int 0, .ref u12.1, .ref u12.2])), (u12.1, .inl (G.2 0, 21, .inl (fun _ => 0))), (u12.2, .inl (G.2 1, 21, .inr (.inl (F_J7_fill_d0a16 (fun _ => 0) (-9223372036854775808))))), (q13, .inr (5, [.int 3, .int 1, .long (-9223372036854775808), .int 0, .int 0, .int 0, .int 0, .int 0, .int 0, .ref u14.1, .ref u14.2])), (u14.1, .inl (G.2 0, 21, .inl (fun _ => 0))), (u14.2, .inl (G.2 1, 21, .inr (.inl (F_J7_fill_d0a16 (fun _ => 0) (-9223372036854775808))))), (q15, .inr (5, [.int 4, .int 1, .long (-9223372036854775808), .int 0, .int 0, .int 0, .int 0, .int 0, .int 0, .ref u16.1, .ref u16.2])), (u16.1, .inl (G.2 0, 21, .inl (fun _ => 0))), (u16.2, .inl (G.2 1, 21, .inr (.inl (F_J7_fill_d0a16 (fun _ => 0) (-9223372036854775808)))))] := hD
  exact W.vret hx hb hr (fun t ht hW => ⟨⟨[q1, q2, u3, q4, u5, q6, u7, q8, q9, u10.1, u10.2, q11, u12.1, u12.2, q13, u14.1, u14.2, q15, u16.1, u16.2], rfl, True.intro, by rw [ht]; exact hP.sub [0, 1, 2, 3, 4, 5, 6, 7, 8, 9, 10, 11, 12, 13, 14, 15, 16, 17, 18, 19, 20] rfl, hD.sub [0, 1, 2, 3, 4, 5, 6, 7, 8, 9, 10, 11, 12, 13, 14, 15, 16, 17, 18, 19, 20] (by decide) rfl⟩, hS.F ht⟩) hS.2.2 dX5_init_97
