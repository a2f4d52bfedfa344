theorem LT_in : ∀ w ∈ LT, w ∈ lw_tbl := by decide +kernel
theorem nw_of {p : Program} {s : State} {m : MethodId} {meth : Method} {c : Code} {b L : Nat} {scr : Nat → Int32} (C0 : lw_At p s m meth c b L scr) {w : Cond} (h : w ∈ lw_tbl) (o : w.onTables = true) : w.before #[] s = true := va_tabs o rfl (C0.2.2.2.2.2.1 w h)
theorem tw_start {p : Program} {s : State} {m : MethodId} {meth : Method} {c : Code} {b L : Nat} {scr : Nat → Int32} (C0 : lw_At p s m meth c b L scr) : TW s := fun w hw => nw_of C0 (LT_in w hw) (LT_on w hw)
theorem th_start {p : Program} {s : State} {m : MethodId} {meth : Method} {c : Code} {b L : Nat} {scr : Nat → Int32} (C0 : lw_At p s m meth c b L scr) : TH (fun q : Nat => s.heap.size ≤ q) s s.heap := by
  obtain ⟨hx, hb, hr, hml, hown, hts, hX, hbl, hlocks, hgv⟩ := id C0
  have hs := flat_of_before _ hgv
  exact ⟨vx_Zqof (args := #[.ref b]) (hts (.laysStatic Bundle.tN "UNASSIGNED_STACK" Bundle.steD) (by decide +kernel)) (hts (.initialized Bundle.tN) (by decide +kernel)) (hs (.isRef (.static Bundle.tN "UNASSIGNED_STACK" Bundle.steD)) (by decide +kernel)) (fun a h => Nat.not_le.mpr h), vx_Zqof (args := #[.ref b]) (hts (.laysStatic Bundle.tN "SUPPRESSED_SENTINEL" Bundle.listD) (by decide +kernel)) (hts (.initialized Bundle.tN) (by decide +kernel)) (hs (.isRef (.static Bundle.tN "SUPPRESSED_SENTINEL" Bundle.listD)) (by decide +kernel)) (fun a h => Nat.not_le.mpr h)⟩
theorem nst_start {p : Program} {s : State} {m : MethodId} {meth : Method} {c : Code} {b L : Nat} {scr : Nat → Int32} (C0 : lw_At p s m meth c b L scr) : nst s := by
  have nw : ∀ w : Cond, w ∈ lw_tbl → w.onTables = true → w.before #[] s = true := fun w h o => nw_of C0 h o
  exact ⟨nw (.fieldLinkNest RX5 126 "RightsSteps$UseLog" "count" "I" RX5) (by decide +kernel) (by decide +kernel), nw (.fieldLinkNest RX5 75 "RightsSteps$Tester" "number" "I" RX5) (by decide +kernel) (by decide +kernel), nw (.fieldLinkNest RX5 107 "RightsSteps$Tester" "session" "I" RX5) (by decide +kernel) (by decide +kernel), nw (.fieldLinkNest RX5 116 "RightsSteps$Tester" "roleUntil" "J" RX5) (by decide +kernel) (by decide +kernel), nw (.fieldLinkNest RX5 104 "RightsSteps$Tester" "openLevel" "I" RX5) (by decide +kernel) (by decide +kernel), nw (.fieldLinkNest RX5 162 "RightsSteps$Tester" "awaitedLevel" "I" RX5) (by decide +kernel) (by decide +kernel), nw (.fieldLinkNest RX5 165 "RightsSteps$Tester" "awaitedSeed" "I" RX5) (by decide +kernel) (by decide +kernel), nw (.fieldLinkNest RX5 91 "RightsSteps$Tester" "octets" "I" RX5) (by decide +kernel) (by decide +kernel), nw (.fieldLinkNest RX5 94 "RightsSteps$Tester" "keySoFar" "I" RX5) (by decide +kernel) (by decide +kernel), nw (.fieldLinkNest RX5 84 "RightsSteps$Tester" "out" "I" RX5) (by decide +kernel) (by decide +kernel), nw (.fieldLinkNest RX5 152 "RightsSteps$Level" "number" "I" RX5) (by decide +kernel) (by decide +kernel), nw (.fieldLinkNest RX5 178 "RightsSteps$Level" "tries" "I" RX5) (by decide +kernel) (by decide +kernel), nw (.fieldLinkNest RX5 181 "RightsSteps$Level" "delay" "J" RX5) (by decide +kernel) (by decide +kernel), nw (.methodLinkNest RX5 17 yX2_init RX5) (by decide +kernel) (by decide +kernel), nw (.methodLinkNest RX5 24 yX0_init RX5) (by decide +kernel) (by decide +kernel), nw (.methodLinkNest RX5 31 yX4_init RX5) (by decide +kernel) (by decide +kernel), nw (.methodLinkNest RX2 26 yX5_isPlain RX5) (by decide +kernel) (by decide +kernel), va_AO.of (C0.2.2.2.2.2.1 (.arrayOver (.object RX1)) (by decide +kernel)), va_AO.of (C0.2.2.2.2.2.1 (.arrayOver (.object RX3)) (by decide +kernel))⟩
theorem kk_start {p : Program} {s : State} {m : MethodId} {meth : Method} {c : Code} {b L : Nat} {scr : Nat → Int32} (C0 : lw_At p s m meth c b L scr) : ∃ G : gG, KK G s := by
  obtain ⟨hx, hb, hr, hml, hown, hts, hX, hbl, hlocks, hgv⟩ := id C0
  obtain ⟨c0, i0, k0⟩ := u_known (C := RJ0) (T := TJ0) (N := 2) (n := 4) hts inJ0 (hts (.instantiable RJ0 4) (by decide +kernel))
  obtain ⟨c1, i1, k1⟩ := u_known (C := RJx00060) (T := TJx00060) (N := 6) (n := 6) hts inJx00060 (hts (.instantiable RJx00060 6) (by decide +kernel))
  obtain ⟨c2, i2, k2⟩ := u_known (C := RX0) (T := TX0) (N := 2) (n := 2) hts inX0 (hts (.instantiable RX0 2) (by decide +kernel))
  obtain ⟨c3, i3, k3⟩ := u_known (C := RX1) (T := TX1) (N := 4) (n := 4) hts inX1 (hts (.instantiable RX1 4) (by decide +kernel))
  obtain ⟨c4, i4, k4⟩ := u_known (C := RX2) (T := TX2) (N := 3) (n := 3) hts inX2 (hts (.instantiable RX2 3) (by decide +kernel))
  obtain ⟨c5, i5, k5⟩ := u_known (C := RX3) (T := TX3) (N := 11) (n := 11) hts inX3 (hts (.instantiable RX3 11) (by decide +kernel))
  obtain ⟨c6, i6, k6⟩ := u_known (C := RX4) (T := TX4) (N := 3) (n := 3) hts inX4 (hts (.instantiable RX4 3) (by decide +kernel))
  obtain ⟨c7, i7, k7⟩ := u_known (C := RX5) (T := TX5) (N := 8) (n := 8) hts inX5 (hts (.instantiable RX5 8) (by decide +kernel))
  obtain ⟨c8, i8, k8⟩ := u_known (C := RX6) (T := TX6) (N := 27) (n := 27) hts inX6 (hts (.instantiable RX6 27) (by decide +kernel))
  obtain ⟨aint, bint, dint, e1int, e2int, e3int⟩ := Cond.arrayClass_spec (hts (.arrayClass .int) (by decide +kernel))
  obtain ⟨along, blong, dlong, e1long, e2long, e3long⟩ := Cond.arrayClass_spec (hts (.arrayClass .long) (by decide +kernel))
  obtain ⟨aboolean, bboolean, dboolean, e1boolean, e2boolean, e3boolean⟩ := Cond.arrayClass_spec (hts (.arrayClass .boolean) (by decide +kernel))
  obtain ⟨dlev, alev, blev, e4lev, -, e2lev, e3lev, e1lev⟩ := Cond.arrayOver_spec (hts (.arrayOver (.object RX1)) (by decide +kernel))
  obtain ⟨dtes, ates, btes, e4tes, -, e2tes, e3tes, e1tes⟩ := Cond.arrayOver_spec (hts (.arrayOver (.object RX3)) (by decide +kernel))
  refine ⟨((fun k => match k with | 0 => c0 | 1 => c1 | 2 => c2 | 3 => c3 | 4 => c4 | 5 => c5 | 6 => c6 | 7 => c7 | _ => c8, fun k => match k with | 0 => i0 | 1 => i1 | 2 => i2 | 3 => i3 | 4 => i4 | 5 => i5 | 6 => i6 | 7 => i7 | _ => i8), fun k => match k with | 0 => aint | 1 => along | 2 => aboolean | 3 => alev | _ => ates), ⟨fun k q hq => ?_, fun k q hq => ?_⟩, nst_start C0⟩
  · match k, hq with
    | 0, hq => cases hq; exact k0
    | 1, hq => cases hq; exact k1
    | 2, hq => cases hq; exact k2
    | 3, hq => cases hq; exact k3
    | 4, hq => cases hq; exact k4
    | 5, hq => cases hq; exact k5
    | 6, hq => cases hq; exact k6
    | 7, hq => cases hq; exact k7
    | 8, hq => cases hq; exact k8
    | k + 9, hq => exact absurd hq (by simp [vwCl])
  · match k, hq with
    | 0, hq => cases hq; exact ⟨fun n z => ⟨fun k h => (by cases h), bint, e2int, dint, e3int⟩, e1int⟩
    | 1, hq => cases hq; exact ⟨fun n z => ⟨fun k h => (by cases h), blong, e2long, dlong, e3long⟩, e1long⟩
    | 2, hq => cases hq; exact ⟨fun n z => ⟨fun k h => (by cases h), bboolean, e2boolean, dboolean, e3boolean⟩, e1boolean⟩
    | 3, hq => cases hq; exact ⟨fun n z => ⟨fun k h => (by cases h), blev, e2lev, dlev, e3lev⟩, blev, dlev, e2lev, e3lev, e4lev, e1lev⟩
    | 4, hq => cases hq; exact ⟨fun n z => ⟨fun k h => (by cases h), btes, e2tes, dtes, e3tes⟩, btes, dtes, e2tes, e3tes, e4tes, e1tes⟩
    | k + 5, hq => exact absurd hq (by simp [gT])
theorem fill_tab : ∀ i : Fin 21, F_J7_fill_d0a16 (fun _ => 0) (-9223372036854775808) i.val = MINL := by decide +kernel
theorem rr_start : RR 0 0 0 0 (fun _ => none) [] 0 0 (fun _ => 0) 0 (fun _ => 0) 0 0 (fun _ => 0) (fun j => nI (j + 1)) (fun _ => 1) (fun _ => -9223372036854775808) (fun _ => 0) (fun _ => 0) (fun _ => 0) (fun _ => 0) (fun _ => 0) (fun _ => 0) (fun _ => fun _ => 0) (fun _ => F_J7_fill_d0a16 (fun _ => 0) (-9223372036854775808)) 0 0 0 0 0 0 0 (fun _ => 0) (fun _ => 0) (fun _ => 0) (fun _ => 0) (fun _ => 0) (upd (upd (upd (upd (fun _ => 0) (0 : Int32).toNatClampNeg 1) (1 : Int32).toNatClampNeg 1) (2 : Int32).toNatClampNeg 1) (3 : Int32).toNatClampNeg 1) (vp_updL (vp_updL (vp_updL (vp_updL (fun _ => 0) (0 : Int32).toNatClampNeg (-1)) (1 : Int32).toNatClampNeg (-1)) (2 : Int32).toNatClampNeg (-1)) (3 : Int32).toNatClampNeg (-1)) (fun _ => 0) (fun _ => 0) (fun _ => 0) (fun _ => 0) (fun _ => 0) (fun _ => 0) (fun _ => 0) (fun _ => 0) (fun _ => 0) (fun _ => 0) (fun _ => 0) (fun _ => 0) := by
  have z0 : ¬ (0 : Int32) < 0 := by decide
  refine ⟨⟨by decide, rfl⟩, ⟨rfl, by decide⟩, ⟨rfl, fun n _ y h => (by cases h), fun j _ => ⟨fun _ => z0, fun _ => rfl⟩⟩, ⟨0, 0, 0, 0, rfl, by decide, rfl, by decide, rfl, rfl, rfl, rfl, Nat.le_refl _, Nat.le_refl _, fun j hj => absurd hj (Nat.not_lt_zero _), fun j hj => absurd hj (Nat.not_lt_zero _)⟩, ⟨0, Nat.le_refl _, rfl, rfl, rfl, fun j hj => absurd hj (by omega)⟩, fun j _ => rfl, all4 ⟨rfl, Or.inl rfl⟩ ⟨rfl, Or.inl rfl⟩ ⟨rfl, Or.inl rfl⟩ ⟨rfl, Or.inl rfl⟩, all4 (Or.inr ⟨rfl, rfl⟩) (Or.inr ⟨rfl, rfl⟩) (Or.inr ⟨rfl, rfl⟩) (Or.inr ⟨rfl, rfl⟩), fun j _ => ⟨rfl, z0⟩, fun j _ => rfl, fun j _ => rfl, fun j _ => rfl, fun j _ => ⟨0, Nat.zero_le _, rfl, rfl⟩, fun j _ => rfl, fun j _ i _ => rfl, fun j _ i hi => Or.inr ⟨rfl, fill_tab ⟨i, hi⟩, rfl⟩⟩
