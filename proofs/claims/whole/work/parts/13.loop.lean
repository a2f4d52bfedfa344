set_option maxHeartbeats 8000000 in
set_option maxRecDepth 100000 in
theorem law_def {p : Program} {l : Launch} {e : Env} {s : State} {m : MethodId} {below : List Frame} {meth : Method} {c : Code} (hst : l.stackTraces = false) {G : gG} {b L : Nat} {scr : Nat → Int32} (hL : L ≤ 3072) (C0 : lw_At p s m meth c b L scr) (hK : KK G s) (hTW : TW s) (hTH : TH (fun q : Nat => s.heap.size ≤ q) s s.heap) {x xl xt xn xg xs xu xp xT : Nat} {ta tu tk : Nat → Nat} {m0 bkd btr bdl btp bgv bse bro bop baw bsd bot bct bcr bud blo bwl bub bul bua ha : Nat} {fT : Nat → Option Nat} (hT : ∀ j : Nat, j < 4 → fT j = some (ta j)) {k : Nat} (h6 : 6 * k + 6 ≤ L) (ih : ∀ (made : Int32) (tim : Int64) (lv : Nat → Option Nat) (pl : va_W) (first : Int32) (size : Int32) (nums : Nat → Int32) (gsz : Int32) (seeds : Nat → Int32) (kept : Int32) (cnt : Int32) (prt : Nat → Int32) (num : Nat → Int32) (ses : Nat → Int32) (rol : Nat → Int64) (opn : Nat → Int32) (awl : Nat → Int32) (aws : Nat → Int32) (oct : Nat → Int32) (ksf : Nat → Int32) (ou : Nat → Int32) (ut : Nat → Nat → Int32) (lk : Nat → Nat → Int64) (mt : Int64) (hd : Int32) (mmd : Int32) (typ : Int32) (rd : Int32) (giv : Int32) (us : Int32) (mkd : Nat → Int32) (mtr : Nat → Int32) (mdl : Nat → Int64) (tp : Nat → Int32) (gv : Nat → Int32) (se : Nat → Int32) (ro : Nat → Int64) (opv : Nat → Int32) (aw : Nat → Int32) (sd : Nat → Int32) (ot : Nat → Int32) (ct : Nat → Int32) (cr : Nat → Int32) (ud : Nat → Int32) (lo : Nat → Int64) (wl : Nat → Int32) (ub : Nat → Int32) (ul : Nat → Int32) (ua : Nat → Int32) (cod : Int32) (oa : Nat → Int64) (h : Nat) (x4 : Int32) (H : Heap) (locs : List Loc) (ls : Array Slot), LSt G s b x xl xt xn xg xs xu xp xT ta tu tk m0 bkd btr bdl btp bgv bse bro bop baw bsd bot bct bcr bud blo bwl bub bul bua ha fT (k + 1) made tim lv pl first size nums gsz seeds kept cnt prt num ses rol opn awl aws oct ksf ou ut lk mt hd mmd typ rd giv us mkd mtr mdl tp gv se ro opv aw sd ot ct cr ud lo wl ub ul ua cod oa h x4 H locs ls → W p l e room_1 s m #[Value.ref b] below meth c H locs (42 + (k + 1)) (6884 + 6 * (k + 1)) (lw_Z below #[Value.ref b] s) (F0 m 23 ls [])) {made : Int32} {tim : Int64} {lv : Nat → Option Nat} {pl : va_W} {first : Int32} {size : Int32} {nums : Nat → Int32} {gsz : Int32} {seeds : Nat → Int32} {kept : Int32} {cnt : Int32} {prt : Nat → Int32} {num : Nat → Int32} {ses : Nat → Int32} {rol : Nat → Int64} {opn : Nat → Int32} {awl : Nat → Int32} {aws : Nat → Int32} {oct : Nat → Int32} {ksf : Nat → Int32} {ou : Nat → Int32} {ut : Nat → Nat → Int32} {lk : Nat → Nat → Int64} {mt : Int64} {hd : Int32} {mmd : Int32} {typ : Int32} {rd : Int32} {giv : Int32} {us : Int32} {mkd : Nat → Int32} {mtr : Nat → Int32} {mdl : Nat → Int64} {tp : Nat → Int32} {gv : Nat → Int32} {se : Nat → Int32} {ro : Nat → Int64} {opv : Nat → Int32} {aw : Nat → Int32} {sd : Nat → Int32} {ot : Nat → Int32} {ct : Nat → Int32} {cr : Nat → Int32} {ud : Nat → Int32} {lo : Nat → Int64} {wl : Nat → Int32} {ub : Nat → Int32} {ul : Nat → Int32} {ua : Nat → Int32} {cod : Int32} {oa : Nat → Int64} {h : Nat} {x4 : Int32} {H : Heap} {locs : List Loc} {ls : Array Slot} (hLS : LSt G s b x xl xt xn xg xs xu xp xT ta tu tk m0 bkd btr bdl btp bgv bse bro bop baw bsd bot bct bcr bud blo bwl bub bul bua ha fT k made tim lv pl first size nums gsz seeds kept cnt prt num ses rol opn awl aws oct ksf ou ut lk mt hd mmd typ rd giv us mkd mtr mdl tp gv se ro opv aw sd ot ct cr ud lo wl ub ul ua cod oa h x4 H locs ls) : W p l e room_1 s m #[Value.ref b] below meth c H locs (42 + k) (6884 + 6 * k) (lw_Z below #[Value.ref b] s) (F0 m 763 ls []) := by
  obtain ⟨hR, hP, hD, hS, ex4, hl⟩ := hLS
  obtain ⟨hx, hb, hr, hml, hown, hts0, hX, hbl, hlocks, hgv⟩ := id C0
  refine W.widen (k := 42 + (k + 1)) (n := 6884 + 6 * (k + 1)) (by omega) (by omega) ?_
  refine lv_iinc (v := (x4 + 6)) (lv' := [(4, .int (x4 + 6)), (0, .ref b), (1, .ref x), (2, .ref m0), (3, .ref ha)]) hx hb dL_law_763 hl (k := 4) rfl rfl (by decide) rfl (fun ls hl => ?_)
  refine lv_goto (tgt := 23) hx hb dL_law_766 (by decide) ?_
  exact ih made tim lv pl first size nums gsz seeds kept cnt prt num ses rol opn awl aws oct ksf ou ut lk mt hd mmd typ rd giv us mkd mtr mdl tp gv se ro opv aw sd ot ct cr ud lo wl ub ul ua cod oa h (x4 + 6) _ _ _ ⟨op_none hR, hP, hD, hS, by rw [ex4]; exact nI_add (6 * k) 6, lv_sub hl [1, 2, 3, 4, 0] rfl⟩
theorem nI_sub6 {L k : Nat} (hL : L ≤ 3072) (hk : 6 * k ≤ L) (q : L < 6 * k + 6) : nI L - 6 < nI (6 * k) := by
  apply Int32.lt_iff_toInt_lt.mpr
  rw [show (6 : Int32) = nI 6 from rfl, pk_sub_toInt (by omega) (by decide), nI_toInt (by omega)]
  omega
set_option maxHeartbeats 8000000 in
set_option maxRecDepth 100000 in
theorem law_loop {p : Program} {l : Launch} {e : Env} {s : State} {m : MethodId} {below : List Frame} {meth : Method} {c : Code} (hst : l.stackTraces = false) {G : gG} {b L : Nat} {scr : Nat → Int32} (hL : L ≤ 3072) (C0 : lw_At p s m meth c b L scr) (hK : KK G s) (hTW : TW s) (hTH : TH (fun q : Nat => s.heap.size ≤ q) s s.heap) {x xl xt xn xg xs xu xp xT : Nat} {ta tu tk : Nat → Nat} {m0 bkd btr bdl btp bgv bse bro bop baw bsd bot bct bcr bud blo bwl bub bul bua ha : Nat} {fT : Nat → Option Nat} (hT : ∀ j : Nat, j < 4 → fT j = some (ta j)) : ∀ (n k : Nat), 6 * k ≤ L → L < 6 * (k + n) → ∀ (made : Int32) (tim : Int64) (lv : Nat → Option Nat) (pl : va_W) (first : Int32) (size : Int32) (nums : Nat → Int32) (gsz : Int32) (seeds : Nat → Int32) (kept : Int32) (cnt : Int32) (prt : Nat → Int32) (num : Nat → Int32) (ses : Nat → Int32) (rol : Nat → Int64) (opn : Nat → Int32) (awl : Nat → Int32) (aws : Nat → Int32) (oct : Nat → Int32) (ksf : Nat → Int32) (ou : Nat → Int32) (ut : Nat → Nat → Int32) (lk : Nat → Nat → Int64) (mt : Int64) (hd : Int32) (mmd : Int32) (typ : Int32) (rd : Int32) (giv : Int32) (us : Int32) (mkd : Nat → Int32) (mtr : Nat → Int32) (mdl : Nat → Int64) (tp : Nat → Int32) (gv : Nat → Int32) (se : Nat → Int32) (ro : Nat → Int64) (opv : Nat → Int32) (aw : Nat → Int32) (sd : Nat → Int32) (ot : Nat → Int32) (ct : Nat → Int32) (cr : Nat → Int32) (ud : Nat → Int32) (lo : Nat → Int64) (wl : Nat → Int32) (ub : Nat → Int32) (ul : Nat → Int32) (ua : Nat → Int32) (cod : Int32) (oa : Nat → Int64) (h : Nat) (x4 : Int32) (H : Heap) (locs : List Loc) (ls : Array Slot), LSt G s b x xl xt xn xg xs xu xp xT ta tu tk m0 bkd btr bdl btp bgv bse bro bop baw bsd bot bct bcr bud blo bwl bub bul bua ha fT k made tim lv pl first size nums gsz seeds kept cnt prt num ses rol opn awl aws oct ksf ou ut lk mt hd mmd typ rd giv us mkd mtr mdl tp gv se ro opv aw sd ot ct cr ud lo wl ub ul ua cod oa h x4 H locs ls → W p l e room_1 s m #[Value.ref b] below meth c H locs (42 + k) (6884 + 6 * k) (lw_Z below #[Value.ref b] s) (F0 m 23 ls []) := by
  obtain ⟨hx, hb, hr, hml, hown, hts0, hX, hbl, hlocks, hgv⟩ := id C0
  have hA : ∀ q : Nat, s.heap.size ≤ q → (fun q : Nat => s.heap.size ≤ q) q := fun _ h => h
  have hbA : ¬ (fun q : Nat => s.heap.size ≤ q) b := Nat.not_le.mpr hbl
  intro n
  induction n with
  | zero =>
    intro k h1 h2
    exact absurd h2 (by omega)
  | succ n ihn =>
    intro k h1 h2 made tim lv pl first size nums gsz seeds kept cnt prt num ses rol opn awl aws oct ksf ou ut lk mt hd mmd typ rd giv us mkd mtr mdl tp gv se ro opv aw sd ot ct cr ud lo wl ub ul ua cod oa h x4 H locs ls hLS
    have hS := hLS.2.2.2.1
    have ex4 := hLS.2.2.2.2.1
    have hl := hLS.2.2.2.2.2
    refine lv_iload hx hb dL_law_23 (lv_at hl 4 rfl) ?_
    refine lv_aload_n hx hb dL_law_25 rfl (lv_at hl 0 rfl) ?_
    refine va_slen hx hb hX hbl hbA hS dL_law_26 ?_
    refine lv_bipush (v := 6) hx hb dL_law_27 (by decide) ?_
    refine lv_isub hx hb dL_law_29 ?_
    refine lv_icmp_gt (tgt := 769) hx hb dL_law_30 (by decide) (fun c0 => ?_) (fun c0 => ?_)
    · refine lv_iconst (v := 1) hx hb dL_law_769 (by decide) ?_
      refine va_forget (fun q hq => hS.2.2 q hq) ?_
      refine W.widen (k := 603072) (n := 7198826) (by omega) (by omega) ?_
      exact lw_ret hx hb hr hlocks dL_law_770
    · have h6 : 6 * k + 6 ≤ L := by
        rcases Nat.lt_or_ge L (6 * k + 6) with q | q
        · exact absurd (by rw [ex4]; exact nI_sub6 hL h1 q) c0
        · exact q
      have ih := ihn (k + 1) (by omega) (by omega)
      refine lv_aload_n hx hb dL_law_33 rfl (lv_at hl 0 rfl) ?_
      refine lv_iload hx hb dL_law_34 (lv_at hl 4 rfl) ?_
      refine va_sld hx hb hX hbl hbA hS (show vp_in x4 L by rw [ex4]; exact vp_in_nI (by omega) (by omega)) dL_law_36 ?_
      refine lv_bipush (v := 15) hx hb dL_law_37 (by decide) ?_
      refine lv_iand hx hb dL_law_39 ?_
      obtain ⟨j, hj, ej⟩ := pk_andE (scr x4.toNatClampNeg) (m := 15) 4 rfl
      refine W.eq (g2 := F0 m 40 ls [.int (nI j)]) (by rw [ej]) ?_
      match j, hj with
      | 0, _ => exact lv_tableIn (tgt := 108) hx hb dL_law_40 (by decide) (by decide) rfl (by decide) (lc_level hst hL C0 hK hTW hTH hT h6 ih hLS)
      | 1, _ => exact lv_tableIn (tgt := 201) hx hb dL_law_40 (by decide) (by decide) rfl (by decide) (lc_tape hst hL C0 hK hTW hTH hT h6 ih hLS)
      | 2, _ => exact lv_tableIn (tgt := 224) hx hb dL_law_40 (by decide) (by decide) rfl (by decide) (lc_seed hst hL C0 hK hTW hTH hT h6 ih hLS)
      | 3, _ => exact lv_tableIn (tgt := 293) hx hb dL_law_40 (by decide) (by decide) rfl (by decide) (lc_out hst hL C0 hK hTW hTH hT h6 ih hLS)
      | 4, _ => exact lv_tableIn (tgt := 349) hx hb dL_law_40 (by decide) (by decide) rfl (by decide) (lc_key hst hL C0 hK hTW hTH hT h6 ih hLS)
      | 5, _ => exact lv_tableIn (tgt := 416) hx hb dL_law_40 (by decide) (by decide) rfl (by decide) (lc_open hst hL C0 hK hTW hTH hT h6 ih hLS)
      | 6, _ => exact lv_tableIn (tgt := 441) hx hb dL_law_40 (by decide) (by decide) rfl (by decide) (lc_session hst hL C0 hK hTW hTH hT h6 ih hLS)
      | 7, _ => exact lv_tableIn (tgt := 466) hx hb dL_law_40 (by decide) (by decide) rfl (by decide) (lc_reset hst hL C0 hK hTW hTH hT h6 ih hLS)
      | 8, _ => exact lv_tableIn (tgt := 479) hx hb dL_law_40 (by decide) (by decide) rfl (by decide) (lc_role hst hL C0 hK hTW hTH hT h6 ih hLS)
      | 9, _ => exact lv_tableIn (tgt := 576) hx hb dL_law_40 (by decide) (by decide) rfl (by decide) (lc_left hst hL C0 hK hTW hTH hT h6 ih hLS)
      | 10, _ => exact lv_tableIn (tgt := 645) hx hb dL_law_40 (by decide) (by decide) rfl (by decide) (lc_log hst hL C0 hK hTW hTH hT h6 ih hLS)
      | 11, _ => exact lv_tableIn (tgt := 682) hx hb dL_law_40 (by decide) (by decide) rfl (by decide) (lc_digit hst hL C0 hK hTW hTH hT h6 ih hLS)
      | 12, _ => exact lv_tableIn (tgt := 738) hx hb dL_law_40 (by decide) (by decide) rfl (by decide) (lc_tester hst hL C0 hK hTW hTH hT h6 ih hLS)
      | 13, _ => exact lv_tableOut (tgt := 763) hx hb dL_law_40 (Or.inr (by decide)) (by decide) (law_def hst hL C0 hK hTW hTH hT h6 ih hLS)
      | 14, _ => exact lv_tableOut (tgt := 763) hx hb dL_law_40 (Or.inr (by decide)) (by decide) (law_def hst hL C0 hK hTW hTH hT h6 ih hLS)
      | 15, _ => exact lv_tableOut (tgt := 763) hx hb dL_law_40 (Or.inr (by decide)) (by decide) (law_def hst hL C0 hK hTW hTH hT h6 ih hLS)
      | j + 16, hj => exact absurd hj (by omega)
