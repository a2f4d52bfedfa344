def MINL : Int64 := -9223372036854775808
def Rlev (made : Int32) (lv : Nat → Option Nat) (pl : va_W) (mmd : Int32) (mkd mtr : Nat → Int32) (mdl : Nat → Int64) : Prop := mmd = made ∧ LV lv mkd mtr mdl pl ∧ ∀ j, j < 21 → (lv j = none ↔ ¬ 0 < mtr j)
def Rtm (tim mt : Int64) : Prop := tim = mt ∧ 0 ≤ mt.toInt
def Rtp (n : Nat) (first size : Int32) (nums : Nat → Int32) (gsz : Int32) (seeds : Nat → Int32) (typ rd : Int32) (tp : Nat → Int32) (giv : Int32) (gv : Nat → Int32) : Prop := ∃ f z d g : Nat, first = nI f ∧ f ≤ 200 ∧ size = nI z ∧ z ≤ 200 ∧ rd = nI d ∧ typ = nI (d + z) ∧ gsz = nI g ∧ giv = nI g ∧ d + z ≤ n ∧ 2 * g + z ≤ n ∧ (∀ j, j < z → nums ((f + j) % 200) = tp (d + j)) ∧ ∀ j, j < g → seeds j = gv j
def Rlg (n : Nat) (kept cnt : Int32) (prt : Nat → Int32) (us : Int32) (ub ul ua : Nat → Int32) : Prop := ∃ u : Nat, u ≤ n ∧ us = nI u ∧ cnt = nI u ∧ kept = nI (min u 300) ∧ ∀ j, j < min u 300 → prt (3 * j) = ub j ∧ prt (3 * j + 1) = ul j ∧ prt (3 * j + 2) = ua j
def Rnum (num : Nat → Int32) : Prop := ∀ j, j < 4 → num j = nI (j + 1)
def Rse (ses se : Nat → Int32) : Prop := ∀ j, j < 4 → ses j = se j ∧ (se j = 1 ∨ se j = 2 ∨ se j = 3)
def Rro (rol ro : Nat → Int64) : Prop := ∀ j, j < 4 → rol j = ro j ∨ (rol j = MINL ∧ ro j = -1)
def Rop (opn opv : Nat → Int32) : Prop := ∀ j, j < 4 → opn j = opv j ∧ ¬ opv j < 0
def Req (f g : Nat → Int32) : Prop := ∀ j, j < 4 → f j = g j
def Roc (n : Nat) (oct ct : Nat → Int32) : Prop := ∀ j, j < 4 → ∃ c : Nat, c ≤ n ∧ ct j = nI c ∧ oct j = nI (min c 5)
def Rut (ut : Nat → Nat → Int32) (ud : Nat → Int32) : Prop := ∀ j, j < 4 → ∀ i, i < 21 → ut j i = ud (21 * j + i)
def Rlk (lk : Nat → Nat → Int64) (lo : Nat → Int64) (wl : Nat → Int32) : Prop := ∀ j, j < 4 → ∀ i, i < 21 → (wl (21 * j + i) = 1 ∧ lk j i = lo (21 * j + i)) ∨ (wl (21 * j + i) = 0 ∧ lk j i = MINL ∧ lo (21 * j + i) = 0)
def RR (n h : Nat) (made : Int32) (tim : Int64) (lv : Nat → Option Nat) (pl : va_W) (first : Int32) (size : Int32) (nums : Nat → Int32) (gsz : Int32) (seeds : Nat → Int32) (kept : Int32) (cnt : Int32) (prt : Nat → Int32) (num : Nat → Int32) (ses : Nat → Int32) (rol : Nat → Int64) (opn : Nat → Int32) (awl : Nat → Int32) (aws : Nat → Int32) (oct : Nat → Int32) (ksf : Nat → Int32) (ou : Nat → Int32) (ut : Nat → Nat → Int32) (lk : Nat → Nat → Int64) (mt : Int64) (hd : Int32) (mmd : Int32) (typ : Int32) (rd : Int32) (giv : Int32) (us : Int32) (mkd : Nat → Int32) (mtr : Nat → Int32) (mdl : Nat → Int64) (tp : Nat → Int32) (gv : Nat → Int32) (se : Nat → Int32) (ro : Nat → Int64) (opv : Nat → Int32) (aw : Nat → Int32) (sd : Nat → Int32) (ot : Nat → Int32) (ct : Nat → Int32) (cr : Nat → Int32) (ud : Nat → Int32) (lo : Nat → Int64) (wl : Nat → Int32) (ub : Nat → Int32) (ul : Nat → Int32) (ua : Nat → Int32) : Prop := (h < 4 ∧ hd = nI h) ∧ Rtm tim mt ∧ Rlev made lv pl mmd mkd mtr mdl ∧ Rtp n first size nums gsz seeds typ rd tp giv gv ∧ Rlg n kept cnt prt us ub ul ua ∧ Rnum num ∧ Rse ses se ∧ Rro rol ro ∧ Rop opn opv ∧ Req awl aw ∧ Req aws sd ∧ Req ou ot ∧ Roc n oct ct ∧ Req ksf cr ∧ Rut ut ud ∧ Rlk lk lo wl
theorem rr_facts {k h : Nat} {made : Int32} {tim : Int64} {lv : Nat → Option Nat} {pl : va_W} {first : Int32} {size : Int32} {nums : Nat → Int32} {gsz : Int32} {seeds : Nat → Int32} {kept : Int32} {cnt : Int32} {prt : Nat → Int32} {num : Nat → Int32} {ses : Nat → Int32} {rol : Nat → Int64} {opn : Nat → Int32} {awl : Nat → Int32} {aws : Nat → Int32} {oct : Nat → Int32} {ksf : Nat → Int32} {ou : Nat → Int32} {ut : Nat → Nat → Int32} {lk : Nat → Nat → Int64} {mt : Int64} {hd : Int32} {mmd : Int32} {typ : Int32} {rd : Int32} {giv : Int32} {us : Int32} {mkd : Nat → Int32} {mtr : Nat → Int32} {mdl : Nat → Int64} {tp : Nat → Int32} {gv : Nat → Int32} {se : Nat → Int32} {ro : Nat → Int64} {opv : Nat → Int32} {aw : Nat → Int32} {sd : Nat → Int32} {ot : Nat → Int32} {ct : Nat → Int32} {cr : Nat → Int32} {ud : Nat → Int32} {lo : Nat → Int64} {wl : Nat → Int32} {ub : Nat → Int32} {ul : Nat → Int32} {ua : Nat → Int32} (hk : k ≤ 511) (hR : RR k h made tim lv pl first size nums gsz seeds kept cnt prt num ses rol opn awl aws oct ksf ou ut lk mt hd mmd typ rd giv us mkd mtr mdl tp gv se ro opv aw sd ot ct cr ud lo wl ub ul ua) : vp_in hd 4 ∧ vp_in typ 2000 ∧ vp_in rd (typ.toNatClampNeg + 1) ∧ vp_in giv 2000 ∧ ¬ us < 0 ∧ vp_in first 201 ∧ vp_in size 201 ∧ ¬ gsz < 0 ∧ vp_in kept 301 ∧ LV lv mkd mtr mdl pl ∧ h < 4 := by
  obtain ⟨⟨hh, rfl⟩, -, ⟨-, hLV, -⟩, ⟨f, z, d, g, rfl, hf, rfl, hz, rfl, rfl, rfl, rfl, hdz, hgz, -⟩, ⟨u, hu, rfl, -, rfl, -⟩, -⟩ := hR
  exact ⟨vp_in_nI hh (by decide), vp_in_nI (by omega) (by decide), by rw [nI_clamp (by omega)]; exact vp_in_nI (by omega) (by omega), vp_in_nI (by omega) (by decide), nI_pos (by omega), vp_in_nI (by omega) (by decide), vp_in_nI (by omega) (by decide), nI_pos (by omega), vp_in_nI (by omega) (by decide), hLV, hh⟩
theorem va_up_id {α : Type} (f : Nat → α) (h : Nat) : va_up f h (f h) = f := funext fun j => by
  unfold va_up
  by_cases e : j = h
  · rw [if_pos e, e]
  · rw [if_neg e]
theorem i32_le {x y : Int32} (h : x.toInt ≤ y.toInt) : x ≤ y := Int32.le_iff_toInt_le.mpr h
theorem i32_lt {x y : Int32} (h : x.toInt < y.toInt) : x < y := Int32.lt_iff_toInt_lt.mpr h
theorem ceh {hd : Int32} {h : Nat} (e : h < 4 ∧ hd = nI h) : hd.toNatClampNeg = h := by rw [e.2]; exact nI_clamp (by have := e.1; omega)
theorem Req_up {f g : Nat → Int32} (q : Req f g) (h : Nat) (v : Int32) : Req (va_up f h v) (upd g h v) := fun j hj => by
  unfold va_up upd
  by_cases e : j = h
  · rw [if_pos e, if_pos e]
  · rw [if_neg e, if_neg e]; exact q j hj
theorem Rro_up {f g : Nat → Int64} (q : Rro f g) (h : Nat) (v : Int64) : Rro (va_up f h v) (vp_updL g h v) := fun j hj => by
  unfold va_up vp_updL
  by_cases e : j = h
  · rw [if_pos e, if_pos e]; exact Or.inl rfl
  · rw [if_neg e, if_neg e]; exact q j hj
theorem Rro_dn {f g : Nat → Int64} (q : Rro f g) (h : Nat) : Rro (va_up f h MINL) (vp_updL g h (-1)) := fun j hj => by
  unfold va_up vp_updL
  by_cases e : j = h
  · rw [if_pos e, if_pos e]; exact Or.inr ⟨rfl, rfl⟩
  · rw [if_neg e, if_neg e]; exact q j hj
theorem Rop_up {f g : Nat → Int32} (q : Rop f g) (h : Nat) {v : Int32} (hv : ¬ v < 0) : Rop (va_up f h v) (upd g h v) := fun j hj => by
  unfold va_up upd
  by_cases e : j = h
  · rw [if_pos e, if_pos e]; exact ⟨rfl, hv⟩
  · rw [if_neg e, if_neg e]; exact q j hj
theorem Rse_up {f g : Nat → Int32} (q : Rse f g) (h : Nat) {v : Int32} (hv : v = 1 ∨ v = 2 ∨ v = 3) : Rse (va_up f h v) (upd g h v) := fun j hj => by
  unfold va_up upd
  by_cases e : j = h
  · rw [if_pos e, if_pos e]; exact ⟨rfl, hv⟩
  · rw [if_neg e, if_neg e]; exact q j hj
theorem all4 {P : Nat → Prop} (a : P 0) (b : P 1) (c : P 2) (d : P 3) : ∀ j, j < 4 → P j
  | 0, _ => a
  | 1, _ => b
  | 2, _ => c
  | 3, _ => d
  | n + 4, h => absurd h (by omega)
theorem one3 {p : Int32} (h0 : ¬ p < 1) (h1 : p ≤ 3) : p = 1 ∨ p = 2 ∨ p = 3 := by
  have a : (1 : Int) ≤ p.toInt := i_nlt h0
  have b : p.toInt ≤ 3 := i_le h1
  rcases (show p.toInt = 1 ∨ p.toInt = 2 ∨ p.toInt = 3 by omega) with e | e | e
  · exact Or.inl (Int32.toInt_inj.1 e)
  · exact Or.inr (Or.inl (Int32.toInt_inj.1 e))
  · exact Or.inr (Or.inr (Int32.toInt_inj.1 e))
theorem made_eq {made : Int32} {tim : Int64} {lv : Nat → Option Nat} {mtr : Nat → Int32} (hL : ∀ j, j < 21 → (lv j = none ↔ ¬ 0 < mtr j)) (cod : Int32) (mt : Int64) (hd mmd typ rd giv us : Int32) (p1 : Int32) : (F_X5_madeLevel made tim lv p1 = none ∧ F_X6_isMade cod mt hd mmd typ rd giv us mtr p1 = 0) ∨ ∃ y, F_X5_madeLevel made tim lv p1 = some y ∧ ¬ F_X6_isMade cod mt hd mmd typ rd giv us mtr p1 = 0 ∧ vp_in p1 21 ∧ ¬ p1 < 1 ∧ ¬ 20 < p1 ∧ 0 < mtr p1.toNatClampNeg := by
  unfold F_X5_madeLevel F_X6_isMade
  by_cases c1 : p1 < 1
  · rw [if_pos c1, if_pos c1]; exact Or.inl ⟨rfl, rfl⟩
  · rw [if_neg c1, if_neg c1]
    by_cases c2 : p1 ≤ 20
    · have c3 : ¬ 20 < p1 := fun q => by have a := i_lt q; have b := i_le c2; omega
      rw [if_pos c2, if_neg c3]
      have hp := in_lw c1 c2
      have hj := hL _ (hi_lt hp)
      by_cases m : 0 < mtr p1.toNatClampNeg
      · have m2 : ¬ mtr p1.toNatClampNeg ≤ 0 := fun q => by have a := i_lt m; have b := i_le q; omega
        rw [if_neg m2]
        cases e : lv p1.toNatClampNeg with
        | none => exact absurd m (hj.mp e)
        | some y => exact Or.inr ⟨y, rfl, by decide, hp, c1, c3, m⟩
      · rw [if_pos (i32_le (i_nlt m)), hj.mpr m]; exact Or.inl ⟨rfl, rfl⟩
    · have c3 : 20 < p1 := i_not c2
      rw [if_neg c2, if_pos c3]; exact Or.inl ⟨rfl, rfl⟩
theorem in_lt' {x M : Int32} {n : Nat} (h : vp_in x n) (hM : M.toInt = n) : x < M := i32_lt (by have := (vp_in_iff.mp h).2; omega)
theorem lu_eq {num ses : Int32} {rol : Int64} {opn awl aws oct ksf ou : Int32} {lk : Nat → Int64} {p1 : Int32} (hp : vp_in p1 21) : F_X3_lockedUntil num ses rol opn awl aws oct ksf ou lk p1 = lk p1.toNatClampNeg := (if_neg (in_n0 hp)).trans (if_pos (in_lt' hp rfl))
theorem ix84 {h : Nat} {p1 : Int32} (hh : h < 4) (hp : vp_in p1 21) : ((21 : Int32) * nI h + p1).toNatClampNeg = 21 * h + p1.toNatClampNeg := by
  obtain ⟨b, hb, rfl⟩ := vp_in_of hp (by decide)
  rw [show (21 : Int32) = nI 21 from rfl, pk_mul, nI_add, nI_clamp (by omega), nI_clamp (by omega)]
theorem ixh {h : Nat} {hd p1 : Int32} (e : h < 4 ∧ hd = nI h) (hp : vp_in p1 21) : ((21 : Int32) * hd + p1).toNatClampNeg = 21 * h + p1.toNatClampNeg := by rw [e.2]; exact ix84 e.1 hp
theorem minl_lt {x : Int64} : ¬ x < MINL := fun q => by
  have a := L_lt q
  have b := (fb_rngL x).1
  have c : MINL.toInt = -9223372036854775808 := rfl
  omega
theorem tiN (x : Int32) : x.toInt = (x.toBitVec.toNat : Int) ∨ x.toInt = (x.toBitVec.toNat : Int) - 4294967296 := by
  have a : x.toInt = x.toBitVec.toInt := rfl
  rw [a, BitVec.toInt_eq_toNat_cond]
  split
  · exact Or.inl rfl
  · exact Or.inr rfl
theorem i8eq {a b : Int32} (h : a.toInt % 256 = b.toInt % 256) : a.toInt8 = b.toInt8 := by
  apply Int8.toInt_inj.mp
  rw [Int32.toInt_toInt8, Int32.toInt_toInt8]
  have h' : a.toInt % ((2 ^ 8 : Nat) : Int) = b.toInt % ((2 ^ 8 : Nat) : Int) := h
  simp only [Int.bmod, h']
theorem int_nI {x : Int32} {M : Nat} (h : M < 2 ^ 32) : x = nI M ↔ x.toBitVec.toNat = M := ⟨fun e => by rw [e]; exact pk_tn h, fun e => Int32.toBitVec_inj.1 (BitVec.eq_of_toNat_eq (e.trans (pk_tn h).symm))⟩
theorem odd_eq (x : Int32) : (x &&& 1) = 1 ↔ ¬ (x - x / 2 * 2) = 0 := by
  have a : x &&& 1 = nI (x.toBitVec.toNat % 2) := pk_and x 1 rfl
  have b := tiN x
  have r := fb_rng x
  have e1 : (x / 2).toInt = x.toInt.tdiv 2 := Int32.toInt_div_of_ne_right x 2 (by decide)
  have e0 : x.toInt - x.toInt.tdiv 2 * 2 = x.toInt % 2 ∨ (x.toInt < 0 ∧ x.toInt % 2 = 1 ∧ x.toInt - x.toInt.tdiv 2 * 2 = x.toInt % 2 - 2) := by
    rw [Int.tdiv_eq_ediv]
    split
    · omega
    · rename_i h
      have e : Int.sign 2 = 1 := rfl
      rw [e]; omega
  have e2 : (x / 2 * 2).toInt = x.toInt.tdiv 2 * 2 := by
    have t : (2 : Int32).toInt = 2 := rfl
    rw [fb_mulI (by rw [e1, t]; omega) (by rw [e1, t]; omega), e1, t]
  have e3 : (x - x / 2 * 2).toInt = x.toInt - x.toInt.tdiv 2 * 2 := by rw [fb_subI (by rw [e2]; omega) (by rw [e2]; omega), e2]
  have o : (1 : Int32) = nI 1 := rfl
  rw [a, o, nI_eq (by omega) (by decide)]
  constructor
  · intro q z
    have z' : (x - x / 2 * 2).toInt = 0 := by rw [z]; rfl
    omega
  · intro q
    have z' : (x - x / 2 * 2).toInt ≠ 0 := fun z => q (Int32.toInt_inj.1 z)
    omega
theorem sh8 (x s : Int32) (k : Nat) (hk : k = 0 ∨ k = 8 ∨ k = 16 ∨ k = 24) (h1 : ((s &&& 31).toBitVec.smod 32).toNat = k) (h2 : ((s.toUInt32 &&& Int32.toUInt32 31).toBitVec % 32).toNat = k) : ((x.toUInt32 >>> (s.toUInt32 &&& Int32.toUInt32 31)).toInt32).toInt8 = (x >>> (s &&& 31)).toInt8 := by
  apply i8eq
  have a := pk_shr x (s &&& 31) k h1
  have b := pk_ushr x s k h2
  rw [Int.shiftRight_eq_div_pow] at a
  have c := tiN ((x.toUInt32 >>> (s.toUInt32 &&& Int32.toUInt32 31)).toInt32)
  have d := tiN x
  have f := x.toBitVec.isLt
  rw [b] at c
  rw [a]
  rcases hk with rfl | rfl | rfl | rfl <;> omega
theorem by_tab : ∀ b : Fin 256, b.val = b.val * 16843009 / 256 % 256 ∧ b.val = b.val * 16843009 / 65536 % 256 ∧ b.val = b.val * 16843009 / 16777216 % 256 := by decide +kernel
theorem by_forth {N : Nat} (h : N = N % 256 * 16843009) : N % 256 = N / 256 % 256 ∧ N % 256 = N / 65536 % 256 ∧ N % 256 = N / 16777216 % 256 := by
  have t := by_tab ⟨N % 256, Nat.mod_lt _ (by decide)⟩
  dsimp only at t
  rw [← h] at t
  exact t
theorem by_back {N : Nat} (f : N < 2 ^ 32) (c1 : N % 256 = N / 256 % 256) (c2 : N % 256 = N / 65536 % 256) (c3 : N % 256 = N / 16777216 % 256) : N = N % 256 * 16843009 := by
  have f' : N < 4294967296 := f
  have d1 : N / 256 / 256 = N / 65536 := Nat.div_div_eq_div_mul N 256 256
  have d2 : N / 65536 / 256 = N / 16777216 := Nat.div_div_eq_div_mul N 65536 256
  have e0 := Nat.div_add_mod N 256
  have e1 := Nat.div_add_mod (N / 256) 256
  have e2 := Nat.div_add_mod (N / 65536) 256
  have e3 : N / 16777216 < 256 := by omega
  have e4 : N / 16777216 % 256 = N / 16777216 := Nat.mod_eq_of_lt e3
  rw [d1] at e1
  rw [d2] at e2
  rw [← c1] at e1
  rw [← c2] at e2
  rw [e4] at c3
  rw [← c3] at e2
  generalize N % 256 = b at *
  generalize N / 65536 = q2 at *
  generalize N / 256 = q1 at *
  omega
theorem plain_eq (x : Int32) : F_X5_isPlain x = F_X6_isPlain x := by
  have f := x.toBitVec.isLt
  have e0 : x &&& 255 = nI (x.toBitVec.toNat % 256) := pk_and x 8 rfl
  have es : ∀ (s : Int32) (k D : Nat), (k = 8 ∧ D = 256 ∨ k = 16 ∧ D = 65536 ∨ k = 24 ∧ D = 16777216) → ((s &&& 31).toBitVec.smod 32).toNat = k → (x >>> (s &&& 31)) &&& 255 = nI (x.toBitVec.toNat / D % 256) := fun s k D hk hs => by
    have a := pk_shr x (s &&& 31) k hs
    rw [Int.shiftRight_eq_div_pow] at a
    have c := tiN (x >>> (s &&& 31))
    have d := tiN x
    have g : (x >>> (s &&& 31)) &&& 255 = nI ((x >>> (s &&& 31)).toBitVec.toNat % 256) := pk_and _ 8 rfl
    rw [g]
    have g2 := (x >>> (s &&& 31)).toBitVec.isLt
    have e : (x >>> (s &&& 31)).toBitVec.toNat % 256 = x.toBitVec.toNat / D % 256 := by
      rcases hk with ⟨rfl, rfl⟩ | ⟨rfl, rfl⟩ | ⟨rfl, rfl⟩ <;> omega
    rw [e]
  unfold F_X5_isPlain F_X6_isPlain
  rw [es 8 8 256 (Or.inl ⟨rfl, rfl⟩) rfl, es 16 16 65536 (Or.inr (Or.inl ⟨rfl, rfl⟩)) rfl, es 24 24 16777216 (Or.inr (Or.inr ⟨rfl, rfl⟩)) rfl, e0, show (16843009 : Int32) = nI 16843009 from rfl, pk_mul]
  have i1 : x = nI (x.toBitVec.toNat % 256 * 16843009) ↔ x.toBitVec.toNat = x.toBitVec.toNat % 256 * 16843009 := int_nI (by omega)
  have q1 : nI (x.toBitVec.toNat % 256) = nI (x.toBitVec.toNat / 256 % 256) ↔ x.toBitVec.toNat % 256 = x.toBitVec.toNat / 256 % 256 := nI_eq (by omega) (by omega)
  have q2 : nI (x.toBitVec.toNat % 256) = nI (x.toBitVec.toNat / 65536 % 256) ↔ x.toBitVec.toNat % 256 = x.toBitVec.toNat / 65536 % 256 := nI_eq (by omega) (by omega)
  have q3 : nI (x.toBitVec.toNat % 256) = nI (x.toBitVec.toNat / 16777216 % 256) ↔ x.toBitVec.toNat % 256 = x.toBitVec.toNat / 16777216 % 256 := nI_eq (by omega) (by omega)
  by_cases c1 : x.toBitVec.toNat % 256 = x.toBitVec.toNat / 256 % 256
  · by_cases c2 : x.toBitVec.toNat % 256 = x.toBitVec.toNat / 65536 % 256
    · by_cases c3 : x.toBitVec.toNat % 256 = x.toBitVec.toNat / 16777216 % 256
      · rw [if_pos (q1.mpr c1), if_pos (q2.mpr c2), if_pos (q3.mpr c3), if_pos (i1.mpr (by_back f c1 c2 c3))]
      · rw [if_pos (q1.mpr c1), if_pos (q2.mpr c2), if_neg (fun z => c3 (q3.mp z)), if_neg (fun z => c3 (by_forth (i1.mp z)).2.2)]
    · rw [if_pos (q1.mpr c1), if_neg (fun z => c2 (q2.mp z)), if_neg (fun z => c2 (by_forth (i1.mp z)).2.1)]
  · rw [if_neg (fun z => c1 (q1.mp z)), if_neg (fun z => c1 (by_forth (i1.mp z)).1)]
theorem plain_nz {x : Int32} (h : F_X5_isPlain x = 0) : ¬ x = 0 := fun e => by
  rw [e] at h
  exact absurd h (by decide)
theorem has_loop {cod : Int32} {mt : Int64} {hd mmd typ rd us : Int32} {g : Nat} (hg : g ≤ 255) {seeds gv : Nat → Int32} (q : ∀ j, j < g → seeds j = gv j) (x : Int32) : ∀ m n1 n2 k : Nat, k + m = g → m < n1 → m < n2 → FL_X0_has_2 (nI g) seeds x n1 (nI k) = FL_X6_wasGiven_2 cod mt hd mmd typ rd (nI g) us gv x n2 (nI k)
  | 0, n1 + 1, n2 + 1, k, e, _, _ => (if_pos ((nI_leI (by omega) (by omega)).mpr (by omega))).trans (if_pos ((nI_leI (by omega) (by omega)).mpr (by omega))).symm
  | m + 1, n1 + 1, n2 + 1, k, e, h1, h2 => by
    have c1 : ¬ nI g ≤ nI k := fun z => by have := (nI_leI (by omega) (by omega)).mp z; omega
    have c2 : ¬ (256 : Int32) ≤ nI k := fun z => by have := (nI_leI (by decide) (by omega) : nI 256 ≤ nI k ↔ _).mp z; omega
    refine (if_neg c1).trans ((if_neg c2).trans (Eq.trans ?_ (if_neg c1).symm))
    rw [nI_clamp (by omega), q k (by omega), nI_1]
    by_cases c : gv k = x
    · rw [if_pos c, if_pos c]
    · rw [if_neg c, if_neg c]
      exact has_loop hg q x m n1 n2 (k + 1) (by omega) (by omega) (by omega)
  | 0, 0, _, _, _, h, _ => absurd h (Nat.not_lt_zero _)
  | m + 1, 0, _, _, _, h, _ => absurd h (Nat.not_lt_zero _)
  | 0, n1 + 1, 0, _, _, _, h => absurd h (Nat.not_lt_zero _)
  | m + 1, n1 + 1, 0, _, _, _, h => absurd h (Nat.not_lt_zero _)
theorem has_eq {cod : Int32} {mt : Int64} {hd mmd typ rd us : Int32} {g : Nat} (hg : g ≤ 255) {seeds gv : Nat → Int32} (q : ∀ j, j < g → seeds j = gv j) (x : Int32) : F_X0_has (nI g) seeds x = F_X6_wasGiven cod mt hd mmd typ rd (nI g) us gv x := has_loop hg q x g 258 2002 0 (by omega) (by omega) (by omega)
theorem first_eq {f z : Nat} (hf : f ≤ 200) {nums : Nat → Int32} : ∃ f' : Nat, f' ≤ 200 ∧ (∀ j, (f' + j) % 200 = (f + (j + 1)) % 200) ∧ F_X2_takeFirst (nI f) (nI (z + 1)) nums = (nums (f % 200), (nI f', nI z)) := by
  unfold F_X2_takeFirst
  by_cases c : f < 200
  · have c1 : nI f < 200 := (nI_ltI (by omega) (by decide) : nI f < nI 200 ↔ _).mpr c
    refine ⟨f + 1, by omega, fun j => by rw [show f + 1 + j = f + (j + 1) by omega], ?_⟩
    rw [if_pos c1, nI_clamp (by omega), nI_1, nI_pred, Nat.mod_eq_of_lt c]
  · have c1 : ¬ nI f < 200 := fun q => c ((nI_ltI (by omega) (by decide) : nI f < nI 200 ↔ _).mp q)
    have e : f = 200 := by omega
    subst e
    refine ⟨1, by omega, fun j => by omega, ?_⟩
    rw [if_neg c1, nI_pred]
    rfl
theorem take_eq {first size : Int32} {nums seeds : Nat → Int32} {cod : Int32} {mt : Int64} {hd mmd us rd0 p1 : Int32} {tp gv se : Nat → Int32} {ro : Nat → Int64} {opv aw sd ot : Nat → Int32} {lo : Nat → Int64} {g T : Nat} (hg : g ≤ 255) (hT : T < 1000) (q : ∀ j, j < g → seeds j = gv j) : ∀ (z n1 n2 f d : Nat), z < n1 → z < n2 → f ≤ 200 → z ≤ 200 → d + z = T → (∀ j, j < z → nums ((f + j) % 200) = tp (d + j)) → ∃ (r1 : Int32) (f' z' : Nat) (r2 : Int32) (d' : Nat) (G : Int32) (gv' aw' sd' ot' : Nat → Int32), FL_X2_takeSeed_5 first size nums (nI g) seeds n1 (nI z) (nI f) (nI z) = (r1, (nI f', nI z')) ∧ FL_X6_asked_104 cod mt hd mmd (nI T) rd0 (nI g) us tp gv se ro opv aw sd ot lo p1 n2 (nI d) = (r2, (nI d', G, gv', aw', sd', ot')) ∧ f' ≤ 200 ∧ d' + z' = T ∧ z' ≤ z ∧ (∀ j, j < z' → nums ((f' + j) % 200) = tp (d' + j)) ∧ ((r1 = 0 ∧ r2 = -34 ∧ G = nI g ∧ gv' = gv ∧ aw' = aw ∧ sd' = sd ∧ ot' = ot) ∨ (¬ r1 = 0 ∧ r2 = 4 ∧ z' + 1 ≤ z ∧ G = nI (g + 1) ∧ gv' = upd gv g r1 ∧ aw' = upd aw hd.toNatClampNeg p1 ∧ sd' = upd sd hd.toNatClampNeg r1 ∧ ot' = upd ot hd.toNatClampNeg r1))
  | 0, n1 + 1, n2 + 1, f, d, _, _, hf, _, e, hr => by
    refine ⟨0, f, 0, -34, d, nI g, gv, aw, sd, ot, if_pos (by decide), ?_, hf, e, Nat.le_refl _, hr, Or.inl ⟨rfl, rfl, rfl, rfl, rfl, rfl, rfl⟩⟩
    have e' : d = T := by omega
    subst e'
    exact (if_pos ((nI_leI (by omega) (by omega)).mpr (Nat.le_refl _))).trans (if_pos rfl)
  | z + 1, n1 + 1, n2 + 1, f, d, h1, h2, hf, hz, e, hr => by
    obtain ⟨f', hf', hj, ef⟩ := first_eq (z := z) hf (nums := nums)
    have c1 : ¬ nI (z + 1) ≤ 0 := nI_nle (by omega) (by omega)
    have c2 : ¬ nI T ≤ nI d := fun w => by have := (nI_leI (by omega) (by omega)).mp w; omega
    have c3 : ¬ nI d = nI T := fun w => by have := (nI_eq (by omega) (by omega)).mp w; omega
    have hv : nums (f % 200) = tp d := hr 0 (by omega)
    have hr' : ∀ j, j < z → nums ((f' + j) % 200) = tp (d + 1 + j) := fun j hjz => by
      rw [hj j, hr (j + 1) (by omega), show d + (j + 1) = d + 1 + j by omega]
    have E1 : FL_X2_takeSeed_5 first size nums (nI g) seeds (n1 + 1) (nI (z + 1)) (nI f) (nI (z + 1)) = (if (F_X5_isPlain (tp d)) = 0 then (if (F_X0_has (nI g) seeds (tp d)) = 0 then (tp d, (nI f', nI z)) else (FL_X2_takeSeed_5 first size nums (nI g) seeds n1 (nI z) (nI f') (nI z))) else (FL_X2_takeSeed_5 first size nums (nI g) seeds n1 (nI z) (nI f') (nI z))) := by
      refine (if_neg c1).trans ?_
      rw [ef, hv, pk_m1]
      rfl
    have E2 : FL_X6_asked_104 cod mt hd mmd (nI T) rd0 (nI g) us tp gv se ro opv aw sd ot lo p1 (n2 + 1) (nI d) = (if (F_X5_isPlain (tp d)) = 0 then (if (F_X0_has (nI g) seeds (tp d)) = 0 then ((4 : Int32), (nI (d + 1), nI (g + 1), upd gv g (tp d), upd aw hd.toNatClampNeg p1, upd sd hd.toNatClampNeg (tp d), upd ot hd.toNatClampNeg (tp d))) else (FL_X6_asked_104 cod mt hd mmd (nI T) rd0 (nI g) us tp gv se ro opv aw sd ot lo p1 n2 (nI (d + 1)))) else (FL_X6_asked_104 cod mt hd mmd (nI T) rd0 (nI g) us tp gv se ro opv aw sd ot lo p1 n2 (nI (d + 1)))) := by
      refine (if_neg c2).trans ?_
      rw [if_neg c3, nI_clamp (n := d) (by omega), nI_clamp (n := g) (by omega), ← plain_eq, ← has_eq (cod := cod) (mt := mt) (hd := hd) (mmd := mmd) (typ := nI T) (rd := nI d) (us := us) hg q, nI_1, nI_1]
    rw [E1, E2]
    have rc := take_eq (first := first) (size := size) (nums := nums) (seeds := seeds) (cod := cod) (mt := mt) (hd := hd) (mmd := mmd) (us := us) (rd0 := rd0) (p1 := p1) (tp := tp) (gv := gv) (se := se) (ro := ro) (opv := opv) (aw := aw) (sd := sd) (ot := ot) (lo := lo) hg hT q z n1 n2 f' (d + 1) (by omega) (by omega) hf' (by omega) (by omega) hr'
    by_cases k1 : F_X5_isPlain (tp d) = 0
    · by_cases k2 : F_X0_has (nI g) seeds (tp d) = 0
      · rw [if_pos k1, if_pos k2, if_pos k1, if_pos k2]
        exact ⟨tp d, f', z, 4, d + 1, nI (g + 1), _, _, _, _, rfl, rfl, hf', by omega, by omega, hr', Or.inr ⟨plain_nz k1, rfl, Nat.le_refl _, rfl, rfl, rfl, rfl, rfl⟩⟩
      · rw [if_pos k1, if_neg k2, if_pos k1, if_neg k2]
        obtain ⟨r1, a1, z1, r2, d1, G, g1, w1, s1, o1, x1, x2, x3, x4, x5, x6, x7⟩ := rc
        refine ⟨r1, a1, z1, r2, d1, G, g1, w1, s1, o1, x1, x2, x3, x4, by omega, x6, ?_⟩
        rcases x7 with x7 | ⟨y1, y2, y3, y4⟩
        · exact Or.inl x7
        · exact Or.inr ⟨y1, y2, by omega, y4⟩
    · rw [if_neg k1, if_neg k1]
      obtain ⟨r1, a1, z1, r2, d1, G, g1, w1, s1, o1, x1, x2, x3, x4, x5, x6, x7⟩ := rc
      refine ⟨r1, a1, z1, r2, d1, G, g1, w1, s1, o1, x1, x2, x3, x4, by omega, x6, ?_⟩
      rcases x7 with x7 | ⟨y1, y2, y3, y4⟩
      · exact Or.inl x7
      · exact Or.inr ⟨y1, y2, by omega, y4⟩
  | 0, 0, _, _, _, h, _, _, _, _, _ => absurd h (Nat.not_lt_zero _)
  | z + 1, 0, _, _, _, h, _, _, _, _, _ => absurd h (Nat.not_lt_zero _)
  | 0, n1 + 1, 0, _, _, _, h, _, _, _, _ => absurd h (Nat.not_lt_zero _)
  | z + 1, n1 + 1, 0, _, _, _, h, _, _, _, _ => absurd h (Nat.not_lt_zero _)
theorem note_eq {n h : Nat} {kept cnt : Int32} {prt : Nat → Int32} {us : Int32} {ub ul ua : Nat → Int32} (q : Rlg n kept cnt prt us ub ul ua) (hn : n ≤ 511) {num : Nat → Int32} {hd : Int32} (hN : Rnum num) (e : h < 4 ∧ hd = nI h) (cod : Int32) (mt : Int64) (mmd typ rd giv p1 r : Int32) : (F_X6_note cod mt hd mmd typ rd giv us ub ul ua p1 r).1 = r ∧ Rlg (n + 1) (F_X4_add kept cnt prt (num h) p1 r).1 (F_X4_add kept cnt prt (num h) p1 r).2.1 (F_X4_add kept cnt prt (num h) p1 r).2.2 (F_X6_note cod mt hd mmd typ rd giv us ub ul ua p1 r).2.1 (F_X6_note cod mt hd mmd typ rd giv us ub ul ua p1 r).2.2.1 (F_X6_note cod mt hd mmd typ rd giv us ub ul ua p1 r).2.2.2.1 (F_X6_note cod mt hd mmd typ rd giv us ub ul ua p1 r).2.2.2.2 := by
  obtain ⟨u, hu, rfl, rfl, rfl, hp⟩ := q
  have en : num h = hd + 1 := by rw [hN h e.1, e.2]; exact (nI_1 h).symm
  unfold F_X6_note F_X4_add
  by_cases c : u < 300
  · have m : min u 300 = u := by omega
    rw [m] at hp ⊢
    have c1 : nI u < 300 := (nI_ltI (by omega) (by decide) : nI u < nI 300 ↔ _).mpr c
    have c2 : ¬ (300 : Int32) ≤ nI u := fun z => by have := (nI_leI (by decide) (by omega) : nI 300 ≤ nI u ↔ _).mp z; omega
    have i0 : (nI u * 3).toNatClampNeg = 3 * u := by rw [show (3 : Int32) = nI 3 from rfl, pk_mul, nI_clamp (by omega)]; omega
    have i1 : (nI u * 3 + 1).toNatClampNeg = 3 * u + 1 := by rw [show (3 : Int32) = nI 3 from rfl, pk_mul, nI_1, nI_clamp (by omega)]; omega
    have i2 : (nI u * 3 + 2).toNatClampNeg = 3 * u + 2 := by rw [show (3 : Int32) = nI 3 from rfl, show (2 : Int32) = nI 2 from rfl, pk_mul, nI_add, nI_clamp (by omega)]; omega
    rw [if_pos c1, if_neg c2, i0, i1, i2, nI_clamp (by omega), nI_1, en]
    refine ⟨rfl, u + 1, by omega, rfl, rfl, ?_, fun j hj => ?_⟩
    · show nI (u + 1) = nI (min (u + 1) 300)
      rw [show min (u + 1) 300 = u + 1 by omega]
    · have hj2 : j < u + 1 := by omega
      by_cases ej : j = u
      · subst ej
        refine ⟨?_, ?_, ?_⟩
        · show upd (upd (upd prt (3 * j) (hd + 1)) (3 * j + 1) p1) (3 * j + 2) r (3 * j) = upd ub j (hd + 1) j
          rw [pk_un (by omega), pk_un (by omega), pk_us, pk_us]
        · show upd (upd (upd prt (3 * j) (hd + 1)) (3 * j + 1) p1) (3 * j + 2) r (3 * j + 1) = upd ul j p1 j
          rw [pk_un (by omega), pk_us, pk_us]
        · show upd (upd (upd prt (3 * j) (hd + 1)) (3 * j + 1) p1) (3 * j + 2) r (3 * j + 2) = upd ua j r j
          rw [pk_us, pk_us]
      · obtain ⟨y0, y1, y2⟩ := hp j (by omega)
        refine ⟨?_, ?_, ?_⟩
        · show upd (upd (upd prt (3 * u) (hd + 1)) (3 * u + 1) p1) (3 * u + 2) r (3 * j) = upd ub u (hd + 1) j
          rw [pk_un (by omega), pk_un (by omega), pk_un (by omega), pk_un ej, y0]
        · show upd (upd (upd prt (3 * u) (hd + 1)) (3 * u + 1) p1) (3 * u + 2) r (3 * j + 1) = upd ul u p1 j
          rw [pk_un (by omega), pk_un (by omega), pk_un (by omega), pk_un ej, y1]
        · show upd (upd (upd prt (3 * u) (hd + 1)) (3 * u + 1) p1) (3 * u + 2) r (3 * j + 2) = upd ua u r j
          rw [pk_un (by omega), pk_un (by omega), pk_un (by omega), pk_un ej, y2]
  · have m : min u 300 = 300 := by omega
    have c1 : ¬ nI (min u 300) < 300 := by rw [m]; decide
    have c2 : (300 : Int32) ≤ nI u := (nI_leI (by decide) (by omega) : nI 300 ≤ nI u ↔ _).mpr (by omega)
    rw [if_neg c1, if_pos c2, nI_1]
    refine ⟨rfl, u + 1, by omega, rfl, rfl, ?_, fun j hj => hp j (by omega)⟩
    show nI (min u 300) = nI (min (u + 1) 300)
    rw [m, show min (u + 1) 300 = 300 by omega]
theorem key_loop {lnum lkind ltries : Int32} {ldelay : Int64} {p1 : Int32} {cod : Int32} {mt : Int64} {hd mmd typ rd giv us : Int32} {mkd : Nat → Int32} {q1 q2 : Int32} : ∀ (n : Nat) (v k : Int32), FL_X1_shiftedKeyTo_9 lnum lkind ltries ldelay p1 n v k = FL_X6_keyTo_46 cod mt hd mmd typ rd giv us mkd q1 q2 n v k
  | 0, _, _ => rfl
  | n + 1, v, k => by
    by_cases c : 32 ≤ k
    · exact (if_pos c).trans (if_pos c).symm
    · refine (if_neg c).trans (Eq.trans ?_ (if_neg c).symm)
      by_cases o : (v &&& 1) = 1
      · rw [if_pos o, if_neg ((odd_eq v).mp o)]; exact key_loop n _ _
      · rw [if_neg o, if_pos (Classical.not_not.mp (fun z => o ((odd_eq v).mpr z)))]; exact key_loop n _ _
theorem key_eq {ltries : Int32} {ldelay : Int64} {p1 s : Int32} {cod : Int32} {mt : Int64} {hd mmd typ rd giv us : Int32} {mkd : Nat → Int32} : F_X1_keyTo p1 (mkd p1.toNatClampNeg) ltries ldelay s = F_X6_keyTo cod mt hd mmd typ rd giv us mkd p1 s := by
  unfold F_X1_keyTo F_X6_keyTo F_X1_shiftedKeyTo
  rw [key_loop (cod := cod) (mt := mt) (hd := hd) (mmd := mmd) (typ := typ) (rd := rd) (giv := giv) (us := us) (mkd := mkd) (q1 := p1) (q2 := s)]
theorem ses_eq {s p1 : Int32} (hs : s = 1 ∨ s = 2 ∨ s = 3) (lkind ltries : Int32) (ldelay : Int64) : F_X1_isForSession p1 lkind ltries ldelay s = 0 ↔ ¬ (if 11 ≤ p1 then (3 : Int32) else 2) ≤ s := by
  unfold F_X1_isForSession
  have key : (10 < p1) ↔ (11 ≤ p1) := ⟨fun z => i32_le (by have a : (10 : Int) < p1.toInt := i_lt z; show (11 : Int) ≤ p1.toInt; omega), fun z => i32_lt (by have a : (11 : Int) ≤ p1.toInt := i_le z; show (10 : Int) < p1.toInt; omega)⟩
  by_cases c : 11 ≤ p1
  · rw [if_pos c]
    rcases hs with rfl | rfl | rfl
    · exact ⟨fun _ => by decide, fun _ => rfl⟩
    · exact ⟨fun _ => by decide, fun _ => (if_neg (by decide)).trans ((if_pos rfl).trans (if_pos (key.mpr c)))⟩
    · exact ⟨fun z => absurd ((if_pos rfl).symm.trans z) (by decide), fun z => absurd (by decide) z⟩
  · rw [if_neg c]
    rcases hs with rfl | rfl | rfl
    · exact ⟨fun _ => by decide, fun _ => rfl⟩
    · exact ⟨fun z => absurd (((if_neg (by decide)).trans ((if_pos rfl).trans (if_neg (fun w => c (key.mp w))))).symm.trans z) (by decide), fun z => absurd (by decide) z⟩
    · exact ⟨fun z => absurd ((if_pos rfl).symm.trans z) (by decide), fun z => absurd (by decide) z⟩
theorem cnt_loop {cod : Int32} {mt : Int64} {hd mmd typ rd giv us : Int32} {ot : Nat → Int32} {p1 : Int32} {V : Nat} (hV : V < 4294967296) : ∀ (m n1 n2 j P : Nat), j + m = 9 → P = 10 ^ (j + 1) → m < n1 → m < n2 → ∃ D : Nat, 1 ≤ D ∧ D ≤ 10 ∧ FL_X5_countDigits_6 (lN V) n1 (nI (j + 1)) (lN P) = nI D ∧ FL_X6_digit_25 cod mt hd mmd typ rd giv us ot p1 n2 (nI (j + 1)) (lN (V / P)) = (if p1 < 0 then ((0 : Int32), (1 : Int32)) else (if p1 < nI D then (FL_X6_digit_80 cod mt hd mmd typ rd giv us ot p1 12 ((((ot (hd : Int32).toNatClampNeg) : Int32).toInt64) &&& 4294967295) (nI D - 1)) else (0, 1)))
  | m, n1 + 1, n2 + 1, j, P, e, eP, h1, h2 => by
    have hP : 0 < P := by rw [eP]; exact Nat.pow_pos (by decide)
    have hP2 : P ≤ 10000000000 := by rw [eP]; exact Nat.le_trans (Nat.pow_le_pow_right (by decide) (show j + 1 ≤ 10 by omega)) (by decide)
    have z0 : (0 : Int64) = lN 0 := rfl
    have zt : lN (V / P) = lN (V / P) := rfl
    have hq : V / P ≤ V := Nat.div_le_self _ _
    by_cases c : P ≤ V
    · have m0 : ∃ m', m = m' + 1 := by
        rcases m with _ | m'
        · have : j = 9 := by omega
          subst this; omega
        · exact ⟨m', rfl⟩
      obtain ⟨m', rfl⟩ := m0
      have c1 : ¬ 0 < lg_cmp (lN P) (lN V) := fun q => by have := (pk_lLT (by omega) (by omega)).mp (lg_gt.mp q); omega
      have c2 : ¬ (10 : Int32) ≤ nI (j + 1) := fun q => by have := (nI_leI (by decide) (by omega) : nI 10 ≤ nI (j + 1) ↔ _).mp q; omega
      have hpos : 1 ≤ V / P := (Nat.le_div_iff_mul_le hP).mpr (by omega)
      have c3 : ¬ lg_cmp (lN (V / P)) 0 ≤ 0 := fun q => by
        rw [z0] at q
        have := (pk_lLE (by omega) (by omega)).mp (lg_le.mp q); omega
      obtain ⟨D, d1, d2, d3, d4⟩ := cnt_loop (cod := cod) (mt := mt) (hd := hd) (mmd := mmd) (typ := typ) (rd := rd) (giv := giv) (us := us) (ot := ot) (p1 := p1) hV m' n1 n2 (j + 1) (P * 10) (by omega) (by rw [eP, Nat.pow_succ 10 (j + 1)]) (by omega) (by omega)
      refine ⟨D, d1, d2, (if_neg c1).trans ((if_neg c2).trans ?_), (if_neg c3).trans ?_⟩
      · rw [nI_1, show lN P * 10 = lN (P * 10) from lN_mul P 10]; exact d3
      · rw [nI_1, show (10 : Int64) = lN 10 from rfl, pk_lDiv (by omega) (by decide) (by decide), Nat.div_div_eq_div_mul]; exact d4
    · have c1 : 0 < lg_cmp (lN P) (lN V) := lg_gt.mpr ((pk_lLT (by omega) (by omega)).mpr (by omega))
      have hpos : V / P = 0 := Nat.div_eq_of_lt (by omega)
      refine ⟨j + 1, by omega, by omega, if_pos c1, ?_⟩
      rw [hpos]
      exact if_pos (by decide)
  | _, 0, _, _, _, _, _, h, _ => absurd h (Nat.not_lt_zero _)
  | _, n1 + 1, 0, _, _, _, _, _, h => absurd h (Nat.not_lt_zero _)
theorem dig_loop {made : Int32} {tim : Int64} {num ses : Int32} {rol : Int64} {opn awl aws oct ksf ou : Int32} {cod : Int32} {mt : Int64} {hd mmd typ rd giv us : Int32} {ot : Nat → Int32} {i : Nat} (hi : i < 20) : ∀ (n c : Nat) (vv : Int64), c < 20 → c < n + i → ∃ r : Int32, FL_X5_digit_43 made tim num ses rol opn awl aws oct ksf ou (nI i) (n + 1) vv (nI c) = some r ∧ FL_X6_digit_80 cod mt hd mmd typ rd giv us ot (nI i) (n + 1) vv (nI c) = (r, 0)
  | n, c, vv, hc, h => by
    by_cases q : c ≤ i
    · have q1 : nI c ≤ nI i := (nI_leI (by omega) (by omega)).mpr q
      exact ⟨_, if_pos q1, if_pos q1⟩
    · have q1 : ¬ nI c ≤ nI i := fun z => q ((nI_leI (by omega) (by omega)).mp z)
      obtain ⟨c', rfl⟩ : ∃ c', c = c' + 1 := ⟨c - 1, by omega⟩
      obtain ⟨n', rfl⟩ : ∃ n', n = n' + 1 := ⟨n - 1, by omega⟩
      obtain ⟨r, a, b⟩ := dig_loop (made := made) (tim := tim) (num := num) (ses := ses) (rol := rol) (opn := opn) (awl := awl) (aws := aws) (oct := oct) (ksf := ksf) (ou := ou) (cod := cod) (mt := mt) (hd := hd) (mmd := mmd) (typ := typ) (rd := rd) (giv := giv) (us := us) (ot := ot) hi n' c' (vv / 10) (by omega) (by omega)
      rw [← pk_m1 c'] at a b
      exact ⟨r, (if_neg q1).trans a, (if_neg q1).trans b⟩
theorem mask_eq (x : Int32) : ∃ V : Nat, V < 4294967296 ∧ x.toInt64 &&& 4294967295 = lN V := by
  have hn : ((x.toInt64 &&& 4294967295).toBitVec.toNat) < 4294967296 := by
    have e : (x.toInt64 &&& 4294967295).toBitVec = x.toInt64.toBitVec &&& (4294967295#64) := rfl
    rw [e, BitVec.toNat_and]
    exact Nat.lt_of_le_of_lt Nat.and_le_right (by decide)
  refine ⟨(x.toInt64 &&& 4294967295).toBitVec.toNat, hn, ?_⟩
  apply Int64.toBitVec_inj.1
  apply BitVec.eq_of_toNat_eq
  show _ = (BitVec.ofNat 64 _).toNat
  rw [BitVec.toNat_ofNat, Nat.mod_eq_of_lt (by omega)]
theorem op_none {k h : Nat} {made : Int32} {tim : Int64} {lv : Nat → Option Nat} {pl : va_W} {first : Int32} {size : Int32} {nums : Nat → Int32} {gsz : Int32} {seeds : Nat → Int32} {kept : Int32} {cnt : Int32} {prt : Nat → Int32} {num : Nat → Int32} {ses : Nat → Int32} {rol : Nat → Int64} {opn : Nat → Int32} {awl : Nat → Int32} {aws : Nat → Int32} {oct : Nat → Int32} {ksf : Nat → Int32} {ou : Nat → Int32} {ut : Nat → Nat → Int32} {lk : Nat → Nat → Int64} {mt : Int64} {hd : Int32} {mmd : Int32} {typ : Int32} {rd : Int32} {giv : Int32} {us : Int32} {mkd : Nat → Int32} {mtr : Nat → Int32} {mdl : Nat → Int64} {tp : Nat → Int32} {gv : Nat → Int32} {se : Nat → Int32} {ro : Nat → Int64} {opv : Nat → Int32} {aw : Nat → Int32} {sd : Nat → Int32} {ot : Nat → Int32} {ct : Nat → Int32} {cr : Nat → Int32} {ud : Nat → Int32} {lo : Nat → Int64} {wl : Nat → Int32} {ub : Nat → Int32} {ul : Nat → Int32} {ua : Nat → Int32} (hR : RR k h made tim lv pl first size nums gsz seeds kept cnt prt num ses rol opn awl aws oct ksf ou ut lk mt hd mmd typ rd giv us mkd mtr mdl tp gv se ro opv aw sd ot ct cr ud lo wl ub ul ua) : RR (k + 1) h made tim lv pl first size nums gsz seeds kept cnt prt num ses rol opn awl aws oct ksf ou ut lk mt hd mmd typ rd giv us mkd mtr mdl tp gv se ro opv aw sd ot ct cr ud lo wl ub ul ua := by
  obtain ⟨a1, a2, a3, ⟨f, z, d, g, b1, b2, b3, b4, b5, b6, b7, b8, b9, b10, b11, b12⟩, ⟨u, c1, c2, c3, c4, c5⟩, a6, a7, a8, a9, a10, a11, a12, a13, a14, a15, a16⟩ := hR
  exact ⟨a1, a2, a3, ⟨f, z, d, g, b1, b2, b3, b4, b5, b6, b7, b8, by omega, by omega, b11, b12⟩, ⟨u, by omega, c2, c3, c4, c5⟩, a6, a7, a8, a9, a10, a11, a12, fun j hj => by
    obtain ⟨c, q1, q2⟩ := a13 j hj
    exact ⟨c, by omega, q2⟩, a14, a15, a16⟩
theorem Req_id {f g : Nat → Int32} (q : Req f g) (h : Nat) : Req (va_up f h (f h)) g := by rw [va_up_id]; exact q
theorem Rop_id {f g : Nat → Int32} (q : Rop f g) (h : Nat) : Rop (va_up f h (f h)) g := by rw [va_up_id]; exact q
theorem Rut_id {f : Nat → Nat → Int32} {g : Nat → Int32} (q : Rut f g) (h : Nat) : Rut (va_up f h (f h)) g := by rw [va_up_id]; exact q
theorem Rlk_id {f : Nat → Nat → Int64} {g : Nat → Int64} {w : Nat → Int32} (q : Rlk f g w) (h : Nat) : Rlk (va_up f h (f h)) g w := by rw [va_up_id]; exact q
theorem ask_eq {k h : Nat} {made : Int32} {tim : Int64} {lv : Nat → Option Nat} {pl : va_W} {first : Int32} {size : Int32} {nums : Nat → Int32} {gsz : Int32} {seeds : Nat → Int32} {kept : Int32} {cnt : Int32} {prt : Nat → Int32} {num : Nat → Int32} {ses : Nat → Int32} {rol : Nat → Int64} {opn : Nat → Int32} {awl : Nat → Int32} {aws : Nat → Int32} {oct : Nat → Int32} {ksf : Nat → Int32} {ou : Nat → Int32} {ut : Nat → Nat → Int32} {lk : Nat → Nat → Int64} {mt : Int64} {hd : Int32} {mmd : Int32} {typ : Int32} {rd : Int32} {giv : Int32} {us : Int32} {mkd : Nat → Int32} {mtr : Nat → Int32} {mdl : Nat → Int64} {tp : Nat → Int32} {gv : Nat → Int32} {se : Nat → Int32} {ro : Nat → Int64} {opv : Nat → Int32} {aw : Nat → Int32} {sd : Nat → Int32} {ot : Nat → Int32} {ct : Nat → Int32} {cr : Nat → Int32} {ud : Nat → Int32} {lo : Nat → Int64} {wl : Nat → Int32} {ub : Nat → Int32} {ul : Nat → Int32} {ua : Nat → Int32} (hk : k ≤ 511) (hR : RR k h made tim lv pl first size nums gsz seeds kept cnt prt num ses rol opn awl aws oct ksf ou ut lk mt hd mmd typ rd giv us mkd mtr mdl tp gv se ro opv aw sd ot ct cr ud lo wl ub ul ua) {p1 : Int32} {p2 : Int64} (hp : vp_in p1 21) (ht : 0 ≤ p2.toInt) (cod lkind ltries : Int32) (ldelay : Int64) {r1 r2 : Int32} {u1 : Int32 × Int32 × Int32 × Int32 × Int32 × Int32 × (Nat → Int32)} {u2 : Int32 × Int32 × (Nat → Int32) × (Nat → Int32) × (Nat → Int32) × (Nat → Int32)} (h1 : (r1, u1) = F_X5_askForSeed made p2 (num h) (ses h) (rol h) (opn h) (awl h) (aws h) (oct h) (ksf h) (ou h) (lk h) first size nums gsz seeds p1 lkind ltries ldelay) (h2 : (r2, u2) = F_X6_asked cod p2 hd mmd typ rd giv us tp gv se ro opv aw sd ot lo p1) : r1 = r2 ∧ Rtp (k + 1) u1.2.2.2.1 u1.2.2.2.2.1 nums u1.2.2.2.2.2.1 u1.2.2.2.2.2.2 typ u2.1 tp u2.2.1 u2.2.2.1 ∧ Req (va_up awl h u1.1) u2.2.2.2.1 ∧ Req (va_up aws h u1.2.1) u2.2.2.2.2.1 ∧ Req (va_up ou h u1.2.2.1) u2.2.2.2.2.2 := by
  have ch := ceh hR.1
  obtain ⟨a1, a2, a3, aT, a5, a6, a7, a8, a9, a10, a11, a12, a13, a14, a15, a16⟩ := op_none hR
  have hT0 := hR.2.2.2.1
  have hs := a7 h a1.1
  have ho := a9 h a1.1
  have hr := a8 h a1.1
  have hl := a16 h a1.1 p1.toNatClampNeg (hi_lt hp)
  have hlk : (0 ≤ lg_cmp p2 (lk h p1.toNatClampNeg)) ↔ (0 ≤ lg_cmp p2 (lo (21 * h + p1.toNatClampNeg))) := by
    rcases hl with ⟨w1, w2⟩ | ⟨w1, w2, w3⟩
    · rw [w2]
    · rw [w2, w3]
      exact ⟨fun _ => lg_ge.mpr (Int64.le_iff_toInt_le.mpr ht), fun _ => lg_ge.mpr (Int64.le_iff_toInt_le.mpr (fb_rngL p2).1)⟩
  have hrl : (lg_cmp p2 (rol h) < 0) ↔ (lg_cmp p2 (ro h) < 0) := by
    rcases hr with w | ⟨w1, w2⟩
    · rw [w]
    · rw [w1, w2]
      refine ⟨fun z => absurd (lg_lt.mp z) minl_lt, fun z => ?_⟩
      have q := L_lt (lg_lt.mp z)
      have m : (-1 : Int64).toInt = -1 := rfl
      rw [m] at q; omega
  have tail : ∀ {r1 r2 : Int32} {u1 : Int32 × Int32 × Int32 × Int32 × Int32 × Int32 × (Nat → Int32)} {u2 : Int32 × Int32 × (Nat → Int32) × (Nat → Int32) × (Nat → Int32) × (Nat → Int32)}, (r1, u1) = (if opv h = p1 then ((4 : Int32), ((awl h), (aws h), (0 : Int32), first, size, gsz, seeds)) else (if 0 ≤ (lg_cmp p2 (lk h p1.toNatClampNeg)) then (lz2 (F_X2_takeSeed first size nums gsz seeds) (fun r1 u1 => (if r1 = 0 then ((-34), ((awl h), (aws h), (ou h), u1.1, u1.2, gsz, seeds)) else (lz (F_X0_add gsz seeds r1) (fun u2 => (lz (F_X3_awaitKey (num h) (se h) (rol h) (opv h) (awl h) (aws h) (oct h) (ksf h) (ou h) p1 r1) (fun u3 => (4, (u3.1, u3.2.1, u3.2.2, u1.1, u1.2, u2.1, u2.2))))))))) else ((-55), ((awl h), (aws h), (ou h), first, size, gsz, seeds)))) → (r2, u2) = (if (opv h) = p1 then ((4 : Int32), (rd, giv, gv, aw, sd, (upd ot h 0))) else (if 0 ≤ (lg_cmp p2 (lo (21 * h + p1.toNatClampNeg))) then (FL_X6_asked_104 cod p2 hd mmd typ rd giv us tp gv se ro opv aw sd ot lo p1 2001 rd) else ((-55), (rd, giv, gv, aw, sd, ot)))) → r1 = r2 ∧ Rtp (k + 1) u1.2.2.2.1 u1.2.2.2.2.1 nums u1.2.2.2.2.2.1 u1.2.2.2.2.2.2 typ u2.1 tp u2.2.1 u2.2.2.1 ∧ Req (va_up awl h u1.1) u2.2.2.2.1 ∧ Req (va_up aws h u1.2.1) u2.2.2.2.2.1 ∧ Req (va_up ou h u1.2.2.1) u2.2.2.2.2.2 := by
    intro r1 r2 u1 u2 h1 h2
    by_cases c1 : opv h = p1
    · rw [if_pos c1] at h1 h2; cases h1; cases h2
      exact ⟨rfl, aT, Req_id a10 h, Req_id a11 h, Req_up a12 h 0⟩
    · rw [if_neg c1] at h1 h2
      by_cases c2 : 0 ≤ lg_cmp p2 (lk h p1.toNatClampNeg)
      · rw [if_pos c2] at h1; rw [if_pos (hlk.mp c2)] at h2
        obtain ⟨f, z, d, g, rfl, b2, rfl, b4, rfl, rfl, rfl, rfl, b9, b10, b11, b12⟩ := hT0
        obtain ⟨ρ, f', z', r', d', G, gv', aw', sd', ot', E1, E2, x3, x4, x5, x6, x7⟩ := take_eq (first := nI f) (size := nI z) (nums := nums) (seeds := seeds) (cod := cod) (mt := p2) (hd := hd) (mmd := mmd) (us := us) (rd0 := nI d) (p1 := p1) (tp := tp) (gv := gv) (se := se) (ro := ro) (opv := opv) (aw := aw) (sd := sd) (ot := ot) (lo := lo) (g := g) (T := d + z) (by omega) (by omega) b12 z 201 2001 f d (by omega) (by omega) b2 b4 rfl b11
        have E1' : F_X2_takeSeed (nI f) (nI z) nums (nI g) seeds = (ρ, (nI f', nI z')) := E1
        rw [E1'] at h1
        rw [E2] at h2
        dsimp only [lz2, lz] at h1
        cases h2
        rcases x7 with ⟨rfl, rfl, rfl, rfl, rfl, rfl, rfl⟩ | ⟨y1, rfl, y3, rfl, rfl, rfl, rfl, rfl⟩
        · rw [if_pos rfl] at h1; cases h1
          exact ⟨rfl, ⟨f', z', d', g, rfl, x3, rfl, by omega, rfl, by rw [x4], rfl, rfl, by omega, by omega, x6, b12⟩, Req_id a10 h, Req_id a11 h, Req_id a12 h⟩
        · have eg : F_X0_add (nI g) seeds ρ = (nI (g + 1), upd seeds g ρ) := by
            unfold F_X0_add
            rw [if_neg (fun w => by have := (nI_leI (by decide) (by omega) : nI 256 ≤ nI g ↔ _).mp w; omega), nI_clamp (by omega), nI_1]
          rw [if_neg y1, eg] at h1; cases h1
          rw [ch]
          refine ⟨rfl, ⟨f', z', d', g + 1, rfl, x3, rfl, by omega, rfl, by rw [x4], rfl, rfl, by omega, by omega, x6, fun j hj => ?_⟩, Req_up a10 h p1, Req_up a11 h ρ, Req_up a12 h ρ⟩
          show upd seeds g ρ j = upd gv g ρ j
          by_cases e : j = g
          · subst e; rw [pk_us, pk_us]
          · rw [pk_un e, pk_un e]; exact b12 j (by omega)
      · rw [if_neg c2] at h1; rw [if_neg (fun z => c2 (hlk.mpr z))] at h2; cases h1; cases h2
        exact ⟨rfl, aT, Req_id a10 h, Req_id a11 h, Req_id a12 h⟩
  unfold F_X6_asked at h2
  unfold F_X5_askForSeed at h1
  rw [ch, ixh a1 hp] at h2
  rw [hs.1, ho.1, lu_eq hp] at h1
  by_cases c1 : F_X1_isForSession p1 lkind ltries ldelay (se h) = 0
  · rw [if_pos c1] at h1; rw [if_neg ((ses_eq hs.2 lkind ltries ldelay).mp c1)] at h2; cases h1; cases h2
    exact ⟨rfl, aT, Req_id a10 h, Req_id a11 h, Req_id a12 h⟩
  · rw [if_neg c1] at h1; rw [if_pos (Classical.not_not.mp (fun z => c1 ((ses_eq hs.2 lkind ltries ldelay).mpr z)))] at h2
    have er : F_X1_needsRole p1 lkind ltries ldelay = if p1 ≤ 10 then 0 else 1 := rfl
    rw [er] at h1
    by_cases c2 : p1 ≤ 10
    · rw [if_pos c2, if_pos rfl] at h1; rw [if_pos c2] at h2
      exact tail h1 h2
    · rw [if_neg c2, if_neg (by decide)] at h1; rw [if_neg c2] at h2
      by_cases c3 : lg_cmp p2 (rol h) < 0
      · rw [if_pos c3] at h1; rw [if_pos (hrl.mp c3)] at h2
        exact tail h1 h2
      · rw [if_neg c3] at h1; rw [if_neg (fun z => c3 (hrl.mpr z))] at h2; cases h1; cases h2
        exact ⟨rfl, aT, Req_id a10 h, Req_id a11 h, Req_id a12 h⟩
theorem Rut_up {ut : Nat → Nat → Int32} {ud : Nat → Int32} (q : Rut ut ud) {h i : Nat} (hi : i < 21) (v : Int32) : Rut (va_up ut h (upd (ut h) i v)) (upd ud (21 * h + i) v) := fun j hj x hx => by
  show (if j = h then upd (ut h) i v else ut j) x = (if 21 * j + x = 21 * h + i then v else ud (21 * j + x))
  by_cases e : j = h
  · subst e
    rw [if_pos rfl]
    show (if x = i then v else ut j x) = _
    by_cases e2 : x = i
    · rw [if_pos e2, if_pos (by omega)]
    · rw [if_neg e2, if_neg (by omega)]; exact q j hj x hx
  · rw [if_neg e, if_neg (by omega)]; exact q j hj x hx
theorem Rlk_up {lk : Nat → Nat → Int64} {lo : Nat → Int64} {wl : Nat → Int32} (q : Rlk lk lo wl) {h i : Nat} (hi : i < 21) (v : Int64) {w : Int32} (hw : w = 1) : Rlk (va_up lk h (vp_updL (lk h) i v)) (vp_updL lo (21 * h + i) v) (upd wl (21 * h + i) w) := fun j hj x hx => by
  subst hw
  show ((if 21 * j + x = 21 * h + i then (1 : Int32) else wl (21 * j + x)) = 1 ∧ (if j = h then vp_updL (lk h) i v else lk j) x = (if 21 * j + x = 21 * h + i then v else lo (21 * j + x))) ∨ ((if 21 * j + x = 21 * h + i then (1 : Int32) else wl (21 * j + x)) = 0 ∧ (if j = h then vp_updL (lk h) i v else lk j) x = MINL ∧ (if 21 * j + x = 21 * h + i then v else lo (21 * j + x)) = 0)
  by_cases e : j = h
  · subst e
    rw [if_pos rfl]
    show (_ ∧ (if x = i then v else lk j x) = _) ∨ (_ ∧ (if x = i then v else lk j x) = _ ∧ _)
    by_cases e2 : x = i
    · rw [if_pos e2, if_pos (by omega), if_pos (by omega)]; exact Or.inl ⟨rfl, rfl⟩
    · rw [if_neg e2, if_neg (by omega), if_neg (by omega)]; exact q j hj x hx
  · rw [if_neg e, if_neg (by omega), if_neg (by omega)]; exact q j hj x hx
theorem upd2 {f : Nat → Int32} {k : Nat} {a b : Int32} : upd (upd f k a) k b = upd f k b := funext fun j => by
  by_cases e : j = k
  · subst e; rw [pk_us, pk_us]
  · rw [pk_un e, pk_un e, pk_un e]
theorem set_eq {num ses : Int32} {rol : Int64} {opn awl aws oct ksf ou : Int32} {ut : Nat → Int32} {p1 v : Int32} (hp : vp_in p1 21) : F_X3_setUsedTries num ses rol opn awl aws oct ksf ou ut p1 v = upd ut p1.toNatClampNeg v := (if_neg (in_n0 hp)).trans (if_neg (i_ge (in_lt' hp rfl)))
theorem used_eq {num ses : Int32} {rol : Int64} {opn awl aws oct ksf ou : Int32} {ut : Nat → Int32} {p1 : Int32} (hp : vp_in p1 21) : F_X3_usedTries num ses rol opn awl aws oct ksf ou ut p1 = ut p1.toNatClampNeg := (if_neg (in_n0 hp)).trans (if_pos (in_lt' hp rfl))
theorem lock_eq {num ses : Int32} {rol : Int64} {opn awl aws oct ksf ou : Int32} {lk : Nat → Int64} {p1 : Int32} {v : Int64} (hp : vp_in p1 21) : F_X3_lock num ses rol opn awl aws oct ksf ou lk p1 v = vp_updL lk p1.toNatClampNeg v := (if_neg (in_n0 hp)).trans (if_neg (i_ge (in_lt' hp rfl)))
theorem try_eq {k h : Nat} {made : Int32} {tim : Int64} {lv : Nat → Option Nat} {pl : va_W} {first : Int32} {size : Int32} {nums : Nat → Int32} {gsz : Int32} {seeds : Nat → Int32} {kept : Int32} {cnt : Int32} {prt : Nat → Int32} {num : Nat → Int32} {ses : Nat → Int32} {rol : Nat → Int64} {opn : Nat → Int32} {awl : Nat → Int32} {aws : Nat → Int32} {oct : Nat → Int32} {ksf : Nat → Int32} {ou : Nat → Int32} {ut : Nat → Nat → Int32} {lk : Nat → Nat → Int64} {mt : Int64} {hd : Int32} {mmd : Int32} {typ : Int32} {rd : Int32} {giv : Int32} {us : Int32} {mkd : Nat → Int32} {mtr : Nat → Int32} {mdl : Nat → Int64} {tp : Nat → Int32} {gv : Nat → Int32} {se : Nat → Int32} {ro : Nat → Int64} {opv : Nat → Int32} {aw : Nat → Int32} {sd : Nat → Int32} {ot : Nat → Int32} {ct : Nat → Int32} {cr : Nat → Int32} {ud : Nat → Int32} {lo : Nat → Int64} {wl : Nat → Int32} {ub : Nat → Int32} {ul : Nat → Int32} {ua : Nat → Int32} (hR : RR k h made tim lv pl first size nums gsz seeds kept cnt prt num ses rol opn awl aws oct ksf ou ut lk mt hd mmd typ rd giv us mkd mtr mdl tp gv se ro opv aw sd ot ct cr ud lo wl ub ul ua) {p1 x y kk m : Int32} (hp : vp_in p1 21) (hm : m = 4) {r1 r2 : Int32} {u1 : Int32 × Int32 × (Nat → Int32) × (Nat → Int64)} {u2 : (Nat → Int32) × (Nat → Int32) × (Nat → Int32) × (Nat → Int64) × (Nat → Int32)} (h1 : (r1, u1) = F_X5_tryKey made tim (num h) (ses h) (rol h) (opn h) (awl h) (aws h) x y (ou h) (ut h) (lk h) p1 (mkd p1.toNatClampNeg) (mtr p1.toNatClampNeg) (mdl p1.toNatClampNeg) kk) (h2 : (r2, u2) = F_X6_came 0 mt hd mmd typ rd giv us mkd mtr mdl opv aw sd ud lo wl p1 m kk) : r1 = r2 ∧ Rop (va_up opn h u1.1) u2.1 ∧ Req (va_up awl h u1.2.1) u2.2.1 ∧ Rut (va_up ut h u1.2.2.1) u2.2.2.1 ∧ Rlk (va_up lk h u1.2.2.2) u2.2.2.2.1 u2.2.2.2.2 := by
  have ch := ceh hR.1
  obtain ⟨a1, a2, a3, aT, a5, a6, a7, a8, a9, a10, a11, a12, a13, a14, a15, a16⟩ := op_none hR
  have ea : awl h = aw h := a10 h a1.1
  have es : aws h = sd h := a11 h a1.1
  have hi := hi_lt hp
  have eu : ut h p1.toNatClampNeg = ud (21 * h + p1.toNatClampNeg) := a15 h a1.1 _ hi
  have ek : ∀ (lt : Int32) (ld : Int64), F_X1_keyTo p1 (mkd p1.toNatClampNeg) lt ld (sd h) = F_X6_keyTo 0 mt hd mmd typ rd giv us mkd p1 (sd h) := fun lt ld => key_eq
  unfold F_X6_came at h2
  unfold F_X5_tryKey at h1
  rw [if_pos hm, ch, ixh a1 hp, pk_us, upd2] at h2
  rw [ea, es, ek] at h1
  simp only [set_eq hp, used_eq hp, lock_eq hp, lz, eu] at h1
  by_cases c1 : aw h = p1
  · rw [if_pos c1] at h1 h2
    by_cases c2 : kk = F_X6_keyTo 0 mt hd mmd typ rd giv us mkd p1 (sd h)
    · rw [if_pos c2] at h1 h2; cases h1; cases h2
      exact ⟨rfl, Rop_up a9 h (in_n0 hp), Req_up a10 h 0, Rut_up a15 hi 0, Rlk_id a16 h⟩
    · rw [if_neg c2] at h1 h2
      by_cases c3 : mtr p1.toNatClampNeg ≤ ud (21 * h + p1.toNatClampNeg) + 1
      · rw [if_pos c3] at h1 h2; cases h1; cases h2
        refine ⟨rfl, Rop_id a9 h, Req_up a10 h 0, Rut_up a15 hi 0, ?_⟩
        have et := a2.1
        subst et
        exact Rlk_up a16 hi _ rfl
      · rw [if_neg c3] at h1 h2; cases h1; cases h2
        exact ⟨rfl, Rop_id a9 h, Req_up a10 h 0, Rut_up a15 hi _, Rlk_id a16 h⟩
  · rw [if_neg c1] at h1 h2; cases h1; cases h2
    exact ⟨rfl, Rop_id a9 h, by rw [← ea]; exact Req_id a10 h, Rut_id a15 h, Rlk_id a16 h⟩
set_option maxHeartbeats 2000000 in
theorem op_level {k h : Nat} {made : Int32} {tim : Int64} {lv : Nat → Option Nat} {pl : va_W} {first : Int32} {size : Int32} {nums : Nat → Int32} {gsz : Int32} {seeds : Nat → Int32} {kept : Int32} {cnt : Int32} {prt : Nat → Int32} {num : Nat → Int32} {ses : Nat → Int32} {rol : Nat → Int64} {opn : Nat → Int32} {awl : Nat → Int32} {aws : Nat → Int32} {oct : Nat → Int32} {ksf : Nat → Int32} {ou : Nat → Int32} {ut : Nat → Nat → Int32} {lk : Nat → Nat → Int64} {mt : Int64} {hd : Int32} {mmd : Int32} {typ : Int32} {rd : Int32} {giv : Int32} {us : Int32} {mkd : Nat → Int32} {mtr : Nat → Int32} {mdl : Nat → Int64} {tp : Nat → Int32} {gv : Nat → Int32} {se : Nat → Int32} {ro : Nat → Int64} {opv : Nat → Int32} {aw : Nat → Int32} {sd : Nat → Int32} {ot : Nat → Int32} {ct : Nat → Int32} {cr : Nat → Int32} {ud : Nat → Int32} {lo : Nat → Int64} {wl : Nat → Int32} {ub : Nat → Int32} {ul : Nat → Int32} {ua : Nat → Int32} {cod : Int32} {p1 : Int32} {p2 : Int32} {p3 : Int32} {p4 : Int64} {r1 : Int32} {u1 : Int32 × (Nat → Option Nat) × va_W} {r2 : Int32} {u2 : Int32 × Int32 × (Nat → Int32) × (Nat → Int32) × (Nat → Int64)} (hk : k ≤ 511) (hR : RR k h made tim lv pl first size nums gsz seeds kept cnt prt num ses rol opn awl aws oct ksf ou ut lk mt hd mmd typ rd giv us mkd mtr mdl tp gv se ro opv aw sd ot ct cr ud lo wl ub ul ua) (h1 : ∃ q, (r1, u1) = F_X5_level made tim lv p1 p2 p3 p4 pl q) (h2 : (r2, u2) = F_X6_level cod mt hd mmd typ rd giv us mkd mtr mdl p1 p2 p3 p4) : r1 = r2 ∧ RR (k + 1) h u1.1 tim u1.2.1 u1.2.2 first size nums gsz seeds kept cnt prt num ses rol opn awl aws oct ksf ou ut lk mt hd u2.2.1 typ rd giv us u2.2.2.1 u2.2.2.2.1 u2.2.2.2.2 tp gv se ro opv aw sd ot ct cr ud lo wl ub ul ua := by
  obtain ⟨q, h1⟩ := h1
  have hn := op_none hR
  unfold F_X6_level at h2
  unfold F_X5_level at h1
  by_cases c1 : p1 < 1
  · rw [if_pos c1] at h1 h2; cases h1; cases h2; exact ⟨rfl, hn⟩
  rw [if_neg c1] at h1 h2
  by_cases c2 : p1 ≤ 20
  · rw [if_pos c2] at h1 h2
    by_cases c3 : p2 < 0
    · rw [if_pos c3] at h1 h2; cases h1; cases h2; exact ⟨rfl, hn⟩
    rw [if_neg c3] at h1 h2
    by_cases c4 : 2 < p2
    · have c4' : 3 ≤ p2 := i32_le (by have a : (2 : Int) < p2.toInt := i_lt c4; show (3 : Int) ≤ p2.toInt; omega)
      rw [if_pos c4'] at h1; rw [if_pos c4] at h2; cases h1; cases h2; exact ⟨rfl, hn⟩
    have c4' : ¬ 3 ≤ p2 := fun z => c4 (i32_lt (by have a : (3 : Int) ≤ p2.toInt := i_le z; show (2 : Int) < p2.toInt; omega))
    rw [if_neg c4'] at h1; rw [if_neg c4] at h2
    by_cases c5 : p3 < 1
    · rw [if_pos c5] at h1 h2; cases h1; cases h2; exact ⟨rfl, hn⟩
    rw [if_neg c5] at h1 h2
    by_cases c6 : 10 < p3
    · rw [if_pos c6] at h1 h2; cases h1; cases h2; exact ⟨rfl, hn⟩
    rw [if_neg c6] at h1 h2
    by_cases c7 : lg_cmp p4 0 < 0
    · rw [if_pos c7] at h1 h2; cases h1; cases h2; exact ⟨rfl, hn⟩
    rw [if_neg c7] at h1 h2
    by_cases c8 : lg_cmp p4 100000 ≤ 0
    · rw [if_pos c8] at h1 h2
      have hp := in_lw c1 c2
      rcases made_eq (made := made) (tim := tim) hR.2.2.1.2.2 0 mt hd mmd typ rd giv us p1 with ⟨e1, e2⟩ | ⟨y, e1, e2, -⟩
      · have e3 : lv p1.toNatClampNeg = none := ((if_neg c1).trans (if_pos c2)).symm.trans e1
        rw [e3] at h1
        rw [if_pos e2] at h2
        cases h1; cases h2
        obtain ⟨a1, a2, ⟨m1, m2, m3⟩, a4, a5, a6, a7, a8, a9, a10, a11, a12, a13, a14, a15, a16⟩ := hn
        refine ⟨by rw [m1], a1, a2, ⟨by show mmd + 1 = made + 1; rw [m1], ?_, ?_⟩, a4, a5, a6, a7, a8, a9, a10, a11, a12, a13, a14, a15, a16⟩
        · intro n hv y hy
          show ((y, .inr (3, [.int n, .int (upd mkd p1.toNatClampNeg p2 n.toNatClampNeg), .int (upd mtr p1.toNatClampNeg p3 n.toNatClampNeg), .long (vp_updL mdl p1.toNatClampNeg p4 n.toNatClampNeg)])) : Nat × va_E) ∈ _ :: pl
          have hy : va_up lv p1.toNatClampNeg (some q) n.toNatClampNeg = some y := hy
          unfold va_up at hy
          by_cases e : n.toNatClampNeg = p1.toNatClampNeg
          · rw [if_pos e] at hy
            cases hy
            have en : n = p1 := by
              obtain ⟨a, ha, rfl⟩ := vp_in_of hv (by decide)
              obtain ⟨b, hb, rfl⟩ := vp_in_of hp (by decide)
              rw [nI_clamp (by omega), nI_clamp (by omega)] at e
              rw [e]
            subst en
            unfold upd vp_updL
            rw [if_pos rfl, if_pos rfl, if_pos rfl]
            exact List.mem_cons_self
          · rw [if_neg e] at hy
            unfold upd vp_updL
            rw [if_neg e, if_neg e, if_neg e]
            exact List.mem_cons_of_mem _ (m2 n hv y hy)
        · intro j hj
          show va_up lv p1.toNatClampNeg (some q) j = none ↔ ¬ 0 < upd mtr p1.toNatClampNeg p3 j
          unfold va_up upd
          by_cases e : j = p1.toNatClampNeg
          · rw [if_pos e, if_pos e]
            exact ⟨fun z => (by cases z), fun z => absurd (show (0 : Int32) < p3 from i32_lt (by have a : (1 : Int) ≤ p3.toInt := i_nlt c5; show (0 : Int) < p3.toInt; omega)) z⟩
          · rw [if_neg e, if_neg e]; exact m3 j hj
      · have e3 : lv p1.toNatClampNeg = some y := ((if_neg c1).trans (if_pos c2)).symm.trans e1
        rw [e3] at h1
        rw [if_neg e2] at h2
        cases h1; cases h2; exact ⟨rfl, hn⟩
    · rw [if_neg c8] at h1 h2; cases h1; cases h2; exact ⟨rfl, hn⟩
  · rw [if_neg c2] at h1 h2; cases h1; cases h2; exact ⟨rfl, hn⟩
set_option maxHeartbeats 2000000 in
theorem op_tape {k h : Nat} {made : Int32} {tim : Int64} {lv : Nat → Option Nat} {pl : va_W} {first : Int32} {size : Int32} {nums : Nat → Int32} {gsz : Int32} {seeds : Nat → Int32} {kept : Int32} {cnt : Int32} {prt : Nat → Int32} {num : Nat → Int32} {ses : Nat → Int32} {rol : Nat → Int64} {opn : Nat → Int32} {awl : Nat → Int32} {aws : Nat → Int32} {oct : Nat → Int32} {ksf : Nat → Int32} {ou : Nat → Int32} {ut : Nat → Nat → Int32} {lk : Nat → Nat → Int64} {mt : Int64} {hd : Int32} {mmd : Int32} {typ : Int32} {rd : Int32} {giv : Int32} {us : Int32} {mkd : Nat → Int32} {mtr : Nat → Int32} {mdl : Nat → Int64} {tp : Nat → Int32} {gv : Nat → Int32} {se : Nat → Int32} {ro : Nat → Int64} {opv : Nat → Int32} {aw : Nat → Int32} {sd : Nat → Int32} {ot : Nat → Int32} {ct : Nat → Int32} {cr : Nat → Int32} {ud : Nat → Int32} {lo : Nat → Int64} {wl : Nat → Int32} {ub : Nat → Int32} {ul : Nat → Int32} {ua : Nat → Int32} {cod : Int32} {p1 : Int32} {u1 : Int32 × (Nat → Int32)} {u2 : Int32 × Int32 × (Nat → Int32)} (hk : k ≤ 511) (hR : RR k h made tim lv pl first size nums gsz seeds kept cnt prt num ses rol opn awl aws oct ksf ou ut lk mt hd mmd typ rd giv us mkd mtr mdl tp gv se ro opv aw sd ot ct cr ud lo wl ub ul ua) (h1 : u1 = F_X5_tape made tim first size nums p1) (h2 : u2 = F_X6_tape cod mt hd mmd typ rd giv us tp p1) : RR (k + 1) h made tim lv pl first u1.1 u1.2 gsz seeds kept cnt prt num ses rol opn awl aws oct ksf ou ut lk mt hd mmd u2.2.1 rd giv us mkd mtr mdl u2.2.2 gv se ro opv aw sd ot ct cr ud lo wl ub ul ua := by
  obtain ⟨a1, a2, a3, a4, a5, a6, a7, a8, a9, a10, a11, a12, a13, a14, a15, a16⟩ := op_none hR
  obtain ⟨-, -, -, ⟨f, z, d, g, rfl, b2, rfl, b4, rfl, rfl, rfl, rfl, b9, b10, b11, b12⟩, -⟩ := hR
  have h1 : u1 = F_X2_add (nI f) (nI z) nums p1 := h1
  unfold F_X2_add at h1
  unfold F_X6_tape at h2
  have es : nI (d + z) - nI d = nI z := by rw [pk_sub (by omega), show d + z - d = z by omega]
  rw [es] at h2
  by_cases c : z = 200
  · subst c
    rw [if_neg (by decide)] at h1
    rw [if_pos (show nI 200 = 200 from rfl)] at h2
    subst h1; subst h2
    exact ⟨a1, a2, a3, a4, a5, a6, a7, a8, a9, a10, a11, a12, a13, a14, a15, a16⟩
  · have c1 : nI z < 200 := (nI_ltI (by omega) (by decide) : nI z < nI 200 ↔ _).mpr (by omega)
    have c2 : ¬ nI z = 200 := fun q => c ((nI_eq (by omega) (by decide) : nI z = nI 200 ↔ _).mp q)
    rw [if_pos c1, nI_add] at h1
    rw [if_neg c2, nI_clamp (by omega)] at h2
    have h1' : u1 = (nI (z + 1), upd nums ((f + z) % 200) p1) := by
      by_cases c3 : nI (f + z) < 200
      · have c4 : f + z < 200 := (nI_ltI (by omega) (by decide) : nI (f + z) < nI 200 ↔ _).mp c3
        rw [if_pos c3, nI_clamp (by omega), nI_1] at h1
        rw [h1, Nat.mod_eq_of_lt c4]
      · have c4 : 200 ≤ f + z := by
          rcases Nat.lt_or_ge (f + z) 200 with q | q
          · exact absurd ((nI_ltI (by omega) (by decide) : nI (f + z) < nI 200 ↔ _).mpr q) c3
          · exact q
        rw [if_neg c3, show (200 : Int32) = nI 200 from rfl, pk_sub c4, nI_clamp (by omega), nI_1] at h1
        rw [h1, show (f + z) % 200 = f + z - 200 by omega]
    subst h1'; subst h2
    refine ⟨a1, a2, a3, ⟨f, z + 1, d, g, rfl, b2, rfl, by omega, rfl, nI_1 (d + z), rfl, rfl, by omega, by omega, fun j hj => ?_, b12⟩, a5, a6, a7, a8, a9, a10, a11, a12, a13, a14, a15, a16⟩
    show upd nums ((f + z) % 200) p1 ((f + j) % 200) = upd tp (d + z) p1 (d + j)
    unfold upd
    by_cases e : j = z
    · subst e; rw [if_pos rfl, if_pos rfl]
    · rw [if_neg (by omega), if_neg (by omega)]; exact b11 j (by omega)
set_option maxHeartbeats 2000000 in
theorem op_seed {k h : Nat} {made : Int32} {tim : Int64} {lv : Nat → Option Nat} {pl : va_W} {first : Int32} {size : Int32} {nums : Nat → Int32} {gsz : Int32} {seeds : Nat → Int32} {kept : Int32} {cnt : Int32} {prt : Nat → Int32} {num : Nat → Int32} {ses : Nat → Int32} {rol : Nat → Int64} {opn : Nat → Int32} {awl : Nat → Int32} {aws : Nat → Int32} {oct : Nat → Int32} {ksf : Nat → Int32} {ou : Nat → Int32} {ut : Nat → Nat → Int32} {lk : Nat → Nat → Int64} {mt : Int64} {hd : Int32} {mmd : Int32} {typ : Int32} {rd : Int32} {giv : Int32} {us : Int32} {mkd : Nat → Int32} {mtr : Nat → Int32} {mdl : Nat → Int64} {tp : Nat → Int32} {gv : Nat → Int32} {se : Nat → Int32} {ro : Nat → Int64} {opv : Nat → Int32} {aw : Nat → Int32} {sd : Nat → Int32} {ot : Nat → Int32} {ct : Nat → Int32} {cr : Nat → Int32} {ud : Nat → Int32} {lo : Nat → Int64} {wl : Nat → Int32} {ub : Nat → Int32} {ul : Nat → Int32} {ua : Nat → Int32} {cod : Int32} {p1 : Int32} {p2 : Int64} {r1 : Int32} {u1 : Int64 × Int32 × Int32 × Int32 × Int32 × Int32 × Int32 × (Nat → Int32) × Int32 × Int32 × (Nat → Int32)} {r2 : Int32} {u2 : Int32 × Int64 × Int32 × Int32 × Int32 × (Nat → Int32) × (Nat → Int32) × (Nat → Int32) × (Nat → Int32) × (Nat → Int32) × (Nat → Int32) × (Nat → Int32)} (hk : k ≤ 511) (hR : RR k h made tim lv pl first size nums gsz seeds kept cnt prt num ses rol opn awl aws oct ksf ou ut lk mt hd mmd typ rd giv us mkd mtr mdl tp gv se ro opv aw sd ot ct cr ud lo wl ub ul ua) (h1 : (r1, u1) = F_X5_seed made tim lv (num h) (ses h) (rol h) (opn h) (awl h) (aws h) (oct h) (ksf h) (ou h) (lk h) first size nums gsz seeds kept cnt prt mkd mtr mdl p1 p2) (h2 : (r2, u2) = F_X6_seed cod mt hd mmd typ rd giv us mtr tp gv se ro opv aw sd ot lo ub ul ua p1 p2) : r1 = r2 ∧ RR (k + 1) h made u1.1 lv pl u1.2.2.2.2.1 u1.2.2.2.2.2.1 nums u1.2.2.2.2.2.2.1 u1.2.2.2.2.2.2.2.1 u1.2.2.2.2.2.2.2.2.1 u1.2.2.2.2.2.2.2.2.2.1 u1.2.2.2.2.2.2.2.2.2.2 num ses rol opn (va_up awl h u1.2.1) (va_up aws h u1.2.2.1) oct ksf (va_up ou h u1.2.2.2.1) ut lk u2.2.1 hd mmd typ u2.2.2.1 u2.2.2.2.1 u2.2.2.2.2.1 mkd mtr mdl tp u2.2.2.2.2.2.1 se ro opv u2.2.2.2.2.2.2.1 u2.2.2.2.2.2.2.2.1 u2.2.2.2.2.2.2.2.2.1 ct cr ud lo wl u2.2.2.2.2.2.2.2.2.2.1 u2.2.2.2.2.2.2.2.2.2.2.1 u2.2.2.2.2.2.2.2.2.2.2.2 := by
  have et := hR.2.1.1
  subst et
  obtain ⟨a1, a2, a3, a4, a5, a6, a7, a8, a9, a10, a11, a12, a13, a14, a15, a16⟩ := op_none hR
  have base : RR (k + 1) h made tim lv pl first size nums gsz seeds kept cnt prt num ses rol opn (va_up awl h (awl h)) (va_up aws h (aws h)) oct ksf (va_up ou h (ou h)) ut lk tim hd mmd typ rd giv us mkd mtr mdl tp gv se ro opv aw sd ot ct cr ud lo wl ub ul ua := by
    simp only [va_up_id]; exact op_none hR
  unfold F_X6_seed at h2
  unfold F_X5_seed at h1
  rcases made_eq (made := made) (tim := tim) hR.2.2.1.2.2 0 tim hd mmd typ rd giv us p1 with ⟨e1, e2⟩ | ⟨y, e1, e2, hp, n1, -, -⟩
  · rw [e1] at h1; rw [if_pos e2] at h2
    dsimp only [oc] at h1
    cases h1; cases h2
    exact ⟨rfl, base⟩
  · rw [e1] at h1; rw [if_neg e2] at h2
    dsimp only [oc] at h1
    by_cases c1 : lg_cmp p2 tim < 0
    · rw [if_pos c1] at h1 h2; cases h1; cases h2
      exact ⟨rfl, base⟩
    · rw [if_neg c1] at h1 h2
      by_cases c2 : lg_cmp p2 1152921504606846976 ≤ 0
      · rw [if_pos c2] at h1 h2
        have ht : 0 ≤ p2.toInt := by
          have a : ¬ p2 < tim := fun z => c1 (lg_lt.mpr z)
          have b : tim.toInt ≤ p2.toInt := Int.not_lt.mp fun z => a (Int64.lt_iff_toInt_lt.mpr z)
          have c := a2.2
          omega
        obtain ⟨xr, xu, hx⟩ : ∃ r u, (r, u) = F_X5_askForSeed made p2 (num h) (ses h) (rol h) (opn h) (awl h) (aws h) (oct h) (ksf h) (ou h) (lk h) first size nums gsz seeds p1 (mkd p1.toNatClampNeg) (mtr p1.toNatClampNeg) (mdl p1.toNatClampNeg) := ⟨_, _, rfl⟩
        obtain ⟨yr, yu, hy⟩ : ∃ r u, (r, u) = F_X6_asked 0 p2 hd mmd typ rd giv us tp gv se ro opv aw sd ot lo p1 := ⟨_, _, rfl⟩
        rw [← hx] at h1
        rw [← hy] at h2
        obtain ⟨er, s1, s2, s3, s4⟩ := ask_eq hk hR hp ht 0 _ _ _ hx hy
        subst er
        have nt := note_eq hR.2.2.2.2.1 hk a6 a1 0 p2 mmd typ yu.1 yu.2.1 p1 xr
        dsimp only [lz2, lz] at h1 h2
        cases h1; cases h2
        exact ⟨nt.1.symm, a1, ⟨rfl, ht⟩, a3, s1, nt.2, a6, a7, a8, a9, s2, s3, s4, a13, a14, a15, a16⟩
      · rw [if_neg c2] at h1 h2; cases h1; cases h2
        exact ⟨rfl, base⟩
set_option maxHeartbeats 2000000 in
theorem op_out {k h : Nat} {made : Int32} {tim : Int64} {lv : Nat → Option Nat} {pl : va_W} {first : Int32} {size : Int32} {nums : Nat → Int32} {gsz : Int32} {seeds : Nat → Int32} {kept : Int32} {cnt : Int32} {prt : Nat → Int32} {num : Nat → Int32} {ses : Nat → Int32} {rol : Nat → Int64} {opn : Nat → Int32} {awl : Nat → Int32} {aws : Nat → Int32} {oct : Nat → Int32} {ksf : Nat → Int32} {ou : Nat → Int32} {ut : Nat → Nat → Int32} {lk : Nat → Nat → Int64} {mt : Int64} {hd : Int32} {mmd : Int32} {typ : Int32} {rd : Int32} {giv : Int32} {us : Int32} {mkd : Nat → Int32} {mtr : Nat → Int32} {mdl : Nat → Int64} {tp : Nat → Int32} {gv : Nat → Int32} {se : Nat → Int32} {ro : Nat → Int64} {opv : Nat → Int32} {aw : Nat → Int32} {sd : Nat → Int32} {ot : Nat → Int32} {ct : Nat → Int32} {cr : Nat → Int32} {ud : Nat → Int32} {lo : Nat → Int64} {wl : Nat → Int32} {ub : Nat → Int32} {ul : Nat → Int32} {ua : Nat → Int32} {cod : Int32} {p1 : Int32} {r1 : Int32} {oa u1 : Nat → Int64} {r2 : Int32} {u2 : Int32} (hk : k ≤ 511) (hR : RR k h made tim lv pl first size nums gsz seeds kept cnt prt num ses rol opn awl aws oct ksf ou ut lk mt hd mmd typ rd giv us mkd mtr mdl tp gv se ro opv aw sd ot ct cr ud lo wl ub ul ua) (h1 : (r1, u1) = F_L_out (F_X5_out made tim (num h) (ses h) (rol h) (opn h) (awl h) (aws h) (oct h) (ksf h) (ou h) p1) oa) (h2 : (r2, u2) = F_X6_out cod mt hd mmd typ rd giv us ot p1) : r1 = u2 ∧ (r1 = 0 → u1 (0 : Int32).toNatClampNeg = r2.toInt64) ∧ RR (k + 1) h made tim lv pl first size nums gsz seeds kept cnt prt num ses rol opn awl aws oct ksf ou ut lk mt hd mmd typ rd giv us mkd mtr mdl tp gv se ro opv aw sd ot ct cr ud lo wl ub ul ua := by
  have ch := ceh hR.1
  have ho : ou h = ot h := hR.2.2.2.2.2.2.2.2.2.2.2.1 h hR.1.1
  unfold F_X6_out at h2
  unfold F_X5_out at h1
  by_cases c1 : p1 < 0
  · rw [if_pos c1] at h1 h2
    have h1 : (r1, u1) = (1, oa) := h1
    cases h1; cases h2
    exact ⟨rfl, fun z => absurd z (by decide), op_none hR⟩
  · rw [if_neg c1] at h1 h2
    by_cases c2 : p1 ≤ 3
    · have c3 : p1 < 4 := i32_lt (by have a : p1.toInt ≤ 3 := i_le c2; show p1.toInt < 4; omega)
      rw [if_pos c3] at h1; rw [if_pos c2, ch] at h2
      have h1 : (r1, u1) = (0, vp_updL oa (0 : Int32).toNatClampNeg (((((ou h : Int32).toUInt32 >>> (((24 - (8 * p1)) : Int32).toUInt32 &&& Int32.toUInt32 31)).toInt32) : Int32).toInt8.toInt32).toInt64) := h1
      cases h1; cases h2
      refine ⟨rfl, fun _ => ?_, op_none hR⟩
      rw [pk_uLs, ho]
      have e : p1 = 0 ∨ p1 = 1 ∨ p1 = 2 ∨ p1 = 3 := by
        have a : (0 : Int) ≤ p1.toInt := i_nlt c1
        have b : p1.toInt ≤ 3 := i_le c2
        rcases (show p1.toInt = 0 ∨ p1.toInt = 1 ∨ p1.toInt = 2 ∨ p1.toInt = 3 by omega) with e | e | e | e
        · exact Or.inl (Int32.toInt_inj.1 e)
        · exact Or.inr (Or.inl (Int32.toInt_inj.1 e))
        · exact Or.inr (Or.inr (Or.inl (Int32.toInt_inj.1 e)))
        · exact Or.inr (Or.inr (Or.inr (Int32.toInt_inj.1 e)))
      rcases e with rfl | rfl | rfl | rfl
      · rw [sh8 (ot h) (24 - 8 * 0) 24 (by decide) (by decide) (by decide)]
      · rw [sh8 (ot h) (24 - 8 * 1) 16 (by decide) (by decide) (by decide)]
      · rw [sh8 (ot h) (24 - 8 * 2) 8 (by decide) (by decide) (by decide)]
      · rw [sh8 (ot h) (24 - 8 * 3) 0 (by decide) (by decide) (by decide)]
    · have c3 : ¬ p1 < 4 := fun z => c2 (i32_le (by have a : p1.toInt < 4 := i_lt z; show p1.toInt ≤ 3; omega))
      rw [if_neg c3] at h1; rw [if_neg c2] at h2
      have h1 : (r1, u1) = (1, oa) := h1
      cases h1; cases h2
      exact ⟨rfl, fun z => absurd z (by decide), op_none hR⟩
set_option maxHeartbeats 2000000 in
theorem op_key {k h : Nat} {made : Int32} {tim : Int64} {lv : Nat → Option Nat} {pl : va_W} {first : Int32} {size : Int32} {nums : Nat → Int32} {gsz : Int32} {seeds : Nat → Int32} {kept : Int32} {cnt : Int32} {prt : Nat → Int32} {num : Nat → Int32} {ses : Nat → Int32} {rol : Nat → Int64} {opn : Nat → Int32} {awl : Nat → Int32} {aws : Nat → Int32} {oct : Nat → Int32} {ksf : Nat → Int32} {ou : Nat → Int32} {ut : Nat → Nat → Int32} {lk : Nat → Nat → Int64} {mt : Int64} {hd : Int32} {mmd : Int32} {typ : Int32} {rd : Int32} {giv : Int32} {us : Int32} {mkd : Nat → Int32} {mtr : Nat → Int32} {mdl : Nat → Int64} {tp : Nat → Int32} {gv : Nat → Int32} {se : Nat → Int32} {ro : Nat → Int64} {opv : Nat → Int32} {aw : Nat → Int32} {sd : Nat → Int32} {ot : Nat → Int32} {ct : Nat → Int32} {cr : Nat → Int32} {ud : Nat → Int32} {lo : Nat → Int64} {wl : Nat → Int32} {ub : Nat → Int32} {ul : Nat → Int32} {ua : Nat → Int32} {cod : Int32} {p1 : Int32} {p2 : Int32} {p3 : Int32} {r1 : Int32} {u1 : Int32 × Int32 × Int32 × Int32 × (Nat → Int32) × (Nat → Int64) × Int32 × Int32 × (Nat → Int32)} {r2 : Int32} {u2 : Int32 × Int32 × (Nat → Int32) × (Nat → Int32) × (Nat → Int32) × (Nat → Int32) × (Nat → Int32) × (Nat → Int64) × (Nat → Int32) × (Nat → Int32) × (Nat → Int32) × (Nat → Int32)} (hk : k ≤ 511) (hR : RR k h made tim lv pl first size nums gsz seeds kept cnt prt num ses rol opn awl aws oct ksf ou ut lk mt hd mmd typ rd giv us mkd mtr mdl tp gv se ro opv aw sd ot ct cr ud lo wl ub ul ua) (h1 : (r1, u1) = F_X5_key made tim lv (num h) (ses h) (rol h) (opn h) (awl h) (aws h) (oct h) (ksf h) (ou h) (ut h) (lk h) kept cnt prt mkd mtr mdl p1 p2 p3) (h2 : (r2, u2) = F_X6_key cod mt hd mmd typ rd giv us mkd mtr mdl opv aw sd ct cr ud lo wl ub ul ua p1 p2 p3) : r1 = r2 ∧ RR (k + 1) h made tim lv pl first size nums gsz seeds u1.2.2.2.2.2.2.1 u1.2.2.2.2.2.2.2.1 u1.2.2.2.2.2.2.2.2 num ses rol (va_up opn h u1.1) (va_up awl h u1.2.1) aws (va_up oct h u1.2.2.1) (va_up ksf h u1.2.2.2.1) ou (va_up ut h u1.2.2.2.2.1) (va_up lk h u1.2.2.2.2.2.1) mt hd mmd typ rd giv u2.2.1 mkd mtr mdl tp gv se ro u2.2.2.1 u2.2.2.2.1 sd ot u2.2.2.2.2.1 u2.2.2.2.2.2.1 u2.2.2.2.2.2.2.1 u2.2.2.2.2.2.2.2.1 u2.2.2.2.2.2.2.2.2.1 u2.2.2.2.2.2.2.2.2.2.1 u2.2.2.2.2.2.2.2.2.2.2.1 u2.2.2.2.2.2.2.2.2.2.2.2 := by
  have ch := ceh hR.1
  obtain ⟨a1, a2, a3, a4, a5, a6, a7, a8, a9, a10, a11, a12, a13, a14, a15, a16⟩ := op_none hR
  obtain ⟨c, hc, ec1, ec2⟩ := hR.2.2.2.2.2.2.2.2.2.2.2.2.1 h hR.1.1
  have ek : ksf h = cr h := a14 h a1.1
  have hadd : F_X3_addOctet (num h) (ses h) (rol h) (opn h) (awl h) (aws h) (oct h) (ksf h) (ou h) p2 = (nI (min (c + 1) 5), ((cr h <<< (8 &&& 31)) ||| (p2 &&& 255))) := by
    unfold F_X3_addOctet
    rw [ec2, ek]
    by_cases q : 4 < nI (min c 5)
    · have := (nI_ltI (by decide) (by omega) : nI 4 < nI (min c 5) ↔ _).mp q
      rw [if_pos q, show min c 5 = 5 by omega, show min (c + 1) 5 = 5 by omega]
    · have : ¬ 4 < min c 5 := fun z => q ((nI_ltI (by decide) (by omega) : nI 4 < nI (min c 5) ↔ _).mpr z)
      rw [if_neg q, nI_1, show min (c + 1) 5 = min c 5 + 1 by omega]
  have hRoc1 : Roc (k + 1) (va_up oct h (nI (min (c + 1) 5))) (upd ct h (ct h + 1)) := fun j hj => by
    unfold va_up upd
    by_cases e : j = h
    · subst e; rw [if_pos rfl, if_pos rfl, ec1, nI_1]; exact ⟨c + 1, by omega, rfl, rfl⟩
    · rw [if_neg e, if_neg e]; exact a13 j hj
  have hRoc0 : Roc (k + 1) (va_up oct h 0) (upd (upd ct h (ct h + 1)) h 0) := fun j hj => by
    rw [upd2]
    unfold va_up upd
    by_cases e : j = h
    · rw [if_pos e, if_pos e]; exact ⟨0, by omega, rfl, rfl⟩
    · rw [if_neg e, if_neg e]; exact a13 j hj
  have hks1 : Req (va_up ksf h ((cr h <<< (8 &&& 31)) ||| (p2 &&& 255))) (upd cr h ((cr h <<< (8 &&& 31)) ||| (p2 &&& 255))) := Req_up a14 h _
  have hks0 : Req (va_up ksf h 0) (upd (upd cr h ((cr h <<< (8 &&& 31)) ||| (p2 &&& 255))) h 0) := by rw [upd2]; exact Req_up a14 h 0
  unfold F_X6_key at h2
  unfold F_X5_key at h1
  rw [hadd] at h1
  dsimp only [lz] at h1
  rw [ch] at h2
  by_cases c0 : p3 = 0
  · rw [if_pos c0] at h1 h2; cases h1; cases h2
    exact ⟨rfl, a1, a2, a3, a4, a5, a6, a7, a8, Rop_id a9 h, Req_id a10 h, a11, a12, hRoc1, hks1, Rut_id a15 h, Rlk_id a16 h⟩
  rw [if_neg c0] at h1 h2
  rcases made_eq (made := made) (tim := tim) hR.2.2.1.2.2 0 mt hd mmd typ rd giv us p1 with ⟨e1, e2⟩ | ⟨y, e1, e2, hp, n1, -, -⟩
  · rw [e1] at h1; rw [if_pos e2] at h2
    dsimp only [oc] at h1
    cases h1; cases h2
    exact ⟨rfl, a1, a2, a3, a4, a5, a6, a7, a8, Rop_id a9 h, Req_id a10 h, a11, a12, hRoc0, hks0, Rut_id a15 h, Rlk_id a16 h⟩
  · rw [e1] at h1; rw [if_neg e2] at h2
    dsimp only [oc] at h1
    have em : (upd ct h (ct h + 1)) h = nI (c + 1) := by rw [pk_us, ec1, nI_1]
    have ex : (upd cr h ((cr h <<< (8 &&& 31)) ||| (p2 &&& 255))) h = ((cr h <<< (8 &&& 31)) ||| (p2 &&& 255)) := pk_us
    rw [em, ex] at h2
    by_cases c1 : c + 1 = 4
    · have m1 : nI (min (c + 1) 5) = 4 := by rw [c1]; rfl
      rw [if_pos m1] at h1
      obtain ⟨xr, xu, hx⟩ : ∃ r u, (r, u) = F_X5_tryKey made tim (num h) (ses h) (rol h) (opn h) (awl h) (aws h) (F_X3_dropOctets (num h) (ses h) (rol h) (opn h) (awl h) (aws h) (nI (min (c + 1) 5)) ((cr h <<< (8 &&& 31)) ||| (p2 &&& 255)) (ou h)).1 (F_X3_dropOctets (num h) (ses h) (rol h) (opn h) (awl h) (aws h) (nI (min (c + 1) 5)) ((cr h <<< (8 &&& 31)) ||| (p2 &&& 255)) (ou h)).2 (ou h) (ut h) (lk h) p1 (mkd p1.toNatClampNeg) (mtr p1.toNatClampNeg) (mdl p1.toNatClampNeg) ((cr h <<< (8 &&& 31)) ||| (p2 &&& 255)) := ⟨_, _, rfl⟩
      obtain ⟨yr, yu, hy⟩ : ∃ r u, (r, u) = F_X6_came 0 mt hd mmd typ rd giv us mkd mtr mdl opv aw sd ud lo wl p1 (nI (c + 1)) ((cr h <<< (8 &&& 31)) ||| (p2 &&& 255)) := ⟨_, _, rfl⟩
      rw [← hx] at h1
      rw [← hy] at h2
      obtain ⟨er, s1, s2, s3, s4⟩ := try_eq hR hp (by rw [c1]; rfl) hx hy
      subst er
      have nt := note_eq hR.2.2.2.2.1 hk a6 a1 0 mt mmd typ rd giv p1 xr
      dsimp only [lz2, lz] at h1 h2
      cases h1; cases h2
      exact ⟨nt.1.symm, a1, a2, a3, a4, nt.2, a6, a7, a8, s1, s2, a11, a12, hRoc0, hks0, s3, s4⟩
    · have m1 : ¬ nI (min (c + 1) 5) = 4 := fun z => by have := (nI_eq (by omega) (by decide) : nI (min (c + 1) 5) = nI 4 ↔ _).mp z; omega
      have m2 : ¬ nI (c + 1) = 4 := fun z => c1 ((nI_eq (by omega) (by decide) : nI (c + 1) = nI 4 ↔ _).mp z)
      rw [if_neg m1] at h1
      have hy : F_X6_came 0 mt hd mmd typ rd giv us mkd mtr mdl opv aw sd ud lo wl p1 (nI (c + 1)) ((cr h <<< (8 &&& 31)) ||| (p2 &&& 255)) = (-19, (opv, aw, ud, lo, wl)) := if_neg m2
      rw [hy] at h2
      have nt := note_eq hR.2.2.2.2.1 hk a6 a1 0 mt mmd typ rd giv p1 (-19)
      dsimp only [lz2, lz] at h1 h2
      cases h1; cases h2
      exact ⟨nt.1.symm, a1, a2, a3, a4, nt.2, a6, a7, a8, Rop_id a9 h, Req_id a10 h, a11, a12, hRoc0, hks0, Rut_id a15 h, Rlk_id a16 h⟩
set_option maxHeartbeats 2000000 in
theorem op_open {k h : Nat} {made : Int32} {tim : Int64} {lv : Nat → Option Nat} {pl : va_W} {first : Int32} {size : Int32} {nums : Nat → Int32} {gsz : Int32} {seeds : Nat → Int32} {kept : Int32} {cnt : Int32} {prt : Nat → Int32} {num : Nat → Int32} {ses : Nat → Int32} {rol : Nat → Int64} {opn : Nat → Int32} {awl : Nat → Int32} {aws : Nat → Int32} {oct : Nat → Int32} {ksf : Nat → Int32} {ou : Nat → Int32} {ut : Nat → Nat → Int32} {lk : Nat → Nat → Int64} {mt : Int64} {hd : Int32} {mmd : Int32} {typ : Int32} {rd : Int32} {giv : Int32} {us : Int32} {mkd : Nat → Int32} {mtr : Nat → Int32} {mdl : Nat → Int64} {tp : Nat → Int32} {gv : Nat → Int32} {se : Nat → Int32} {ro : Nat → Int64} {opv : Nat → Int32} {aw : Nat → Int32} {sd : Nat → Int32} {ot : Nat → Int32} {ct : Nat → Int32} {cr : Nat → Int32} {ud : Nat → Int32} {lo : Nat → Int64} {wl : Nat → Int32} {ub : Nat → Int32} {ul : Nat → Int32} {ua : Nat → Int32} {cod : Int32} {p1 : Int32} {r2 : Int32} {u2 : Int32} (hk : k ≤ 511) (hR : RR k h made tim lv pl first size nums gsz seeds kept cnt prt num ses rol opn awl aws oct ksf ou ut lk mt hd mmd typ rd giv us mkd mtr mdl tp gv se ro opv aw sd ot ct cr ud lo wl ub ul ua) (h2 : (r2, u2) = F_X6_open cod mt hd mmd typ rd giv us mtr opv p1) : F_X5_open made tim lv (num h) (ses h) (rol h) (opn h) (awl h) (aws h) (oct h) (ksf h) (ou h) p1 = r2 ∧ RR (k + 1) h made tim lv pl first size nums gsz seeds kept cnt prt num ses rol opn awl aws oct ksf ou ut lk mt hd mmd typ rd giv us mkd mtr mdl tp gv se ro opv aw sd ot ct cr ud lo wl ub ul ua := by
  have ch := ceh hR.1
  have hop := hR.2.2.2.2.2.2.2.2.1 h hR.1.1
  unfold F_X6_open at h2
  unfold F_X5_open
  rcases made_eq (made := made) (tim := tim) hR.2.2.1.2.2 0 mt hd mmd typ rd giv us p1 with ⟨e1, e2⟩ | ⟨y, e1, e2, hp, -⟩
  · rw [if_pos e2] at h2
    rw [e1]
    cases h2
    exact ⟨rfl, op_none hR⟩
  · rw [if_neg e2, ch] at h2
    rw [e1]
    show (if opn h = p1 then (1 : Int32) else 0) = r2 ∧ _
    rw [hop.1]
    by_cases c : opv h = p1
    · rw [if_pos c] at h2 ⊢; cases h2; exact ⟨rfl, op_none hR⟩
    · rw [if_neg c] at h2 ⊢; cases h2; exact ⟨rfl, op_none hR⟩
set_option maxHeartbeats 2000000 in
theorem op_session {k h : Nat} {made : Int32} {tim : Int64} {lv : Nat → Option Nat} {pl : va_W} {first : Int32} {size : Int32} {nums : Nat → Int32} {gsz : Int32} {seeds : Nat → Int32} {kept : Int32} {cnt : Int32} {prt : Nat → Int32} {num : Nat → Int32} {ses : Nat → Int32} {rol : Nat → Int64} {opn : Nat → Int32} {awl : Nat → Int32} {aws : Nat → Int32} {oct : Nat → Int32} {ksf : Nat → Int32} {ou : Nat → Int32} {ut : Nat → Nat → Int32} {lk : Nat → Nat → Int64} {mt : Int64} {hd : Int32} {mmd : Int32} {typ : Int32} {rd : Int32} {giv : Int32} {us : Int32} {mkd : Nat → Int32} {mtr : Nat → Int32} {mdl : Nat → Int64} {tp : Nat → Int32} {gv : Nat → Int32} {se : Nat → Int32} {ro : Nat → Int64} {opv : Nat → Int32} {aw : Nat → Int32} {sd : Nat → Int32} {ot : Nat → Int32} {ct : Nat → Int32} {cr : Nat → Int32} {ud : Nat → Int32} {lo : Nat → Int64} {wl : Nat → Int32} {ub : Nat → Int32} {ul : Nat → Int32} {ua : Nat → Int32} {cod : Int32} {p1 : Int32} {r1 : Int32} {u1 : Int32 × Int64 × Int32 × Int32} {r2 : Int32} {u2 : Int32 × (Nat → Int32) × (Nat → Int64) × (Nat → Int32) × (Nat → Int32)} (hk : k ≤ 511) (hR : RR k h made tim lv pl first size nums gsz seeds kept cnt prt num ses rol opn awl aws oct ksf ou ut lk mt hd mmd typ rd giv us mkd mtr mdl tp gv se ro opv aw sd ot ct cr ud lo wl ub ul ua) (h1 : (r1, u1) = F_X5_session made tim (num h) (ses h) (rol h) (opn h) (awl h) (aws h) (oct h) (ksf h) (ou h) p1) (h2 : (r2, u2) = F_X6_session cod mt hd mmd typ rd giv us se ro opv aw p1) : r1 = r2 ∧ RR (k + 1) h made tim lv pl first size nums gsz seeds kept cnt prt num (va_up ses h u1.1) (va_up rol h u1.2.1) (va_up opn h u1.2.2.1) (va_up awl h u1.2.2.2) aws oct ksf ou ut lk mt hd mmd typ rd giv us mkd mtr mdl tp gv u2.2.1 u2.2.2.1 u2.2.2.2.1 u2.2.2.2.2 sd ot ct cr ud lo wl ub ul ua := by
  have ch := ceh hR.1
  unfold F_X6_session at h2
  unfold F_X5_session at h1
  by_cases c1 : p1 < 1
  · rw [if_pos c1] at h1 h2; cases h1; cases h2
    exact ⟨rfl, by simp only [va_up_id]; exact op_none hR⟩
  · rw [if_neg c1] at h1 h2
    by_cases c2 : p1 ≤ 3
    · rw [if_pos c2] at h1 h2
      have h1 : (r1, u1) = (ses h, (p1, MINL, 0, 0)) := h1
      have h2 : (r2, u2) = (se hd.toNatClampNeg, (0, upd se hd.toNatClampNeg p1, vp_updL ro hd.toNatClampNeg (-1), upd opv hd.toNatClampNeg 0, upd aw hd.toNatClampNeg 0)) := h2
      rw [ch] at h2
      cases h1; cases h2
      obtain ⟨a1, a2, a3, a4, a5, a6, a7, a8, a9, a10, a11, a12, a13, a14, a15, a16⟩ := op_none hR
      exact ⟨(a7 h a1.1).1, a1, a2, a3, a4, a5, a6, Rse_up a7 h (one3 c1 c2), Rro_dn a8 h, Rop_up a9 h (show ¬ (0 : Int32) < 0 by decide), Req_up a10 h 0, a11, a12, a13, a14, a15, a16⟩
    · rw [if_neg c2] at h1 h2; cases h1; cases h2
      exact ⟨rfl, by simp only [va_up_id]; exact op_none hR⟩
set_option maxHeartbeats 2000000 in
theorem op_reset {k h : Nat} {made : Int32} {tim : Int64} {lv : Nat → Option Nat} {pl : va_W} {first : Int32} {size : Int32} {nums : Nat → Int32} {gsz : Int32} {seeds : Nat → Int32} {kept : Int32} {cnt : Int32} {prt : Nat → Int32} {num : Nat → Int32} {ses : Nat → Int32} {rol : Nat → Int64} {opn : Nat → Int32} {awl : Nat → Int32} {aws : Nat → Int32} {oct : Nat → Int32} {ksf : Nat → Int32} {ou : Nat → Int32} {ut : Nat → Nat → Int32} {lk : Nat → Nat → Int64} {mt : Int64} {hd : Int32} {mmd : Int32} {typ : Int32} {rd : Int32} {giv : Int32} {us : Int32} {mkd : Nat → Int32} {mtr : Nat → Int32} {mdl : Nat → Int64} {tp : Nat → Int32} {gv : Nat → Int32} {se : Nat → Int32} {ro : Nat → Int64} {opv : Nat → Int32} {aw : Nat → Int32} {sd : Nat → Int32} {ot : Nat → Int32} {ct : Nat → Int32} {cr : Nat → Int32} {ud : Nat → Int32} {lo : Nat → Int64} {wl : Nat → Int32} {ub : Nat → Int32} {ul : Nat → Int32} {ua : Nat → Int32} {cod : Int32} {fT : Nat → Option Nat} {r1 : Int32} {u1 : Int32 × Int32 × Int64 × Int32 × Int32 × Int32 × Int32 × Int32 × Int64 × Int32 × Int32 × Int32 × Int32 × Int32 × Int64 × Int32 × Int32 × Int32 × Int32 × Int32 × Int64 × Int32 × Int32 × Int32 × Int32} {r2 : Int32} {u2 : Int32 × Int32 × (Nat → Int32) × (Nat → Int64) × (Nat → Int32) × (Nat → Int32) × (Nat → Int32) × (Nat → Int32)} (hk : k ≤ 511) (hR : RR k h made tim lv pl first size nums gsz seeds kept cnt prt num ses rol opn awl aws oct ksf ou ut lk mt hd mmd typ rd giv us mkd mtr mdl tp gv se ro opv aw sd ot ct cr ud lo wl ub ul ua) (h1 : (r1, u1) = F_X5_reset made tim fT gsz (num 0) (ses 0) (rol 0) (opn 0) (awl 0) (aws 0) (oct 0) (ksf 0) (ou 0) (num 1) (ses 1) (rol 1) (opn 1) (awl 1) (aws 1) (oct 1) (ksf 1) (ou 1) (num 2) (ses 2) (rol 2) (opn 2) (awl 2) (aws 2) (oct 2) (ksf 2) (ou 2) (num 3) (ses 3) (rol 3) (opn 3) (awl 3) (aws 3) (oct 3) (ksf 3) (ou 3)) (h2 : (r2, u2) = F_X6_reset cod mt hd mmd typ rd giv us se ro opv aw ct cr) : r1 = r2 ∧ RR (k + 1) h made tim lv pl first size nums u1.1 seeds kept cnt prt num (va_up (va_up (va_up (va_up ses 0 u1.2.1) 1 u1.2.2.2.2.2.2.2.1) 2 u1.2.2.2.2.2.2.2.2.2.2.2.2.2.1) 3 u1.2.2.2.2.2.2.2.2.2.2.2.2.2.2.2.2.2.2.2.1) (va_up (va_up (va_up (va_up rol 0 u1.2.2.1) 1 u1.2.2.2.2.2.2.2.2.1) 2 u1.2.2.2.2.2.2.2.2.2.2.2.2.2.2.1) 3 u1.2.2.2.2.2.2.2.2.2.2.2.2.2.2.2.2.2.2.2.2.1) (va_up (va_up (va_up (va_up opn 0 u1.2.2.2.1) 1 u1.2.2.2.2.2.2.2.2.2.1) 2 u1.2.2.2.2.2.2.2.2.2.2.2.2.2.2.2.1) 3 u1.2.2.2.2.2.2.2.2.2.2.2.2.2.2.2.2.2.2.2.2.2.1) (va_up (va_up (va_up (va_up awl 0 u1.2.2.2.2.1) 1 u1.2.2.2.2.2.2.2.2.2.2.1) 2 u1.2.2.2.2.2.2.2.2.2.2.2.2.2.2.2.2.1) 3 u1.2.2.2.2.2.2.2.2.2.2.2.2.2.2.2.2.2.2.2.2.2.2.1) aws (va_up (va_up (va_up (va_up oct 0 u1.2.2.2.2.2.1) 1 u1.2.2.2.2.2.2.2.2.2.2.2.1) 2 u1.2.2.2.2.2.2.2.2.2.2.2.2.2.2.2.2.2.1) 3 u1.2.2.2.2.2.2.2.2.2.2.2.2.2.2.2.2.2.2.2.2.2.2.2.1) (va_up (va_up (va_up (va_up ksf 0 u1.2.2.2.2.2.2.1) 1 u1.2.2.2.2.2.2.2.2.2.2.2.2.1) 2 u1.2.2.2.2.2.2.2.2.2.2.2.2.2.2.2.2.2.2.1) 3 u1.2.2.2.2.2.2.2.2.2.2.2.2.2.2.2.2.2.2.2.2.2.2.2.2) ou ut lk mt hd mmd typ rd u2.2.1 us mkd mtr mdl tp gv u2.2.2.1 u2.2.2.2.1 u2.2.2.2.2.1 u2.2.2.2.2.2.1 sd ot u2.2.2.2.2.2.2.1 u2.2.2.2.2.2.2.2 ud lo wl ub ul ua := by
  obtain ⟨a1, a2, a3, ⟨f, z, d, g, b1, b2, b3, b4, b5, b6, b7, b8, b9, b10, b11, b12⟩, a5, a6, a7, a8, a9, a10, a11, a12, a13, a14, a15, a16⟩ := op_none hR
  have h1 : (r1, u1) = (((if opn 3 = 0 then (if opn 2 = 0 then (if opn 1 = 0 then (if opn 0 = 0 then 0 else 1) else ((if opn 0 = 0 then 0 else 1) + 1)) else ((if opn 1 = 0 then (if opn 0 = 0 then 0 else 1) else ((if opn 0 = 0 then 0 else 1) + 1)) + 1)) else ((if opn 2 = 0 then (if opn 1 = 0 then (if opn 0 = 0 then 0 else 1) else ((if opn 0 = 0 then 0 else 1) + 1)) else ((if opn 1 = 0 then (if opn 0 = 0 then 0 else 1) else ((if opn 0 = 0 then 0 else 1) + 1)) + 1)) + 1)) : Int32), (0, 1, MINL, 0, 0, 0, 0, 1, MINL, 0, 0, 0, 0, 1, MINL, 0, 0, 0, 0, 1, MINL, 0, 0, 0, 0)) := h1
  have h2 : (r2, u2) = (((if opv 3 ≤ 0 then (if opv 2 ≤ 0 then (if opv 1 ≤ 0 then (if opv 0 ≤ 0 then 0 else 1) else ((if opv 0 ≤ 0 then 0 else 1) + 1)) else ((if opv 1 ≤ 0 then (if opv 0 ≤ 0 then 0 else 1) else ((if opv 0 ≤ 0 then 0 else 1) + 1)) + 1)) else ((if opv 2 ≤ 0 then (if opv 1 ≤ 0 then (if opv 0 ≤ 0 then 0 else 1) else ((if opv 0 ≤ 0 then 0 else 1) + 1)) else ((if opv 1 ≤ 0 then (if opv 0 ≤ 0 then 0 else 1) else ((if opv 0 ≤ 0 then 0 else 1) + 1)) + 1)) + 1)) : Int32), (0, 0, upd (upd (upd (upd se 0 1) 1 1) 2 1) 3 1, vp_updL (vp_updL (vp_updL (vp_updL ro 0 (-1)) 1 (-1)) 2 (-1)) 3 (-1), upd (upd (upd (upd opv 0 0) 1 0) 2 0) 3 0, upd (upd (upd (upd aw 0 0) 1 0) 2 0) 3 0, upd (upd (upd (upd ct 0 0) 1 0) 2 0) 3 0, upd (upd (upd (upd cr 0 0) 1 0) 2 0) 3 0)) := h2
  have q : ∀ j, j < 4 → (opv j ≤ 0 ↔ opn j = 0) := fun j hj => by
    obtain ⟨e, n⟩ := a9 j hj
    rw [e]
    exact ⟨fun z => Int32.toInt_inj.1 (by have x1 := i_le z; have x2 := i_nlt n; omega), fun z => by rw [z]; decide⟩
  have er : r1 = r2 := by
    have e1 := congrArg Prod.fst h1
    have e2 := congrArg Prod.fst h2
    dsimp only at e1 e2
    rw [e1, e2]
    have q0 := q 0 (by decide)
    have q1 := q 1 (by decide)
    have q2 := q 2 (by decide)
    have q3 := q 3 (by decide)
    by_cases c0 : opn 0 = 0 <;> by_cases c1 : opn 1 = 0 <;> by_cases c2 : opn 2 = 0 <;> by_cases c3 : opn 3 = 0 <;> simp only [c0, c1, c2, c3, q0, q1, q2, q3, if_true, if_false]
  have e1 := congrArg Prod.snd h1
  have e2 := congrArg Prod.snd h2
  dsimp only at e1 e2
  subst e1; subst e2
  have z0 : ¬ (0 : Int32) < 0 := by decide
  exact ⟨er, a1, a2, a3, ⟨f, z, d, 0, b1, b2, b3, b4, b5, b6, rfl, rfl, b9, by omega, b11, fun j hj => absurd hj (Nat.not_lt_zero j)⟩, a5, a6, all4 ⟨rfl, Or.inl rfl⟩ ⟨rfl, Or.inl rfl⟩ ⟨rfl, Or.inl rfl⟩ ⟨rfl, Or.inl rfl⟩, all4 (Or.inr ⟨rfl, rfl⟩) (Or.inr ⟨rfl, rfl⟩) (Or.inr ⟨rfl, rfl⟩) (Or.inr ⟨rfl, rfl⟩), all4 ⟨rfl, z0⟩ ⟨rfl, z0⟩ ⟨rfl, z0⟩ ⟨rfl, z0⟩, all4 rfl rfl rfl rfl, a11, a12, all4 ⟨0, Nat.zero_le _, rfl, rfl⟩ ⟨0, Nat.zero_le _, rfl, rfl⟩ ⟨0, Nat.zero_le _, rfl, rfl⟩ ⟨0, Nat.zero_le _, rfl, rfl⟩, all4 rfl rfl rfl rfl, a15, a16⟩
set_option maxHeartbeats 2000000 in
theorem op_role {k h : Nat} {made : Int32} {tim : Int64} {lv : Nat → Option Nat} {pl : va_W} {first : Int32} {size : Int32} {nums : Nat → Int32} {gsz : Int32} {seeds : Nat → Int32} {kept : Int32} {cnt : Int32} {prt : Nat → Int32} {num : Nat → Int32} {ses : Nat → Int32} {rol : Nat → Int64} {opn : Nat → Int32} {awl : Nat → Int32} {aws : Nat → Int32} {oct : Nat → Int32} {ksf : Nat → Int32} {ou : Nat → Int32} {ut : Nat → Nat → Int32} {lk : Nat → Nat → Int64} {mt : Int64} {hd : Int32} {mmd : Int32} {typ : Int32} {rd : Int32} {giv : Int32} {us : Int32} {mkd : Nat → Int32} {mtr : Nat → Int32} {mdl : Nat → Int64} {tp : Nat → Int32} {gv : Nat → Int32} {se : Nat → Int32} {ro : Nat → Int64} {opv : Nat → Int32} {aw : Nat → Int32} {sd : Nat → Int32} {ot : Nat → Int32} {ct : Nat → Int32} {cr : Nat → Int32} {ud : Nat → Int32} {lo : Nat → Int64} {wl : Nat → Int32} {ub : Nat → Int32} {ul : Nat → Int32} {ua : Nat → Int32} {cod : Int32} {p1 : Int32} {p2 : Int32} {p3 : Int64} {r1 : Int32} {u1 : Int64} {r2 : Int32} {u2 : Int32 × (Nat → Int64)} (hk : k ≤ 511) (hR : RR k h made tim lv pl first size nums gsz seeds kept cnt prt num ses rol opn awl aws oct ksf ou ut lk mt hd mmd typ rd giv us mkd mtr mdl tp gv se ro opv aw sd ot ct cr ud lo wl ub ul ua) (h1 : (r1, u1) = F_X5_role made tim (num h) (ses h) (rol h) (opn h) (awl h) (aws h) (oct h) (ksf h) (ou h) p1 p2 p3) (h2 : (r2, u2) = F_X6_role cod mt hd mmd typ rd giv us ro p1 p2 p3) : r1 = r2 ∧ RR (k + 1) h made tim lv pl first size nums gsz seeds kept cnt prt num ses (va_up rol h u1) opn awl aws oct ksf ou ut lk mt hd mmd typ rd giv us mkd mtr mdl tp gv se u2.2 opv aw sd ot ct cr ud lo wl ub ul ua := by
  have ch := ceh hR.1
  have e := hR.2.1.1
  subst e
  unfold F_X6_role at h2
  unfold F_X5_role at h1
  by_cases c1 : p1 < 1
  · rw [if_pos c1] at h1 h2; cases h1; cases h2
    exact ⟨rfl, by simp only [va_up_id]; exact op_none hR⟩
  · rw [if_neg c1] at h1 h2
    by_cases c2 : p1 ≤ 8
    · rw [if_pos c2] at h1 h2
      by_cases c3 : p2 = 0
      · rw [if_pos c3] at h1 h2; cases h1; cases h2
        exact ⟨rfl, by simp only [va_up_id]; exact op_none hR⟩
      · rw [if_neg c3] at h1 h2
        by_cases c4 : 0 < lg_cmp p3 tim
        · rw [if_pos c4] at h1 h2
          rw [ch] at h2
          cases h1; cases h2
          obtain ⟨a1, a2, a3, a4, a5, a6, a7, a8, a9, a10, a11, a12, a13, a14, a15, a16⟩ := op_none hR
          exact ⟨rfl, a1, a2, a3, a4, a5, a6, a7, Rro_up a8 h p3, a9, a10, a11, a12, a13, a14, a15, a16⟩
        · rw [if_neg c4] at h1 h2; cases h1; cases h2
          exact ⟨rfl, by simp only [va_up_id]; exact op_none hR⟩
    · rw [if_neg c2] at h1 h2; cases h1; cases h2
      exact ⟨rfl, by simp only [va_up_id]; exact op_none hR⟩
set_option maxHeartbeats 2000000 in
theorem op_left {k h : Nat} {made : Int32} {tim : Int64} {lv : Nat → Option Nat} {pl : va_W} {first : Int32} {size : Int32} {nums : Nat → Int32} {gsz : Int32} {seeds : Nat → Int32} {kept : Int32} {cnt : Int32} {prt : Nat → Int32} {num : Nat → Int32} {ses : Nat → Int32} {rol : Nat → Int64} {opn : Nat → Int32} {awl : Nat → Int32} {aws : Nat → Int32} {oct : Nat → Int32} {ksf : Nat → Int32} {ou : Nat → Int32} {ut : Nat → Nat → Int32} {lk : Nat → Nat → Int64} {mt : Int64} {hd : Int32} {mmd : Int32} {typ : Int32} {rd : Int32} {giv : Int32} {us : Int32} {mkd : Nat → Int32} {mtr : Nat → Int32} {mdl : Nat → Int64} {tp : Nat → Int32} {gv : Nat → Int32} {se : Nat → Int32} {ro : Nat → Int64} {opv : Nat → Int32} {aw : Nat → Int32} {sd : Nat → Int32} {ot : Nat → Int32} {ct : Nat → Int32} {cr : Nat → Int32} {ud : Nat → Int32} {lo : Nat → Int64} {wl : Nat → Int32} {ub : Nat → Int32} {ul : Nat → Int32} {ua : Nat → Int32} {cod : Int32} {p1 : Int32} {p2 : Int64} {r2 : Int32} {u2 : Int32} (hk : k ≤ 511) (hR : RR k h made tim lv pl first size nums gsz seeds kept cnt prt num ses rol opn awl aws oct ksf ou ut lk mt hd mmd typ rd giv us mkd mtr mdl tp gv se ro opv aw sd ot ct cr ud lo wl ub ul ua) (h2 : (r2, u2) = F_X6_left cod mt hd mmd typ rd giv us mtr lo wl p1 p2) : F_X5_left made tim lv (num h) (ses h) (rol h) (opn h) (awl h) (aws h) (oct h) (ksf h) (ou h) (lk h) p1 p2 = r2 ∧ RR (k + 1) h made tim lv pl first size nums gsz seeds kept cnt prt num ses rol opn awl aws oct ksf ou ut lk mt hd mmd typ rd giv us mkd mtr mdl tp gv se ro opv aw sd ot ct cr ud lo wl ub ul ua := by
  unfold F_X6_left at h2
  unfold F_X5_left
  rcases made_eq (made := made) (tim := tim) hR.2.2.1.2.2 0 mt hd mmd typ rd giv us p1 with ⟨e1, e2⟩ | ⟨y, e1, e2, hp, -⟩
  · rw [if_pos e2] at h2
    rw [e1]
    cases h2
    exact ⟨rfl, op_none hR⟩
  · rw [if_neg e2, ixh hR.1 hp] at h2
    rw [e1]
    have hl := hR.2.2.2.2.2.2.2.2.2.2.2.2.2.2.2 h hR.1.1 p1.toNatClampNeg (hi_lt hp)
    show (if lg_cmp p2 (F_X3_lockedUntil (num h) (ses h) (rol h) (opn h) (awl h) (aws h) (oct h) (ksf h) (ou h) (lk h) p1) < 0 then _ else (0 : Int32)) = r2 ∧ _
    rw [lu_eq hp]
    rcases hl with ⟨w1, w2⟩ | ⟨w1, w2, w3⟩
    · rw [w1, if_neg (by decide)] at h2
      rw [w2]
      by_cases c1 : lg_cmp p2 (lo (21 * h + p1.toNatClampNeg)) < 0
      · rw [if_pos c1] at h2 ⊢
        by_cases c2 : 0 ≤ lg_cmp p2 (lo (21 * h + p1.toNatClampNeg) - 1000000)
        · rw [if_pos c2] at h2 ⊢; cases h2; exact ⟨rfl, op_none hR⟩
        · rw [if_neg c2] at h2 ⊢; cases h2; exact ⟨rfl, op_none hR⟩
      · rw [if_neg c1] at h2 ⊢; cases h2; exact ⟨rfl, op_none hR⟩
    · rw [w1, if_pos rfl] at h2
      rw [w2, if_neg (fun q => minl_lt (lg_lt.mp q))]
      cases h2
      exact ⟨rfl, op_none hR⟩
set_option maxHeartbeats 2000000 in
theorem op_log {k h : Nat} {made : Int32} {tim : Int64} {lv : Nat → Option Nat} {pl : va_W} {first : Int32} {size : Int32} {nums : Nat → Int32} {gsz : Int32} {seeds : Nat → Int32} {kept : Int32} {cnt : Int32} {prt : Nat → Int32} {num : Nat → Int32} {ses : Nat → Int32} {rol : Nat → Int64} {opn : Nat → Int32} {awl : Nat → Int32} {aws : Nat → Int32} {oct : Nat → Int32} {ksf : Nat → Int32} {ou : Nat → Int32} {ut : Nat → Nat → Int32} {lk : Nat → Nat → Int64} {mt : Int64} {hd : Int32} {mmd : Int32} {typ : Int32} {rd : Int32} {giv : Int32} {us : Int32} {mkd : Nat → Int32} {mtr : Nat → Int32} {mdl : Nat → Int64} {tp : Nat → Int32} {gv : Nat → Int32} {se : Nat → Int32} {ro : Nat → Int64} {opv : Nat → Int32} {aw : Nat → Int32} {sd : Nat → Int32} {ot : Nat → Int32} {ct : Nat → Int32} {cr : Nat → Int32} {ud : Nat → Int32} {lo : Nat → Int64} {wl : Nat → Int32} {ub : Nat → Int32} {ul : Nat → Int32} {ua : Nat → Int32} {cod : Int32} {p1 : Int32} {p2 : Int32} {r2 : Int32} {u2 : Int32} (hk : k ≤ 511) (hR : RR k h made tim lv pl first size nums gsz seeds kept cnt prt num ses rol opn awl aws oct ksf ou ut lk mt hd mmd typ rd giv us mkd mtr mdl tp gv se ro opv aw sd ot ct cr ud lo wl ub ul ua) (h2 : (r2, u2) = F_X6_log cod mt hd mmd typ rd giv us ub ul ua p1 p2) : F_X5_log made tim kept cnt prt p1 p2 = r2 ∧ RR (k + 1) h made tim lv pl first size nums gsz seeds kept cnt prt num ses rol opn awl aws oct ksf ou ut lk mt hd mmd typ rd giv us mkd mtr mdl tp gv se ro opv aw sd ot ct cr ud lo wl ub ul ua := by
  obtain ⟨u, hu, e1, e2, e3, hp⟩ := hR.2.2.2.2.1
  have key : (if p1 < 0 then ((-1 : Int32), (0 : Int32)) else (if us ≤ p1 then ((-1), 0) else (if p1 ≤ 299 then (if p2 < 0 then ((-2), 0) else (if p2 ≤ 2 then (if p2 = 0 then ((ub p1.toNatClampNeg), 0) else (if p2 = 1 then ((ul p1.toNatClampNeg), 0) else ((ua p1.toNatClampNeg), 0))) else ((-2), 0))) else ((-1), 0)))) = ((if (F_X4_has kept cnt p1) = 0 then (-1) else (if p2 < 0 then (-2) else (if p2 < 3 then (F_X4_part kept cnt prt p1 p2) else (-2)))), 0) := by
    by_cases c1 : p1 < 0
    · have f : F_X4_has kept cnt p1 = 0 := if_pos c1
      rw [if_pos c1, if_pos f]
    · obtain ⟨i, hi, rfl⟩ := nI_of c1
      have hk2 : F_X4_has kept cnt (nI i) = if kept ≤ nI i then 0 else 1 := if_neg c1
      rw [if_neg c1]
      by_cases c2 : us ≤ nI i
      · have c3 : kept ≤ nI i := by rw [e1] at c2; rw [e3]; exact (nI_leI (by omega) hi).mpr (by have := (nI_leI (by omega) hi).mp c2; omega)
        rw [if_pos c2, if_pos (hk2.trans (if_pos c3))]
      · have c2' : i < u := by
          rcases Nat.lt_or_ge i u with q | q
          · exact q
          · exact absurd (by rw [e1]; exact (nI_leI (by omega) hi).mpr q) c2
        rw [if_neg c2]
        by_cases c4 : nI i ≤ 299
        · have c4' : i < 300 := by have a : (nI i).toInt ≤ 299 := i_le c4; rw [nI_toInt hi] at a; omega
          have c5 : ¬ kept ≤ nI i := fun q => by rw [e3] at q; have := (nI_leI (by omega) hi).mp q; omega
          have f : ¬ F_X4_has kept cnt (nI i) = 0 := by rw [hk2, if_neg c5]; decide
          rw [if_pos c4, if_neg f]
          by_cases d1 : p2 < 0
          · rw [if_pos d1, if_pos d1]
          · rw [if_neg d1, if_neg d1]
            by_cases d2 : p2 ≤ 2
            · have d3 : p2 < 3 := i32_lt (by have a : p2.toInt ≤ 2 := i_le d2; show p2.toInt < 3; omega)
              have d4 : ¬ 3 ≤ p2 := fun q => by have a : (3 : Int) ≤ p2.toInt := i_le q; have b : p2.toInt ≤ 2 := i_le d2; omega
              have fp : F_X4_part kept cnt prt (nI i) p2 = prt ((nI i * 3 + p2).toNatClampNeg) := (if_neg f).trans ((if_neg d1).trans (if_neg d4))
              rw [if_pos d2, if_pos d3, fp, nI_clamp hi]
              have hj := hp i (by omega)
              have t3 : (3 : Int32) = nI 3 := rfl
              by_cases q0 : p2 = 0
              · rw [if_pos q0, q0, show (0 : Int32) = nI 0 from rfl, t3, pk_mul, nI_add, nI_clamp (by omega), show i * 3 + 0 = 3 * i by omega, hj.1]
              · rw [if_neg q0]
                by_cases q1 : p2 = 1
                · rw [if_pos q1, q1, show (1 : Int32) = nI 1 from rfl, t3, pk_mul, nI_add, nI_clamp (by omega), show i * 3 + 1 = 3 * i + 1 by omega, hj.2.1]
                · have q2 : p2 = nI 2 := by
                    have a := i_nlt d1
                    have b : p2.toInt ≤ 2 := i_le d2
                    have n0 : p2.toInt ≠ 0 := fun z => q0 (Int32.toInt_inj.1 z)
                    have n1 : p2.toInt ≠ 1 := fun z => q1 (Int32.toInt_inj.1 z)
                    have a' : (0 : Int) ≤ p2.toInt := a
                    exact Int32.toInt_inj.1 (show p2.toInt = 2 by omega)
                  rw [if_neg q1, q2, t3, pk_mul, nI_add, nI_clamp (by omega), show i * 3 + 2 = 3 * i + 2 by omega, hj.2.2]
            · have d3 : ¬ p2 < 3 := fun q => d2 (i32_le (by have a : p2.toInt < 3 := i_lt q; show p2.toInt ≤ 2; omega))
              rw [if_neg d2, if_neg d3]
        · have c4' : 300 ≤ i := by have a : (299 : Int) < (nI i).toInt := i_nle c4; rw [nI_toInt hi] at a; omega
          have c5 : kept ≤ nI i := by rw [e3]; exact (nI_leI (by omega) hi).mpr (by omega)
          rw [if_neg c4, if_pos (hk2.trans (if_pos c5))]
  unfold F_X6_log at h2
  unfold F_X5_log
  by_cases m1 : p1 = -1
  · rw [if_pos m1] at h2 ⊢
    by_cases m2 : p2 = 0
    · rw [if_pos m2] at h2 ⊢; cases h2; exact ⟨by rw [e1, e2], op_none hR⟩
    · rw [if_neg m2] at h2 ⊢
      have h3 := h2.trans key
      cases h3
      exact ⟨rfl, op_none hR⟩
  · rw [if_neg m1] at h2 ⊢
    have h3 := h2.trans key
    cases h3
    exact ⟨rfl, op_none hR⟩
set_option maxHeartbeats 2000000 in
theorem op_digit {k h : Nat} {made : Int32} {tim : Int64} {lv : Nat → Option Nat} {pl : va_W} {first : Int32} {size : Int32} {nums : Nat → Int32} {gsz : Int32} {seeds : Nat → Int32} {kept : Int32} {cnt : Int32} {prt : Nat → Int32} {num : Nat → Int32} {ses : Nat → Int32} {rol : Nat → Int64} {opn : Nat → Int32} {awl : Nat → Int32} {aws : Nat → Int32} {oct : Nat → Int32} {ksf : Nat → Int32} {ou : Nat → Int32} {ut : Nat → Nat → Int32} {lk : Nat → Nat → Int64} {mt : Int64} {hd : Int32} {mmd : Int32} {typ : Int32} {rd : Int32} {giv : Int32} {us : Int32} {mkd : Nat → Int32} {mtr : Nat → Int32} {mdl : Nat → Int64} {tp : Nat → Int32} {gv : Nat → Int32} {se : Nat → Int32} {ro : Nat → Int64} {opv : Nat → Int32} {aw : Nat → Int32} {sd : Nat → Int32} {ot : Nat → Int32} {ct : Nat → Int32} {cr : Nat → Int32} {ud : Nat → Int32} {lo : Nat → Int64} {wl : Nat → Int32} {ub : Nat → Int32} {ul : Nat → Int32} {ua : Nat → Int32} {cod : Int32} {p1 : Int32} {r1 : Int32} {oa u1 : Nat → Int64} {r2 : Int32} {u2 : Int32} (hk : k ≤ 511) (hR : RR k h made tim lv pl first size nums gsz seeds kept cnt prt num ses rol opn awl aws oct ksf ou ut lk mt hd mmd typ rd giv us mkd mtr mdl tp gv se ro opv aw sd ot ct cr ud lo wl ub ul ua) (h1 : (r1, u1) = F_L_digit (F_X5_digit made tim (num h) (ses h) (rol h) (opn h) (awl h) (aws h) (oct h) (ksf h) (ou h) p1) oa) (h2 : (r2, u2) = F_X6_digit cod mt hd mmd typ rd giv us ot p1) : r1 = u2 ∧ (r1 = 0 → u1 (0 : Int32).toNatClampNeg = r2.toInt64) ∧ RR (k + 1) h made tim lv pl first size nums gsz seeds kept cnt prt num ses rol opn awl aws oct ksf ou ut lk mt hd mmd typ rd giv us mkd mtr mdl tp gv se ro opv aw sd ot ct cr ud lo wl ub ul ua := by
  have ch := ceh hR.1
  have ho : ou h = ot h := hR.2.2.2.2.2.2.2.2.2.2.2.1 h hR.1.1
  obtain ⟨V, hV, eV⟩ := mask_eq (ot h)
  obtain ⟨D, d1, d2, d3, d4⟩ := cnt_loop (cod := cod) (mt := mt) (hd := hd) (mmd := mmd) (typ := typ) (rd := rd) (giv := giv) (us := us) (ot := ot) (p1 := p1) hV 9 12 11 0 10 rfl rfl (by decide) (by decide)
  have h2 : (r2, u2) = FL_X6_digit_25 cod mt hd mmd typ rd giv us ot p1 11 1 (((((ot (hd : Int32).toNatClampNeg) : Int32).toInt64) &&& 4294967295) / 10) := h2
  have ed : lN V / 10 = lN (V / 10) := pk_lDiv (b := 10) (by omega) (by decide) (by decide)
  rw [ch] at h2 d4
  rw [eV, ed] at h2
  have h2 := h2.trans d4
  unfold F_X5_digit at h1
  have ec : F_X5_countDigits ((ou h).toInt64 &&& 4294967295) = nI D := by rw [ho, eV]; exact d3
  rw [ec, ho] at h1
  by_cases c1 : p1 < 0
  · rw [if_pos c1] at h1 h2
    have h1 : (r1, u1) = (1, oa) := h1
    cases h1; cases h2
    exact ⟨rfl, fun z => absurd z (by decide), op_none hR⟩
  · rw [if_neg c1] at h1 h2
    by_cases c2 : p1 < nI D
    · rw [if_pos c2] at h1 h2
      obtain ⟨i, hi, rfl⟩ := nI_of c1
      have hiD : i < D := (nI_ltI (by omega) (by omega)).mp c2
      obtain ⟨D', rfl⟩ : ∃ D', D = D' + 1 := ⟨D - 1, by omega⟩
      rw [nI_pred] at h1 h2
      obtain ⟨r, a, b⟩ := dig_loop (made := made) (tim := tim) (num := num h) (ses := ses h) (rol := rol h) (opn := opn h) (awl := awl h) (aws := aws h) (oct := oct h) (ksf := ksf h) (ou := ot h) (cod := cod) (mt := mt) (hd := hd) (mmd := mmd) (typ := typ) (rd := rd) (giv := giv) (us := us) (ot := ot) (i := i) (by omega) 11 D' ((ot h).toInt64 &&& 4294967295) (by omega) (by omega)
      rw [a] at h1
      rw [b] at h2
      have h1 : (r1, u1) = (0, vp_updL oa (0 : Int32).toNatClampNeg r.toInt64) := h1
      cases h1; cases h2
      exact ⟨rfl, fun _ => pk_uLs, op_none hR⟩
    · rw [if_neg c2] at h1 h2
      have h1 : (r1, u1) = (1, oa) := h1
      cases h1; cases h2
      exact ⟨rfl, fun z => absurd z (by decide), op_none hR⟩
set_option maxHeartbeats 2000000 in
theorem op_tester {k h : Nat} {made : Int32} {tim : Int64} {lv : Nat → Option Nat} {pl : va_W} {first : Int32} {size : Int32} {nums : Nat → Int32} {gsz : Int32} {seeds : Nat → Int32} {kept : Int32} {cnt : Int32} {prt : Nat → Int32} {num : Nat → Int32} {ses : Nat → Int32} {rol : Nat → Int64} {opn : Nat → Int32} {awl : Nat → Int32} {aws : Nat → Int32} {oct : Nat → Int32} {ksf : Nat → Int32} {ou : Nat → Int32} {ut : Nat → Nat → Int32} {lk : Nat → Nat → Int64} {mt : Int64} {hd : Int32} {mmd : Int32} {typ : Int32} {rd : Int32} {giv : Int32} {us : Int32} {mkd : Nat → Int32} {mtr : Nat → Int32} {mdl : Nat → Int64} {tp : Nat → Int32} {gv : Nat → Int32} {se : Nat → Int32} {ro : Nat → Int64} {opv : Nat → Int32} {aw : Nat → Int32} {sd : Nat → Int32} {ot : Nat → Int32} {ct : Nat → Int32} {cr : Nat → Int32} {ud : Nat → Int32} {lo : Nat → Int64} {wl : Nat → Int32} {ub : Nat → Int32} {ul : Nat → Int32} {ua : Nat → Int32} {cod : Int32} {fT : Nat → Option Nat} {ta : Nat → Nat} {p1 : Int32} {r1 : Int32} {u1 : Nat} {r2 : Int32} {u2 : Int32 × Int32} (hk : k ≤ 511) (hR : RR k h made tim lv pl first size nums gsz seeds kept cnt prt num ses rol opn awl aws oct ksf ou ut lk mt hd mmd typ rd giv us mkd mtr mdl tp gv se ro opv aw sd ot ct cr ud lo wl ub ul ua) (h1 : (r1, u1) = F_X5_tester (ta h) made tim fT (num h) (ses h) (rol h) (opn h) (awl h) (aws h) (oct h) (ksf h) (ou h) ta p1) (h2 : (r2, u2) = F_X6_tester cod mt hd mmd typ rd giv us p1) : r1 = r2 ∧ ∃ h', u1 = ta h' ∧ RR (k + 1) h' made tim lv pl first size nums gsz seeds kept cnt prt num ses rol opn awl aws oct ksf ou ut lk mt u2.2 mmd typ rd giv us mkd mtr mdl tp gv se ro opv aw sd ot ct cr ud lo wl ub ul ua := by
  have hn := hR.2.2.2.2.2.1 h hR.1.1
  unfold F_X6_tester at h2
  unfold F_X5_tester at h1
  by_cases c1 : p1 < 1
  · rw [if_pos c1] at h1 h2; cases h1; cases h2
    exact ⟨rfl, h, rfl, op_none hR⟩
  · rw [if_neg c1] at h1 h2
    by_cases c2 : p1 ≤ 4
    · rw [if_pos c2] at h1 h2
      cases h1; cases h2
      have hv := in_t4 c1 c2
      obtain ⟨a1, a2, a3, a4, a5, a6, a7, a8, a9, a10, a11, a12, a13, a14, a15, a16⟩ := op_none hR
      refine ⟨by rw [hn, a1.2]; exact (nI_1 h).symm, (p1 - 1).toNatClampNeg, rfl, ⟨hi_lt hv, ?_⟩, a2, a3, a4, a5, a6, a7, a8, a9, a10, a11, a12, a13, a14, a15, a16⟩
      obtain ⟨j, hj, e⟩ := vp_in_of hv (by decide)
      show p1 - 1 = _
      rw [e, nI_clamp (by omega)]
    · rw [if_neg c2] at h1 h2; cases h1; cases h2
      exact ⟨rfl, h, rfl, op_none hR⟩
