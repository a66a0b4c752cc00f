/-! sound: bits, levels of the class kept under a stamp -/
theorem oi_bv (a : Int) : (oi a).toBitVec = BitVec.ofInt 32 a := rfl
theorem oi_nt (a : Nat) (h : a < 2147483648) : (oi a).toInt = a := by
  unfold oi
  rw [Int32.toInt_ofInt]
  simp only [Int.bmod_def, show ((Int32.size : Nat) : Int) = 4294967296 from rfl]
  omega
theorem bv_int (x : Int32) (n : Nat) (h : x.toBitVec.toNat = n) (hn : n < 2147483648) : x.toInt = n := by
  show x.toBitVec.toInt = n
  rw [BitVec.toInt_eq_toNat_cond, h, if_pos (by omega)]
theorem oi_tn (a : Nat) (h : a < 2147483648) : (oi a).toBitVec.toNat = a := by
  show (BitVec.ofInt 32 (a : Int)).toNat = a
  rw [BitVec.ofInt_natCast, BitVec.toNat_ofNat]
  omega
theorem ishr7 (a : Nat) (h : a < 2147483648) : ishr a 7 = ((a / 128 : Nat) : Int) := by
  unfold ishr
  show ((oi a).toBitVec.sshiftRight' ((oi 7 &&& 31).toBitVec.smod 32)).toInt = _
  have e : (oi 7 &&& 31).toBitVec.smod 32 = 7#32 := by decide
  rw [e, BitVec.sshiftRight_eq', BitVec.toInt_sshiftRight]
  show ((oi a).toInt) >>> 7 = _
  rw [oi_nt a h, Int.shiftRight_eq_div_pow]
  rfl
theorem iand127 (a : Nat) (h : a < 2147483648) : iand a 127 = ((a % 128 : Nat) : Int) := by
  unfold iand
  refine bv_int _ _ ?_ (by omega)
  show ((oi a).toBitVec &&& (oi 127).toBitVec).toNat = _
  rw [BitVec.toNat_and, oi_tn a h]
  have e : (oi 127).toBitVec.toNat = 2 ^ 7 - 1 := by decide
  rw [e, Nat.and_two_pow_sub_one_eq_mod]
theorem ior7 (s v : Nat) (h : s < 10000000) (hv : v < 128) : ior (ishl s 7) v = ((128 * s + v : Nat) : Int) := by
  have h1 : ishl s 7 = ((128 * s : Nat) : Int) := by
    unfold ishl
    refine bv_int _ _ ?_ (by omega)
    show ((oi s).toBitVec <<< ((oi 7 &&& 31).toBitVec.smod 32)).toNat = _
    have e : (oi 7 &&& 31).toBitVec.smod 32 = 7#32 := by decide
    rw [e, BitVec.shiftLeft_eq', BitVec.toNat_shiftLeft, oi_tn s (by omega)]
    rw [show (7#32).toNat = 7 from rfl, Nat.shiftLeft_eq]
    omega
  rw [h1]
  unfold ior
  refine bv_int _ _ ?_ (by omega)
  show ((oi (128 * s : Nat)).toBitVec ||| (oi v).toBitVec).toNat = _
  rw [BitVec.toNat_or, oi_tn _ (by omega), oi_tn _ (by omega)]
  rw [show 128 * s = s <<< 7 by rw [Nat.shiftLeft_eq]; omega]
  rw [← Nat.shiftLeft_add_eq_or_of_lt (by omega)]
def clp (z : Int) : Int := if z < 0 then 0 else if 99 < z then 99 else z
theorem clp_R (z : Int) : 0 ≤ clp z ∧ clp z ≤ 99 := by unfold clp; split <;> (try split) <;> omega
theorem clp_c (s : Int) : (if (0 : Int) < (if s < 99 then s else 99) then (if s < 99 then s else 99) else 0) = clp s := by
  unfold clp
  repeat' split
  all_goals omega
def LV (f : Int → Int → Int → Int → Int) (dx dy sx sy sh : Nat → Int) (ns : Nat) (cl v a b : Int) : Int :=
  if a < 0 ∨ b < 0 ∨ a = b then 0 else clp (f v (farI dx dy a.toNat b.toNat) (btw ns sx sy sh (dx a.toNat) (dx b.toNat) (dy a.toNat) (dy b.toNat)) cl)
theorem LV_R (f : Int → Int → Int → Int → Int) (dx dy sx sy sh : Nat → Int) (ns : Nat) (cl v a b : Int) : 0 ≤ LV f dx dy sx sy sh ns cl v a b ∧ LV f dx dy sx sy sh ns cl v a b ≤ 99 := by
  unfold LV
  split
  · omega
  · exact clp_R _
theorem bw_comm (v a b : Int) : bw v a b = bw v b a := by
  unfold bw
  refine decide_eq_decide.2 ?_
  constructor <;> intro h <;> (repeat' split) <;> (repeat' split at h) <;> omega
theorem btw_comm (n : Nat) (sx sy sh : Nat → Int) (xa xb ya yb : Int) : btw n sx sy sh xa xb ya yb = btw n sx sy sh xb xa yb ya := by
  unfold btw
  congr 1
  funext s acc
  rw [bw_comm (sx s) xa xb, bw_comm (sy s) ya yb]
theorem LV_comm (f : Int → Int → Int → Int → Int) (dx dy sx sy sh : Nat → Int) (ns : Nat) (cl v a b : Int) : LV f dx dy sx sy sh ns cl v a b = LV f dx dy sx sy sh ns cl v b a := by
  unfold LV
  rw [farI_comm, btw_comm]
  by_cases c : a < 0 ∨ b < 0 ∨ a = b
  · rw [if_pos c, if_pos (by omega)]
  · rw [if_neg c, if_neg (by omega)]
def Lc (f : Int → Int → Int → Int → Int) (I : Nat → Nat → Int) : Int → Int → Int → Int := LV f (I 5) (I 6) (I 7) (I 8) (I 9) (I 4 8).toNat (I 23 4)
def Lm (f : Int → Int → Int → Int → Int) (I : Nat → Nat → Int) : Int → Int → Int → Int := LV f (I 59) (I 60) (I 61) (I 62) (I 63) (I 58 6).toNat (I 58 18)
def hiOf (q : Nat) : Nat := if q < 1 then 1 else if q < 3 then 2 else if q < 6 then 3 else if q < 10 then 4 else if q < 15 then 5 else if q < 21 then 6 else if q < 28 then 7 else if q < 36 then 8 else 9
def loOf (q : Nat) : Nat := q - hiOf q * (hiOf q - 1) / 2
theorem tri_d : ∀ hi, hi < 10 → ∀ lo, lo < hi → hi * (hi - 1) / 2 + lo < 45 ∧ hiOf (hi * (hi - 1) / 2 + lo) = hi ∧ loOf (hi * (hi - 1) / 2 + lo) = lo := by decide
theorem tri_c : ∀ hi : Nat, hi < 10 → 1 ≤ hi → wr (Int.tdiv (wr ((hi : Int) * (wr ((hi : Int) - 1)))) 2) = ((hi * (hi - 1) / 2 : Nat) : Int) := by decide
theorem wst_or (w : Nat × Bool) : wst w = 19 ∨ wst w = 20 := by
  unfold wst
  split
  · exact Or.inr rfl
  · exact Or.inl rfl
def lawC (w : Nat × Bool) (I : Nat → Nat → Int) (f : Int → Int → Int → Int → Int) : Prop := ∀ (I' J : Nat → Nat → Int), I' 17 5 = I 17 5 → I' (wst w) = I (wst w) → ∀ (d : Nat) (v a b c : Int), 10 ≤ d → (0 ≤ v ∧ v ≤ 99) → (0 ≤ a ∧ a < 200) → (0 ≤ b ∧ b ≤ 1000) → (0 ≤ c ∧ c ≤ 9) →
  ∃ I'', semC d 47 [vr 17, vi v, vi a, vi b, vi c] (mk w I' J) = some (some (vi (f v a b c)), mk w I'' J) ∧ ∀ c, c ≠ 21 → c ≠ 22 → I'' c = I' c
def st (I : Nat → Nat → Int) : Int := 1 + I 4 9 + I 17 9 + I 23 5
def CO (f : Int → Int → Int → Int → Int) (I : Nat → Nat → Int) : Prop := ∀ k : Nat, k < 4500 → (0 ≤ I 24 k ∧ I 24 k < 2147483648) ∧ I 24 k / 128 ≤ st I ∧ (I 24 k / 128 = st I → I 24 k % 128 = Lc f I (k % 100 : Nat) (loOf (k / 100)) (hiOf (k / 100)))
def GC (I : Nat → Nat → Int) : Prop := (0 ≤ I 4 4 ∧ I 4 4 ≤ 10) ∧ (0 ≤ I 4 8 ∧ I 4 8 ≤ 10) ∧ pos (I 5) ∧ pos (I 6) ∧ pos (I 9) ∧ (0 ≤ I 23 4 ∧ I 23 4 ≤ 9) ∧ (0 ≤ I 4 9 ∧ I 4 9 ≤ 1000000) ∧ (0 ≤ I 17 9 ∧ I 17 9 ≤ 1000000) ∧ (0 ≤ I 23 5 ∧ I 23 5 ≤ 1000000)
def KC (f : Int → Int → Int → Int → Int) (w : Nat × Bool) (I : Nat → Nat → Int) : Prop := GC I ∧ lawC w I f ∧ CO f I
def eC (I I' : Nat → Nat → Int) : Prop := ∀ c, c ≠ 21 → c ≠ 22 → c ≠ 24 → I' c = I c
theorem eC_r (I : Nat → Nat → Int) : eC I I := fun _ _ _ _ => rfl
theorem eC_t {I I' I'' : Nat → Nat → Int} (h : eC I I') (h' : eC I' I'') : eC I I'' := fun c a b e => (h' c a b e).trans (h c a b e)
/-- levels and the law stay when other rows change -/
theorem KC_x {f : Int → Int → Int → Int → Int} {w : Nat × Bool} {I I' : Nat → Nat → Int} (h : KC f w I) (h4 : I' 4 = I 4) (h5 : I' 5 = I 5) (h6 : I' 6 = I 6) (h7 : I' 7 = I 7) (h8 : I' 8 = I 8) (h9 : I' 9 = I 9) (h17 : I' 17 = I 17) (h19 : I' 19 = I 19) (h20 : I' 20 = I 20) (h23 : I' 23 = I 23) (h24 : I' 24 = I 24) : KC f w I' := by
  obtain ⟨g, l, c⟩ := h
  refine ⟨?_, ?_, ?_⟩
  · unfold GC at g ⊢
    rw [h4, h5, h6, h9, h17, h23]; exact g
  · unfold lawC at l ⊢
    have hw : I' (wst w) = I (wst w) := by rcases wst_or w with h | h <;> rw [h] <;> assumption
    rw [h17, hw]; exact l
  · unfold CO st Lc at c ⊢
    rw [h4, h5, h6, h7, h8, h9, h17, h23, h24]; exact c
theorem Lc_x {f : Int → Int → Int → Int → Int} {I I' : Nat → Nat → Int} (h4 : I' 4 = I 4) (h5 : I' 5 = I 5) (h6 : I' 6 = I 6) (h7 : I' 7 = I 7) (h8 : I' 8 = I 8) (h9 : I' 9 = I 9) (h23 : I' 23 = I 23) : Lc f I' = Lc f I := by
  unfold Lc; rw [h4, h5, h6, h7, h8, h9, h23]
theorem Lc_e {f : Int → Int → Int → Int → Int} {I I' : Nat → Nat → Int} (h : eC I I') : Lc f I' = Lc f I :=
  Lc_x (h 4 (by omega) (by omega) (by omega)) (h 5 (by omega) (by omega) (by omega)) (h 6 (by omega) (by omega) (by omega)) (h 7 (by omega) (by omega) (by omega)) (h 8 (by omega) (by omega) (by omega)) (h 9 (by omega) (by omega) (by omega)) (h 23 (by omega) (by omega) (by omega))

theorem idx_h (tr lo v k : Nat) (h : (k : Int) = ((tr : Int) + lo) * 100 + v) (h1 : tr + lo < 45) (h2 : v ≤ 99) : k < 4500 ∧ k % 100 = v ∧ k / 100 = tr + lo := by omega
theorem lev_core (d : Nat) (w : Nat × Bool) (I J : Nat → Nat → Int) (f : Int → Int → Int → Int → Int) (e : Nat) (v : Nat) (x2 x3 : Int) (lo hi : Nat) (he : 10 ≤ e) (hK : KC f w I) (hv : v ≤ 99) (hh : hi < 10) (hl : lo < hi) :
    ∃ I', Sem e 72 29 [some (vr 23), some (vi (v : Int)), some (vi x2), some (vi x3), some (vi (lo : Int)), some (vi (hi : Int)), none, none, none] [] (mk w I J) = some (some (vi (Lc f I v lo hi)), mk w I' J) ∧ eC I I' ∧ KC f w I' := by
  obtain ⟨g, l, c⟩ := id hK
  obtain ⟨g4, g8, g5, g6, g9, g23, gs1, gs2, gs3⟩ := id g
  have t1 : Unit → _ := fun _ => tri_c hi hh (by omega)
  have t2 := (tri_d hi hh lo hl).1
  have t3 : Unit → (hiOf (hi * (hi - 1) / 2 + lo) = hi ∧ loOf (hi * (hi - 1) / 2 + lo) = lo) := fun _ => (tri_d hi hh lo hl).2
  generalize htr : hi * (hi - 1) / 2 = tr at t1 t2 t3
  clear htr
  obtain ⟨k, hkk⟩ : ∃ k : Nat, (k : Int) = ((tr : Int) + lo) * 100 + v := ⟨(((tr : Int) + lo) * 100 + v).toNat, by omega⟩
  have hi1 : wr ((wr ((tr : Int) + lo)) * 100) = ((tr : Int) + lo) * 100 := by rw [wr_if (a := (tr : Int) + lo) (by omega), wr_if (by omega)]
  have hi2 : wr (((tr : Int) + lo) * 100 + v) = (k : Int) := by rw [wr_if (by omega)]; omega
  obtain ⟨hk, hk1, hk2⟩ := idx_h tr lo v k hkk t2 hv
  clear hkk
  have hst : wr ((wr ((wr ((1 : Int) + (I 4 9))) + (I 17 9))) + (I 23 5)) = st I := by unfold st; rw [wr_if (a := (1 : Int) + _) (by omega), wr_if (a := 1 + I 4 9 + _) (by omega), wr_if (by omega)]
  obtain ⟨c1, c2, c3⟩ := c _ hk
  rw [hk1, hk2, (t3 ()).1, (t3 ()).2] at c3
  have hsR : 1 ≤ st I ∧ st I ≤ 3000001 := by unfold st; omega
  rw [b_72_29, t1 (), hi1, hi2, if_neg (by omega), b_72_53, if_pos (by omega), b_72_65, if_pos (by omega), nat_i, hst]
  obtain ⟨m, hm⟩ : ∃ m : Nat, I 24 k = m := ⟨(I 24 k).toNat, by omega⟩
  rw [hm] at c1 c2 c3 ⊢
  rw [ishr7 m (by omega)]
  by_cases q : ((m / 128 : Nat) : Int) = st I
  · rw [if_pos q, b_72_104, if_pos (by omega), nat_i, hm, iand127 m (by omega)]
    refine ⟨I, ?_, eC_r I, hK⟩
    have := c3 (by omega)
    rw [← this]
    rfl
  · have hb := btw_R (n := (I 4 8).toNat) (sx := I 7) (sy := I 8) (xa := I 5 lo) (xb := I 5 hi) (ya := I 6 lo) (yb := I 6 hi) g9
    have hf := farI_R g5 g6 lo hi
    rw [if_neg q, b_72_115, semK_of (s_27 _ _ _ _ _ _ (by omega) (by omega) (by omega) g5 g6)]
    simp only [mpush, nat_i]
    rw [b_72_131, semK_of (s_28 _ _ _ _ _ _ (by omega) (by omega) (by omega) g8 g9)]
    simp only [mpush, nat_i]
    obtain ⟨I1, k1, k2⟩ := l I J rfl rfl e v (farI (I 5) (I 6) lo hi) (btw (I 4 8).toNat (I 7) (I 8) (I 9) (I 5 lo) (I 5 hi) (I 6 lo) (I 6 hi)) (I 23 4) he (by omega) hf (by omega) g23
    rw [b_72_142, semK_of k1]
    simp only [mpush]
    have hL : Lc f I v lo hi = clp (f v (farI (I 5) (I 6) lo hi) (btw (I 4 8).toNat (I 7) (I 8) (I 9) (I 5 lo) (I 5 hi) (I 6 lo) (I 6 hi)) (I 23 4)) := by
      unfold Lc LV; rw [if_neg (by omega), nat_i, nat_i]
    rw [b_72_149, if_pos (by omega), nat_i, clp_c, ← hL]
    have hLR := LV_R f (I 5) (I 6) (I 7) (I 8) (I 9) (I 4 8).toNat (I 23 4) v lo hi
    obtain ⟨s, hs⟩ : ∃ s : Nat, st I = s := ⟨(st I).toNat, by omega⟩
    obtain ⟨z, hz⟩ : ∃ z : Nat, Lc f I v lo hi = z := ⟨(Lc f I v lo hi).toNat, by have : 0 ≤ Lc f I v lo hi := hLR.1; omega⟩
    have hz9 : z ≤ 99 := by have : Lc f I v lo hi ≤ 99 := hLR.2; omega
    have hor : ior (ishl (st I) 7) (Lc f I v lo hi) = ((128 * s + z : Nat) : Int) := by rw [hs, hz, ior7 s z (by omega) (by omega)]
    rw [hor]
    have he1 : eC I (up2 I1 24 k ((128 * s + z : Nat) : Int)) := by
      intro c h1 h2 h3
      rw [up2_ne _ _ _ h3, k2 c h1 h2]
    have he2 : ∀ c, c ≠ 21 → c ≠ 22 → c ≠ 24 → up2 I1 24 k ((128 * s + z : Nat) : Int) c = I c := he1
    refine ⟨_, rfl, he1, ?_, ?_, ?_⟩
    · unfold GC
      rw [he2 4 (by omega) (by omega) (by omega), he2 5 (by omega) (by omega) (by omega), he2 6 (by omega) (by omega) (by omega), he2 9 (by omega) (by omega) (by omega), he2 17 (by omega) (by omega) (by omega), he2 23 (by omega) (by omega) (by omega)]
      exact g
    · unfold lawC
      have hw := wst_or w
      rw [he2 17 (by omega) (by omega) (by omega), he2 (wst w) (by omega) (by omega) (by omega)]
      exact l
    · intro k' hk'
      have hst' : st (up2 I1 24 k ((128 * s + z : Nat) : Int)) = st I := by
        unfold st
        rw [he2 4 (by omega) (by omega) (by omega), he2 17 (by omega) (by omega) (by omega), he2 23 (by omega) (by omega) (by omega)]
      rw [hst', Lc_e he1]
      by_cases ck : k' = k
      · rw [ck, up2_s, hk1, hk2, (t3 ()).1, (t3 ()).2, hz]
        omega
      · rw [up2_sne _ _ _ ck, k2 24 (by omega) (by omega)]
        exact c k' hk'
theorem s_72 (d : Nat) (w : Nat × Bool) (I J : Nat → Nat → Int) (f : Int → Int → Int → Int → Int) (v a b : Int) (hd : 11 ≤ d) (hK : KC f w I) (hv : 0 ≤ v ∧ v ≤ 99) (ha : a = -1 ∨ (0 ≤ a ∧ a < 10)) (hb : b = -1 ∨ (0 ≤ b ∧ b < 10)) :
    ∃ I', semC d 72 [vr 23, vi v, vi a, vi b] (mk w I J) = some (some (vi (Lc f I v a b)), mk w I' J) ∧ eC I I' ∧ KC f w I' := by
  obtain ⟨e, rfl⟩ : ∃ e, d = e + 1 := ⟨d - 1, by omega⟩
  rw [e_72, b_72_0]
  obtain ⟨vn, rfl⟩ : ∃ n : Nat, v = n := ⟨v.toNat, by omega⟩
  by_cases c0 : a < 0 ∨ b < 0 ∨ a = b
  · have hL : Lc f I (vn : Int) a b = 0 := by unfold Lc LV; rw [if_pos c0]
    refine ⟨I, ?_, eC_r I, hK⟩
    by_cases c1 : (if b < a then b else a) = -1
    · rw [if_pos c1, b_72_27, hL]
    · rw [if_neg c1, b_72_20, if_pos (by (repeat' split at c1) <;> (repeat' split) <;> omega), b_72_27, hL]
  · rw [if_neg (by split <;> omega), b_72_20, if_neg (by (repeat' split) <;> omega)]
    by_cases c1 : a < b
    · obtain ⟨lo, rfl⟩ : ∃ n : Nat, a = n := ⟨a.toNat, by omega⟩
      obtain ⟨hi, rfl⟩ : ∃ n : Nat, b = n := ⟨b.toNat, by omega⟩
      rw [if_neg (by omega), if_pos (by omega)]
      exact lev_core e w I J f e vn _ _ lo hi (by omega) hK (by omega) (by omega) (by omega)
    · obtain ⟨hi, rfl⟩ : ∃ n : Nat, a = n := ⟨a.toNat, by omega⟩
      obtain ⟨lo, rfl⟩ : ∃ n : Nat, b = n := ⟨b.toNat, by omega⟩
      rw [if_pos (by omega), if_neg (by omega), show Lc f I (vn : Int) (hi : Int) (lo : Int) = Lc f I vn lo hi from LV_comm _ _ _ _ _ _ _ _ _ _ _]
      exact lev_core e w I J f e vn _ _ lo hi (by omega) hK (by omega) (by omega) (by omega)
