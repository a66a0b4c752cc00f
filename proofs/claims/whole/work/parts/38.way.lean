def ab (z : Int) : Int := if 0 ≤ z then z else 0 - z
def farI (dx dy : Nat → Int) (a b : Nat) : Int := ab (dx a - dx b) + ab (dy a - dy b)
def bw (v a b : Int) : Bool := decide ((if b < a then b else a) ≤ v ∧ v ≤ (if a < b then b else a))
def btw (n : Nat) (sx sy sh : Nat → Int) (xa xb ya yb : Int) : Int := itr (fun s acc => if (bw (sx s) xa xb && bw (sy s) ya yb) = true then acc + sh s else acc) n 0
theorem ab_R {x y : Int} (hx : 0 ≤ x ∧ x < 100) (hy : 0 ≤ y ∧ y < 100) : 0 ≤ ab (x - y) ∧ ab (x - y) < 100 := by unfold ab; split <;> omega
theorem farI_R {dx dy : Nat → Int} (h1 : pos dx) (h2 : pos dy) (a b : Nat) : 0 ≤ farI dx dy a b ∧ farI dx dy a b < 200 := by
  have g1 := ab_R (h1 a) (h1 b)
  have g2 := ab_R (h2 a) (h2 b)
  unfold farI; omega
theorem btw_R {n : Nat} {sx sy sh : Nat → Int} {xa xb ya yb : Int} (h : pos sh) : 0 ≤ btw n sx sy sh xa xb ya yb ∧ btw n sx sy sh xa xb ya yb ≤ 100 * n := by
  unfold btw
  induction n with
  | zero => exact ⟨Int.le_refl _, Int.le_refl _⟩
  | succ n ih =>
    have g := h n
    unfold itr
    split <;> omega
theorem s_27 (d : Nat) (w : Nat × Bool) (I J : Nat → Nat → Int) (a b : Int) (hd : 1 ≤ d) (ha : 0 ≤ a ∧ a < 10) (hb : 0 ≤ b ∧ b < 10) (h5 : pos (I 5)) (h6 : pos (I 6)) : semC d 27 [vr 4, vi a, vi b] (mk w I J) = some (some (vi (farI (I 5) (I 6) a.toNat b.toNat)), mk w I J) := by
  obtain ⟨e, rfl⟩ : ∃ e, d = e + 1 := ⟨d - 1, by omega⟩
  rw [e_27]
  have g1 := h5 a.toNat
  have g2 := h5 b.toNat
  have g3 := h6 a.toNat
  have g4 := h6 b.toNat
  unfold farI ab
  by_cases c1 : 0 ≤ I 5 a.toNat - I 5 b.toNat <;> by_cases c2 : 0 ≤ I 6 a.toNat - I 6 b.toNat
  all_goals simp (disch := omega) only [b_27_0, semK, Option.bind_some, mpush, wr_if, wr_tdiv, if_pos, if_neg, ↓reduceIte, b2_t, b2_f, Bool.false_eq_true, up2_ne, up2_sne, up2_s, true_or, or_true, true_and, and_true, false_and, and_false, false_or, or_false]
theorem s_176 (d : Nat) (w : Nat × Bool) (I J : Nat → Nat → Int) (a b : Int) (hd : 2 ≤ d) (ha : 0 ≤ a ∧ a < 10) (hb : 0 ≤ b ∧ b < 10) (h5 : pos (I 59)) (h6 : pos (I 60)) : semC d 176 [vr 58, vi a, vi b] (mk w I J) = some (some (vi (farI (I 59) (I 60) a.toNat b.toNat)), mk w I J) := by
  obtain ⟨e, rfl⟩ : ∃ e, d = e + 1 := ⟨d - 1, by omega⟩
  rw [e_176]
  have g1 := h5 a.toNat
  have g2 := h5 b.toNat
  have g3 := h6 a.toNat
  have g4 := h6 b.toNat
  unfold farI ab
  by_cases c1 : 0 ≤ I 59 a.toNat - I 59 b.toNat <;> by_cases c2 : 0 ≤ I 60 a.toNat - I 60 b.toNat
  all_goals simp (disch := omega) only [b_176_0, b_176_16, b_176_32, s_136 _ _ _ _ _ _, semK, Option.bind_some, mpush, wr_if, wr_tdiv, if_pos, if_neg, ↓reduceIte, b2_t, b2_f, Bool.false_eq_true, up2_ne, up2_sne, up2_s, true_or, or_true, true_and, and_true, false_and, and_false, false_or, or_false]
theorem s_177 (d : Nat) (w : Nat × Bool) (I J : Nat → Nat → Int) (v a b : Int) (hd : 1 ≤ d) : semC d 177 [vi v, vi a, vi b] (mk w I J) = some (some (vi (b2 (bw v a b))), mk w I J) := by
  obtain ⟨e, rfl⟩ : ∃ e, d = e + 1 := ⟨d - 1, by omega⟩
  rw [e_177]
  unfold b2 bw
  simp only [b_177_0, b_177_5, b_177_10, b_177_15, b_177_19, b_177_23, b_177_28, b_177_33, b_177_37, b_177_38, decide_eq_true_eq]
  repeat' split
  all_goals first | rfl | (exfalso; omega) | (simp_all; done)
theorem s_28 (d : Nat) (w : Nat × Bool) (I J : Nat → Nat → Int) (a b : Int) (hd : 2 ≤ d) (ha : 0 ≤ a ∧ a < 10) (hb : 0 ≤ b ∧ b < 10) (h8 : 0 ≤ I 4 8 ∧ I 4 8 ≤ 10) (h9 : pos (I 9)) : semC d 28 [vr 4, vi a, vi b] (mk w I J) = some (some (vi (btw (I 4 8).toNat (I 7) (I 8) (I 9) (I 5 a.toNat) (I 5 b.toNat) (I 6 a.toNat) (I 6 b.toNat))), mk w I J) := by
  obtain ⟨e, rfl⟩ : ∃ e, d = e + 1 := ⟨d - 1, by omega⟩
  rw [e_28]
  have l := loop (fun (u : Nat) (acc : Int) => Sem e 28 73 [some (vr 4), some (vi a), some (vi b), some (vi (if I 5 b.toNat < I 5 a.toNat then I 5 b.toNat else I 5 a.toNat)), some (vi (if I 5 a.toNat < I 5 b.toNat then I 5 b.toNat else I 5 a.toNat)), some (vi (if I 6 b.toNat < I 6 a.toNat then I 6 b.toNat else I 6 a.toNat)), some (vi (if I 6 a.toNat < I 6 b.toNat then I 6 b.toNat else I 6 a.toNat)), some (vi acc), some (vi (u : Int))] [] (mk w I J))
    (fun s acc => if (bw (I 7 s) (I 5 a.toNat) (I 5 b.toNat) && bw (I 8 s) (I 6 a.toNat) (I 6 b.toNat)) = true then acc + I 9 s else acc) (fun u acc => 0 ≤ acc ∧ acc ≤ 100 * u) (I 4 8).toNat 0 (by omega) (by
    intro u acc hu hP
    have hu' := nat_lt hu
    have g := h9 u
    rw [b_28_73, if_pos (by omega)]
    constructor
    · unfold bw
      by_cases c1 : (if I 5 b.toNat < I 5 a.toNat then I 5 b.toNat else I 5 a.toNat) ≤ I 7 u ∧ I 7 u ≤ (if I 5 a.toNat < I 5 b.toNat then I 5 b.toNat else I 5 a.toNat)
      · by_cases c2 : (if I 6 b.toNat < I 6 a.toNat then I 6 b.toNat else I 6 a.toNat) ≤ I 8 u ∧ I 8 u ≤ (if I 6 a.toNat < I 6 b.toNat then I 6 b.toNat else I 6 a.toNat)
        · rw [decide_eq_true c1, decide_eq_true c2]
          rw [b_28_82, if_pos (by omega), nat_i, semK_of (s_133 _ _ _ _ _ _ _ (by omega)), if_pos c1]
          simp only [mpush]
          rw [b_28_95, if_neg (by omega), b_28_98, if_pos (by omega), nat_i, semK_of (s_133 _ _ _ _ _ _ _ (by omega)), if_pos c2]
          simp only [mpush]
          rw [b_28_112, if_neg (by omega), b_28_115, if_pos (by omega), b_28_127, nat_i, wr_if (by omega), wr_n1 (by omega)]
          rfl
        · rw [decide_eq_true c1, decide_eq_false c2]
          rw [b_28_82, if_pos (by omega), nat_i, semK_of (s_133 _ _ _ _ _ _ _ (by omega)), if_pos c1]
          simp only [mpush]
          rw [b_28_95, if_neg (by omega), b_28_98, if_pos (by omega), nat_i, semK_of (s_133 _ _ _ _ _ _ _ (by omega)), if_neg c2]
          simp only [mpush]
          rw [b_28_112, if_pos rfl, b_28_127, wr_n1 (by omega)]
          rfl
      · rw [decide_eq_false c1]
        rw [b_28_82, if_pos (by omega), nat_i, semK_of (s_133 _ _ _ _ _ _ _ (by omega)), if_neg c1]
        simp only [mpush]
        rw [b_28_95, if_pos rfl, b_28_127, wr_n1 (by omega)]
        rfl
    · split <;> omega)
  have e1 : ((I 4 8).toNat : Int) = I 4 8 := Int.toNat_of_nonneg h8.1
  have l1 := l.1
  rw [e1] at l1
  rw [b_28_0]
  simp (disch := omega) only [if_pos]
  rw [show (0 : Int) = ((0 : Nat) : Int) from rfl] at *
  rw [l1, b_28_73, if_neg (by omega), b_28_133]
  rfl
theorem s_178 (d : Nat) (w : Nat × Bool) (I J : Nat → Nat → Int) (a b : Int) (hd : 2 ≤ d) (ha : 0 ≤ a ∧ a < 10) (hb : 0 ≤ b ∧ b < 10) (h8 : 0 ≤ I 58 6 ∧ I 58 6 ≤ 10) (h9 : pos (I 63)) : semC d 178 [vr 58, vi a, vi b] (mk w I J) = some (some (vi (btw (I 58 6).toNat (I 61) (I 62) (I 63) (I 59 a.toNat) (I 59 b.toNat) (I 60 a.toNat) (I 60 b.toNat))), mk w I J) := by
  obtain ⟨e, rfl⟩ : ∃ e, d = e + 1 := ⟨d - 1, by omega⟩
  rw [e_178]
  have l := loop (fun (u : Nat) (acc : Int) => Sem e 178 5 [some (vr 58), some (vi a), some (vi b), some (vi acc), some (vi (u : Int))] [] (mk w I J))
    (fun s acc => if (bw (I 61 s) (I 59 a.toNat) (I 59 b.toNat) && bw (I 62 s) (I 60 a.toNat) (I 60 b.toNat)) = true then acc + I 63 s else acc) (fun u acc => 0 ≤ acc ∧ acc ≤ 100 * u) (I 58 6).toNat 0 (by omega) (by
    intro u acc hu hP
    have hu' := nat_lt hu
    have g := h9 u
    rw [b_178_5, if_pos (by omega), b_178_14]
    constructor
    · cases c1 : bw (I 61 u) (I 59 a.toNat) (I 59 b.toNat) <;> cases c2 : bw (I 62 u) (I 60 a.toNat) (I 60 b.toNat)
      all_goals simp (disch := omega) only [if_pos, if_neg, nat_i, semK_of (s_177 _ _ _ _ _ _ _ _), mpush, c1, c2, b2_t, b2_f, b_178_36, b_178_39, b_178_61, b_178_64, b_178_74, wr_if, wr_n1, Bool.and_true, Bool.and_false, Bool.false_and, Bool.true_and, Bool.false_eq_true, ↓reduceIte]
      all_goals rfl
    · split <;> omega)
  have e1 : ((I 58 6).toNat : Int) = I 58 6 := Int.toNat_of_nonneg h8.1
  have l1 := l.1
  rw [e1] at l1
  rw [b_178_0]
  have z0 : ((0 : Nat) : Int) = 0 := rfl
  rw [z0] at l1
  rw [l1, b_178_5, if_neg (by omega), b_178_80]
  rfl
/-- what 'way' answers -/
def wayR (nd ns : Int) (dx dy sx sy sh : Nat → Int) (x y : Int) : Int := if 0 ≤ x ∧ (0 ≤ y ∧ y ≤ 1) ∧ (0 ≤ x.tdiv 10 ∧ x.tdiv 10 < nd) ∧ 0 ≤ x.tmod 10 ∧ x.tmod 10 < nd then
  (if y = 0 then farI dx dy (x.tdiv 10).toNat (x.tmod 10).toNat else btw ns.toNat sx sy sh (dx (x.tdiv 10).toNat) (dx (x.tmod 10).toNat) (dy (x.tdiv 10).toNat) (dy (x.tmod 10).toNat)) else -1
theorem s_104 (d : Nat) (w : Nat × Bool) (I J : Nat → Nat → Int) (x y : Int) (hd : 3 ≤ d) (hx : iR x) (hn : 0 ≤ I 4 4 ∧ I 4 4 ≤ 10) (hs : 0 ≤ I 4 8 ∧ I 4 8 ≤ 10) (h5 : pos (I 5)) (h6 : pos (I 6)) (h9 : pos (I 9)) :
    semC d 104 [vr 3, vi x, vi y] (mk w I J) = some (some (vi (wayR (I 4 4) (I 4 8) (I 5) (I 6) (I 7) (I 8) (I 9) x y)), mk w I J) := by
  obtain ⟨e, rfl⟩ : ∃ e, d = e + 1 := ⟨d - 1, by omega⟩
  rw [e_104]
  obtain ⟨hx1, hx2⟩ := id hx
  unfold wayR
  by_cases c0 : 0 ≤ x
  · by_cases c1 : 0 ≤ y ∧ y ≤ 1
    · by_cases c2 : 0 ≤ x.tdiv 10 ∧ x.tdiv 10 < I 4 4
      · by_cases c3 : 0 ≤ x.tmod 10 ∧ x.tmod 10 < I 4 4
        · by_cases c4 : y = 0
          · simp (disch := omega) only [b_104_0, b_104_4, b_104_10, b_104_13, b_104_15, b_104_34, b_104_37, b_104_46, b_104_49, b_104_51, b_104_55, b_104_65, b_104_68, b_104_78, s_133 _ _ _ _ _ _ _ _, s_21 _ _ _ _ _ _, s_27 _ _ _ _ _ _ _ _ _ h5 h6, semK, Option.bind_some, mpush, wr_if, wr_tdiv, if_pos, if_neg, ↓reduceIte, b2_t, b2_f, Bool.false_eq_true, up2_ne, up2_sne, up2_s, true_or, or_true, true_and, and_true, false_and, and_false, false_or, or_false]
          · simp (disch := omega) only [b_104_0, b_104_4, b_104_10, b_104_13, b_104_15, b_104_34, b_104_37, b_104_46, b_104_49, b_104_51, b_104_55, b_104_65, b_104_68, b_104_78, s_133 _ _ _ _ _ _ _ _, s_21 _ _ _ _ _ _, s_28 _ _ _ _ _ _ _ _ _ hs h9, semK, Option.bind_some, mpush, wr_if, wr_tdiv, if_pos, if_neg, ↓reduceIte, b2_t, b2_f, Bool.false_eq_true, up2_ne, up2_sne, up2_s, true_or, or_true, true_and, and_true, false_and, and_false, false_or, or_false]
        · simp (disch := omega) only [b_104_0, b_104_4, b_104_10, b_104_13, b_104_15, b_104_34, b_104_37, b_104_46, b_104_49, b_104_51, b_104_55, b_104_65, b_104_68, b_104_78, s_133 _ _ _ _ _ _ _ _, s_21 _ _ _ _ _ _, semK, Option.bind_some, mpush, wr_if, wr_tdiv, if_pos, if_neg, ↓reduceIte, b2_t, b2_f, Bool.false_eq_true, up2_ne, up2_sne, up2_s, true_or, or_true, true_and, and_true, false_and, and_false, false_or, or_false]
      · simp (disch := omega) only [b_104_0, b_104_4, b_104_10, b_104_13, b_104_15, b_104_34, b_104_37, b_104_46, b_104_49, b_104_51, b_104_55, b_104_65, b_104_68, b_104_78, s_133 _ _ _ _ _ _ _ _, s_21 _ _ _ _ _ _, semK, Option.bind_some, mpush, wr_if, wr_tdiv, if_pos, if_neg, ↓reduceIte, b2_t, b2_f, Bool.false_eq_true, up2_ne, up2_sne, up2_s, true_or, or_true, true_and, and_true, false_and, and_false, false_or, or_false]
    · simp (disch := omega) only [b_104_0, b_104_4, b_104_10, b_104_13, b_104_15, b_104_34, b_104_37, b_104_46, b_104_49, b_104_51, b_104_55, b_104_65, b_104_68, b_104_78, s_133 _ _ _ _ _ _ _ _, semK, Option.bind_some, mpush, wr_if, wr_tdiv, if_pos, if_neg, ↓reduceIte, b2_t, b2_f, Bool.false_eq_true, up2_ne, up2_sne, up2_s, true_or, or_true, true_and, and_true, false_and, and_false, false_or, or_false]
  · simp (disch := omega) only [b_104_0, b_104_4, b_104_10, b_104_13, b_104_15, b_104_34, b_104_37, b_104_46, b_104_49, b_104_51, b_104_55, b_104_65, b_104_68, b_104_78, semK, Option.bind_some, mpush, wr_if, wr_tdiv, if_pos, if_neg, ↓reduceIte, b2_t, b2_f, Bool.false_eq_true, up2_ne, up2_sne, up2_s, true_or, or_true, true_and, and_true, false_and, and_false, false_or, or_false]
theorem s_179 (d : Nat) (w : Nat × Bool) (I J : Nat → Nat → Int) (x y : Int) (hd : 3 ≤ d) (hx : iR x) (hn : 0 ≤ I 58 3 ∧ I 58 3 ≤ 10) (hs : 0 ≤ I 58 6 ∧ I 58 6 ≤ 10) (h5 : pos (I 59)) (h6 : pos (I 60)) (h9 : pos (I 63)) :
    semC d 179 [vr 58, vi x, vi y] (mk w I J) = some (some (vi (wayR (I 58 3) (I 58 6) (I 59) (I 60) (I 61) (I 62) (I 63) x y)), mk w I J) := by
  obtain ⟨e, rfl⟩ : ∃ e, d = e + 1 := ⟨d - 1, by omega⟩
  rw [e_179]
  obtain ⟨hx1, hx2⟩ := id hx
  unfold wayR
  by_cases c0 : 0 ≤ x
  · by_cases c2 : 0 ≤ x.tdiv 10 ∧ x.tdiv 10 < I 58 3
    · by_cases c3 : 0 ≤ x.tmod 10 ∧ x.tmod 10 < I 58 3
      · by_cases c1 : 0 ≤ y ∧ y ≤ 1
        · by_cases c4 : y = 0
          · simp (disch := omega) only [b_179_0, b_179_4, b_179_12, b_179_15, b_179_23, b_179_26, b_179_32, b_179_35, b_179_37, b_179_41, b_179_53, b_179_56, b_179_68, s_135 _ _ _ _ _ _ _ _, s_138 _ _ _ _ _ _ hn, s_176 _ _ _ _ _ _ _ _ _ h5 h6, semK, Option.bind_some, mpush, wr_if, wr_tdiv, if_pos, if_neg, ↓reduceIte, b2_t, b2_f, Bool.false_eq_true, up2_ne, up2_sne, up2_s, true_or, or_true, true_and, and_true, false_and, and_false, false_or, or_false]
          · simp (disch := omega) only [b_179_0, b_179_4, b_179_12, b_179_15, b_179_23, b_179_26, b_179_32, b_179_35, b_179_37, b_179_41, b_179_53, b_179_56, b_179_68, s_135 _ _ _ _ _ _ _ _, s_138 _ _ _ _ _ _ hn, s_178 _ _ _ _ _ _ _ _ _ hs h9, semK, Option.bind_some, mpush, wr_if, wr_tdiv, if_pos, if_neg, ↓reduceIte, b2_t, b2_f, Bool.false_eq_true, up2_ne, up2_sne, up2_s, true_or, or_true, true_and, and_true, false_and, and_false, false_or, or_false]
        · simp (disch := omega) only [b_179_0, b_179_4, b_179_12, b_179_15, b_179_23, b_179_26, b_179_32, b_179_35, b_179_37, b_179_41, b_179_53, b_179_56, b_179_68, s_135 _ _ _ _ _ _ _ _, s_138 _ _ _ _ _ _ hn, semK, Option.bind_some, mpush, wr_if, wr_tdiv, if_pos, if_neg, ↓reduceIte, b2_t, b2_f, Bool.false_eq_true, up2_ne, up2_sne, up2_s, true_or, or_true, true_and, and_true, false_and, and_false, false_or, or_false]
      · simp (disch := omega) only [b_179_0, b_179_4, b_179_12, b_179_15, b_179_23, b_179_26, b_179_32, b_179_35, b_179_37, b_179_41, b_179_53, b_179_56, b_179_68, s_135 _ _ _ _ _ _ _ _, s_138 _ _ _ _ _ _ hn, semK, Option.bind_some, mpush, wr_if, wr_tdiv, if_pos, if_neg, ↓reduceIte, b2_t, b2_f, Bool.false_eq_true, up2_ne, up2_sne, up2_s, true_or, or_true, true_and, and_true, false_and, and_false, false_or, or_false]
    · simp (disch := omega) only [b_179_0, b_179_4, b_179_12, b_179_15, b_179_23, b_179_26, b_179_32, b_179_35, b_179_37, b_179_41, b_179_53, b_179_56, b_179_68, s_135 _ _ _ _ _ _ _ _, s_138 _ _ _ _ _ _ hn, semK, Option.bind_some, mpush, wr_if, wr_tdiv, if_pos, if_neg, ↓reduceIte, b2_t, b2_f, Bool.false_eq_true, up2_ne, up2_sne, up2_s, true_or, or_true, true_and, and_true, false_and, and_false, false_or, or_false]
  · simp (disch := omega) only [b_179_0, b_179_4, b_179_12, b_179_15, b_179_23, b_179_26, b_179_32, b_179_35, b_179_37, b_179_41, b_179_53, b_179_56, b_179_68, semK, Option.bind_some, mpush, wr_if, wr_tdiv, if_pos, if_neg, ↓reduceIte, b2_t, b2_f, Bool.false_eq_true, up2_ne, up2_sne, up2_s, true_or, or_true, true_and, and_true, false_and, and_false, false_or, or_false]
/-- feed -/
theorem s_102 (d : Nat) (w : Nat × Bool) (I J : Nat → Nat → Int) (x : Int) (hd : 2 ≤ d) (h : 0 ≤ I 17 1 ∧ I 17 1 ≤ 120) : semC d 102 [vr 3, vi x] (mk w I J) =
    if 0 ≤ x ∧ x ≤ 255 then (if I 17 1 = 120 then some (some (vi (-3)), mk w I J) else some (some (vi (I 17 1 + 1)), mk w (up2 (up2 I 18 (I 17 1).toNat x) 17 1 (I 17 1 + 1)) J)) else some (some (vi (-1)), mk w I J) := by
  obtain ⟨e, rfl⟩ : ∃ e, d = e + 1 := ⟨d - 1, by omega⟩
  rw [e_102]
  by_cases c1 : 0 ≤ x ∧ x ≤ 255
  · by_cases c2 : I 17 1 = 120
    · simp (disch := omega) only [b_102_0, b_102_8, b_102_11, b_102_13, b_102_21, s_133 _ _ _ _ _ _ _ _, s_35 _ _ _ _ _ _ h, semK, Option.bind_some, mpush, wr_if, wr_tdiv, if_pos, if_neg, ↓reduceIte, b2_t, b2_f, Bool.false_eq_true, up2_ne, up2_sne, up2_s, true_or, or_true, true_and, and_true, false_and, and_false, false_or, or_false]
    · simp (disch := omega) only [b_102_0, b_102_8, b_102_11, b_102_13, b_102_21, s_133 _ _ _ _ _ _ _ _, s_35 _ _ _ _ _ _ h, semK, Option.bind_some, mpush, wr_if, wr_tdiv, if_pos, if_neg, ↓reduceIte, b2_t, b2_f, Bool.false_eq_true, up2_ne, up2_sne, up2_s, true_or, or_true, true_and, and_true, false_and, and_false, false_or, or_false]
  · simp (disch := omega) only [b_102_0, b_102_8, b_102_11, b_102_13, b_102_21, s_133 _ _ _ _ _ _ _ _, semK, Option.bind_some, mpush, wr_if, wr_tdiv, if_pos, if_neg, ↓reduceIte, b2_t, b2_f, Bool.false_eq_true, up2_ne, up2_sne, up2_s, true_or, or_true, true_and, and_true, false_and, and_false, false_or, or_false]
theorem s_157 (d : Nat) (w : Nat × Bool) (I J : Nat → Nat → Int) (x : Int) (hd : 2 ≤ d) (h : 0 ≤ I 58 27 ∧ I 58 27 ≤ 120) : semC d 157 [vr 58, vi x] (mk w I J) =
    if 0 ≤ x ∧ x ≤ 255 then (if I 58 27 = 120 then some (some (vi (-3)), mk w I J) else some (some (vi (I 58 27 + 1)), mk w (up2 (up2 I 74 (I 58 27).toNat (i2b (i2b x))) 58 27 (I 58 27 + 1)) J)) else some (some (vi (-1)), mk w I J) := by
  obtain ⟨e, rfl⟩ : ∃ e, d = e + 1 := ⟨d - 1, by omega⟩
  rw [e_157]
  by_cases c1 : 0 ≤ x ∧ x ≤ 255
  · by_cases c2 : I 58 27 = 120
    · simp (disch := omega) only [b_157_0, b_157_8, b_157_11, b_157_13, b_157_22, b_157_25, s_135 _ _ _ _ _ _ _ _, semK, Option.bind_some, mpush, wr_if, wr_tdiv, if_pos, if_neg, ↓reduceIte, b2_t, b2_f, Bool.false_eq_true, up2_ne, up2_sne, up2_s, true_or, or_true, true_and, and_true, false_and, and_false, false_or, or_false]
    · simp (disch := omega) only [b_157_0, b_157_8, b_157_11, b_157_13, b_157_22, b_157_25, s_135 _ _ _ _ _ _ _ _, semK, Option.bind_some, mpush, wr_if, wr_tdiv, if_pos, if_neg, ↓reduceIte, b2_t, b2_f, Bool.false_eq_true, up2_ne, up2_sne, up2_s, true_or, or_true, true_and, and_true, false_and, and_false, false_or, or_false]
  · simp (disch := omega) only [b_157_0, b_157_8, b_157_11, b_157_13, b_157_22, b_157_25, s_135 _ _ _ _ _ _ _ _, semK, Option.bind_some, mpush, wr_if, wr_tdiv, if_pos, if_neg, ↓reduceIte, b2_t, b2_f, Bool.false_eq_true, up2_ne, up2_sne, up2_s, true_or, or_true, true_and, and_true, false_and, and_false, false_or, or_false]
/-- bodies and traces -/
theorem s_2 (d : Nat) (w : Nat × Bool) (I J : Nat → Nat → Int) (x : Int) (hd : 1 ≤ d) (h : 0 ≤ I 42 1 ∧ I 42 1 ≤ 50) : semC d 2 [vr 42, vi x] (mk w I J) =
    if I 42 1 = 50 then some (some (vi (-3)), mk w I J) else some (some (vi (I 42 1)), mk w (up2 (up2 I 43 (I 42 1).toNat x) 42 1 (I 42 1 + 1)) J) := by
  obtain ⟨e, rfl⟩ : ∃ e, d = e + 1 := ⟨d - 1, by omega⟩
  rw [e_2]
  by_cases c2 : I 42 1 = 50
  · simp (disch := omega) only [b_2_0, b_2_9, b_2_12, semK, Option.bind_some, mpush, wr_if, wr_tdiv, if_pos, if_neg, ↓reduceIte, b2_t, b2_f, Bool.false_eq_true, up2_ne, up2_sne, up2_s, true_or, or_true, true_and, and_true, false_and, and_false, false_or, or_false]
  · simp (disch := omega) only [b_2_0, b_2_9, b_2_12, semK, Option.bind_some, mpush, wr_if, wr_tdiv, if_pos, if_neg, ↓reduceIte, b2_t, b2_f, Bool.false_eq_true, up2_ne, up2_sne, up2_s, true_or, or_true, true_and, and_true, false_and, and_false, false_or, or_false]
theorem s_121 (d : Nat) (w : Nat × Bool) (I J : Nat → Nat → Int) (x : Int) (hd : 2 ≤ d) (h : 0 ≤ I 42 1 ∧ I 42 1 ≤ 50) : semC d 121 [vr 3, vi x] (mk w I J) =
    if 0 ≤ x ∧ x ≤ 7 then (if I 42 1 = 50 then some (some (vi (-3)), mk w I J) else some (some (vi (I 42 1)), mk w (up2 (up2 I 43 (I 42 1).toNat x) 42 1 (I 42 1 + 1)) J)) else some (some (vi (-1)), mk w I J) := by
  obtain ⟨e, rfl⟩ : ∃ e, d = e + 1 := ⟨d - 1, by omega⟩
  rw [e_121]
  by_cases c1 : 0 ≤ x ∧ x ≤ 7
  · by_cases c2 : I 42 1 = 50
    · simp (disch := omega) only [b_121_0, b_121_7, b_121_10, b_121_12, b_121_20, s_133 _ _ _ _ _ _ _ _, s_2 _ _ _ _ _ _ h, semK, Option.bind_some, mpush, wr_if, wr_tdiv, if_pos, if_neg, ↓reduceIte, b2_t, b2_f, Bool.false_eq_true, up2_ne, up2_sne, up2_s, true_or, or_true, true_and, and_true, false_and, and_false, false_or, or_false]
    · simp (disch := omega) only [b_121_0, b_121_7, b_121_10, b_121_12, b_121_20, s_133 _ _ _ _ _ _ _ _, s_2 _ _ _ _ _ _ h, semK, Option.bind_some, mpush, wr_if, wr_tdiv, if_pos, if_neg, ↓reduceIte, b2_t, b2_f, Bool.false_eq_true, up2_ne, up2_sne, up2_s, true_or, or_true, true_and, and_true, false_and, and_false, false_or, or_false]
  · simp (disch := omega) only [b_121_0, b_121_7, b_121_10, b_121_12, b_121_20, s_133 _ _ _ _ _ _ _ _, semK, Option.bind_some, mpush, wr_if, wr_tdiv, if_pos, if_neg, ↓reduceIte, b2_t, b2_f, Bool.false_eq_true, up2_ne, up2_sne, up2_s, true_or, or_true, true_and, and_true, false_and, and_false, false_or, or_false]
theorem s_212 (d : Nat) (w : Nat × Bool) (I J : Nat → Nat → Int) (x : Int) (hd : 2 ≤ d) (h : 0 ≤ I 58 48 ∧ I 58 48 ≤ 50) : semC d 212 [vr 58, vi x] (mk w I J) =
    if 0 ≤ x ∧ x ≤ 7 then (if I 58 48 = 50 then some (some (vi (-3)), mk w I J) else some (some (vi (I 58 48)), mk w (up2 (up2 I 90 (I 58 48).toNat x) 58 48 (I 58 48 + 1)) J)) else some (some (vi (-1)), mk w I J) := by
  obtain ⟨e, rfl⟩ : ∃ e, d = e + 1 := ⟨d - 1, by omega⟩
  rw [e_212]
  by_cases c1 : 0 ≤ x ∧ x ≤ 7
  · by_cases c2 : I 58 48 = 50
    · simp (disch := omega) only [b_212_0, b_212_7, b_212_10, b_212_12, b_212_21, b_212_24, s_135 _ _ _ _ _ _ _ _, semK, Option.bind_some, mpush, wr_if, wr_tdiv, if_pos, if_neg, ↓reduceIte, b2_t, b2_f, Bool.false_eq_true, up2_ne, up2_sne, up2_s, true_or, or_true, true_and, and_true, false_and, and_false, false_or, or_false, Int.add_sub_cancel]
    · simp (disch := omega) only [b_212_0, b_212_7, b_212_10, b_212_12, b_212_21, b_212_24, s_135 _ _ _ _ _ _ _ _, semK, Option.bind_some, mpush, wr_if, wr_tdiv, if_pos, if_neg, ↓reduceIte, b2_t, b2_f, Bool.false_eq_true, up2_ne, up2_sne, up2_s, true_or, or_true, true_and, and_true, false_and, and_false, false_or, or_false, Int.add_sub_cancel]
  · simp (disch := omega) only [b_212_0, b_212_7, b_212_10, b_212_12, b_212_21, b_212_24, s_135 _ _ _ _ _ _ _ _, semK, Option.bind_some, mpush, wr_if, wr_tdiv, if_pos, if_neg, ↓reduceIte, b2_t, b2_f, Bool.false_eq_true, up2_ne, up2_sne, up2_s, true_or, or_true, true_and, and_true, false_and, and_false, false_or, or_false]
theorem s_5 (d : Nat) (w : Nat × Bool) (I J : Nat → Nat → Int) (x : Int) (hd : 1 ≤ d) : semC d 5 [vr 42, vi x] (mk w I J) = some (some (vi (if 0 ≤ x ∧ x < I 42 3 ∧ x < 24 then I 44 x.toNat else -1)), mk w I J) := by
  obtain ⟨e, rfl⟩ : ∃ e, d = e + 1 := ⟨d - 1, by omega⟩
  rw [e_5]
  by_cases c1 : 0 ≤ x
  · by_cases c2 : x < I 42 3
    · by_cases c3 : x < 24
      · simp (disch := omega) only [b_5_0, b_5_4, b_5_12, b_5_18, b_5_27, b_5_28, semK, Option.bind_some, mpush, wr_if, wr_tdiv, if_pos, if_neg, ↓reduceIte, b2_t, b2_f, Bool.false_eq_true, up2_ne, up2_sne, up2_s, true_or, or_true, true_and, and_true, false_and, and_false, false_or, or_false]
      · simp (disch := omega) only [b_5_0, b_5_4, b_5_12, b_5_18, b_5_27, b_5_28, semK, Option.bind_some, mpush, wr_if, wr_tdiv, if_pos, if_neg, ↓reduceIte, b2_t, b2_f, Bool.false_eq_true, up2_ne, up2_sne, up2_s, true_or, or_true, true_and, and_true, false_and, and_false, false_or, or_false]
    · simp (disch := omega) only [b_5_0, b_5_4, b_5_12, b_5_18, b_5_27, b_5_28, semK, Option.bind_some, mpush, wr_if, wr_tdiv, if_pos, if_neg, ↓reduceIte, b2_t, b2_f, Bool.false_eq_true, up2_ne, up2_sne, up2_s, true_or, or_true, true_and, and_true, false_and, and_false, false_or, or_false]
  · simp (disch := omega) only [b_5_0, b_5_4, b_5_12, b_5_18, b_5_27, b_5_28, semK, Option.bind_some, mpush, wr_if, wr_tdiv, if_pos, if_neg, ↓reduceIte, b2_t, b2_f, Bool.false_eq_true, up2_ne, up2_sne, up2_s, true_or, or_true, true_and, and_true, false_and, and_false, false_or, or_false]
theorem s_123 (d : Nat) (w : Nat × Bool) (I J : Nat → Nat → Int) (x : Int) (hd : 2 ≤ d) : semC d 123 [vr 3, vi x] (mk w I J) = some (some (vi (if 0 ≤ x ∧ x < I 42 3 ∧ x < 24 then I 44 x.toNat else -1)), mk w I J) := by
  obtain ⟨e, rfl⟩ : ∃ e, d = e + 1 := ⟨d - 1, by omega⟩
  rw [e_123]
  simp (disch := omega) only [b_123_0, b_123_8, s_5 _ _ _ _ _ _, semK, Option.bind_some, mpush]
theorem s_211 (d : Nat) (w : Nat × Bool) (I J : Nat → Nat → Int) (x : Int) (hd : 1 ≤ d) : semC d 211 [vr 58, vi x] (mk w I J) = some (some (vi (if 0 ≤ x ∧ x < I 58 50 ∧ x < 24 then I 91 x.toNat else -1)), mk w I J) := by
  obtain ⟨e, rfl⟩ : ∃ e, d = e + 1 := ⟨d - 1, by omega⟩
  rw [e_211]
  by_cases c1 : 0 ≤ x
  · by_cases c2 : x < I 58 50
    · by_cases c3 : x < 24
      · simp (disch := omega) only [b_211_0, b_211_4, b_211_12, b_211_18, b_211_27, b_211_28, semK, Option.bind_some, mpush, wr_if, wr_tdiv, if_pos, if_neg, ↓reduceIte, b2_t, b2_f, Bool.false_eq_true, up2_ne, up2_sne, up2_s, true_or, or_true, true_and, and_true, false_and, and_false, false_or, or_false]
      · simp (disch := omega) only [b_211_0, b_211_4, b_211_12, b_211_18, b_211_27, b_211_28, semK, Option.bind_some, mpush, wr_if, wr_tdiv, if_pos, if_neg, ↓reduceIte, b2_t, b2_f, Bool.false_eq_true, up2_ne, up2_sne, up2_s, true_or, or_true, true_and, and_true, false_and, and_false, false_or, or_false]
    · simp (disch := omega) only [b_211_0, b_211_4, b_211_12, b_211_18, b_211_27, b_211_28, semK, Option.bind_some, mpush, wr_if, wr_tdiv, if_pos, if_neg, ↓reduceIte, b2_t, b2_f, Bool.false_eq_true, up2_ne, up2_sne, up2_s, true_or, or_true, true_and, and_true, false_and, and_false, false_or, or_false]
  · simp (disch := omega) only [b_211_0, b_211_4, b_211_12, b_211_18, b_211_27, b_211_28, semK, Option.bind_some, mpush, wr_if, wr_tdiv, if_pos, if_neg, ↓reduceIte, b2_t, b2_f, Bool.false_eq_true, up2_ne, up2_sne, up2_s, true_or, or_true, true_and, and_true, false_and, and_false, false_or, or_false]
