theorem b2_t : b2 true = 1 := rfl
theorem b2_f : b2 false = 0 := rfl
def aDX (I : Nat → Nat → Int) (x y : Int) : Nat → Nat → Int := up2 (up2 (up2 (up2 I 5 (I 4 4).toNat x) 6 (I 4 4).toNat y) 4 9 (I 4 9 + 1)) 4 4 (I 4 4 + 1)
def aDM (I : Nat → Nat → Int) (x y : Int) : Nat → Nat → Int := up2 (up2 (up2 I 59 (I 58 3).toNat x) 60 (I 58 3).toNat y) 58 3 (I 58 3 + 1)
/-- the floor's numbers, the class's -/
def rFX (I : Nat → Nat → Int) : Prop := (0 ≤ I 4 0 ∧ I 4 0 ≤ 20) ∧ (0 ≤ I 4 1 ∧ I 4 1 ≤ 20) ∧ (0 ≤ I 4 4 ∧ I 4 4 ≤ 10) ∧ (0 ≤ I 4 8 ∧ I 4 8 ≤ 10) ∧ (0 ≤ I 4 9 ∧ I 4 9 ≤ 1000000)
def rFM (I : Nat → Nat → Int) : Prop := (0 ≤ I 58 1 ∧ I 58 1 ≤ 20) ∧ (0 ≤ I 58 2 ∧ I 58 2 ≤ 20) ∧ (0 ≤ I 58 3 ∧ I 58 3 ≤ 10) ∧ (0 ≤ I 58 6 ∧ I 58 6 ≤ 10)
def frX (I : Nat → Nat → Int) (x y : Int) : Bool := free (I 4 0) (I 4 1) (I 4 4) (I 4 8) (I 5) (I 6) (I 7) (I 8) x y
def frM (I : Nat → Nat → Int) (x y : Int) : Bool := free (I 58 1) (I 58 2) (I 58 3) (I 58 6) (I 59) (I 60) (I 61) (I 62) x y
theorem t_23 (d : Nat) (w : Nat × Bool) (I J : Nat → Nat → Int) (x y : Int) (hd : 2 ≤ d) (h : rFX I) : semC d 23 [vr 4, vi x, vi y] (mk w I J) = some (some (vi (b2 (frX I x y))), mk w I J) := s_23 d w I J x y hd h.1 h.2.1 h.2.2.1 h.2.2.2.1
theorem t_141 (d : Nat) (w : Nat × Bool) (I J : Nat → Nat → Int) (x y : Int) (hd : 2 ≤ d) (h : rFM I) : semC d 141 [vr 58, vi x, vi y] (mk w I J) = some (some (vi (b2 (frM I x y))), mk w I J) := s_141 d w I J x y hd h.1 h.2.1 h.2.2.1 h.2.2.2
theorem s_24 (d : Nat) (w : Nat × Bool) (I J : Nat → Nat → Int) (x y : Int) (hd : 3 ≤ d) (h : rFX I) : semC d 24 [vr 4, vi x, vi y] (mk w I J) =
    if frX I x y = true then (if I 4 4 = 10 then some (some (vi (-3)), mk w I J) else some (some (vi (I 4 4)), mk w (aDX I x y) J)) else some (some (vi (-1)), mk w I J) := by
  obtain ⟨e, rfl⟩ : ∃ e, d = e + 1 := ⟨d - 1, by omega⟩
  rw [e_24]
  have h' := h
  obtain ⟨h1, h2, h3, h4, h5⟩ := h'
  cases hf : frX I x y <;> by_cases h9 : I 4 4 = 10
  all_goals simp (disch := omega) only [b_24_0, b_24_6, b_24_9, b_24_11, b_24_20, b_24_23, t_23 _ _ _ _ _ _ _ h, hf, h9, semK, Option.bind_some, mpush, wr_if, wr_tdiv, if_pos, if_neg, ↓reduceIte, b2_t, b2_f, Bool.false_eq_true, up2_ne, up2_sne, up2_s, true_or, or_true, true_and, and_true, false_and, and_false, false_or, or_false]
  all_goals first | rfl | (simp; done) | (simp_all; done) | ((repeat' split) <;> first | rfl | (exfalso; omega) | (simp_all; done))
theorem s_142 (d : Nat) (w : Nat × Bool) (I J : Nat → Nat → Int) (x y : Int) (hd : 1 ≤ d) (h : 0 ≤ I 58 3 ∧ I 58 3 < 10) : semC d 142 [vr 58, vi x, vi y] (mk w I J) = some (some (vi (I 58 3)), mk w (aDM I x y) J) := by
  obtain ⟨e, rfl⟩ : ∃ e, d = e + 1 := ⟨d - 1, by omega⟩
  rw [e_142]
  simp (disch := omega) only [b_142_0, semK, Option.bind_some, mpush, wr_if, wr_tdiv, if_pos, if_neg, ↓reduceIte, b2_t, b2_f, Bool.false_eq_true, up2_ne, up2_sne, up2_s, true_or, or_true, true_and, and_true, false_and, and_false, false_or, or_false, Int.add_sub_cancel]
  rfl
theorem s_94 (d : Nat) (w : Nat × Bool) (I J : Nat → Nat → Int) (x : Int) (hd : 4 ≤ d) (hx : iR x) (h : rFX I) : semC d 94 [vr 3, vi x] (mk w I J) =
    if 0 ≤ x ∧ frX I (x.tdiv 100) (x.tmod 100) = true then (if I 4 4 = 10 then some (some (vi (-3)), mk w I J) else some (some (vi (I 4 4)), mk w (aDX I (x.tdiv 100) (x.tmod 100)) J)) else some (some (vi (-1)), mk w I J) := by
  obtain ⟨e, rfl⟩ : ∃ e, d = e + 1 := ⟨d - 1, by omega⟩
  rw [e_94]
  obtain ⟨hx1, hx2⟩ := id hx
  by_cases h0 : x < 0
  · simp (disch := omega) only [b_94_0, b_94_4, b_94_6, b_94_21, semK, Option.bind_some, mpush, wr_if, wr_tdiv, if_pos, if_neg, ↓reduceIte, b2_t, b2_f, Bool.false_eq_true, up2_ne, up2_sne, up2_s, true_or, or_true, true_and, and_true, false_and, and_false, false_or, or_false]
  · cases hf : frX I (x.tdiv 100) (x.tmod 100) <;> by_cases h9 : I 4 4 = 10
    all_goals simp (disch := omega) only [b_94_0, b_94_4, b_94_6, b_94_21, s_24 _ _ _ _ _ _ _ h, hf, h9, semK, Option.bind_some, mpush, wr_if, wr_tdiv, if_pos, if_neg, ↓reduceIte, b2_t, b2_f, Bool.false_eq_true, up2_ne, up2_sne, up2_s, true_or, or_true, true_and, and_true, false_and, and_false, false_or, or_false]
    all_goals first | rfl | (simp; done) | (simp_all; done) | ((repeat' split) <;> first | rfl | (exfalso; omega) | (simp_all; done))
theorem s_143 (d : Nat) (w : Nat × Bool) (I J : Nat → Nat → Int) (x : Int) (hd : 3 ≤ d) (hx : iR x) (h : rFM I) : semC d 143 [vr 58, vi x] (mk w I J) =
    if 0 ≤ x ∧ frM I (x.tdiv 100) (x.tmod 100) = true then (if I 58 3 = 10 then some (some (vi (-3)), mk w I J) else some (some (vi (I 58 3)), mk w (aDM I (x.tdiv 100) (x.tmod 100)) J)) else some (some (vi (-1)), mk w I J) := by
  obtain ⟨e, rfl⟩ : ∃ e, d = e + 1 := ⟨d - 1, by omega⟩
  rw [e_143]
  obtain ⟨hx1, hx2⟩ := id hx
  have h' := h
  obtain ⟨h1, h2, h3, h4⟩ := h'
  by_cases h0 : x < 0
  · simp (disch := omega) only [b_143_0, b_143_4, b_143_16, b_143_19, b_143_21, b_143_30, b_143_35, b_143_47, semK, Option.bind_some, mpush, wr_if, wr_tdiv, if_pos, if_neg, ↓reduceIte, b2_t, b2_f, Bool.false_eq_true, up2_ne, up2_sne, up2_s, true_or, or_true, true_and, and_true, false_and, and_false, false_or, or_false]
  · cases hf : frM I (x.tdiv 100) (x.tmod 100) <;> by_cases h9 : I 58 3 = 10
    all_goals simp (disch := omega) only [b_143_0, b_143_4, b_143_16, b_143_19, b_143_21, b_143_30, b_143_35, b_143_47, t_141 _ _ _ _ _ _ _ h, s_142 _ _ _ _ _ _ _ _, hf, h9, semK, Option.bind_some, mpush, wr_if, wr_tdiv, if_pos, if_neg, ↓reduceIte, b2_t, b2_f, Bool.false_eq_true, up2_ne, up2_sne, up2_s, true_or, or_true, true_and, and_true, false_and, and_false, false_or, or_false]
    all_goals first | rfl | (simp; done) | (simp_all; done) | ((repeat' split) <;> first | rfl | (exfalso; omega) | (simp_all; done))
