theorem tmod_nn {x c : Int} (h : 0 ≤ x) : 0 ≤ x.tmod c := Int.tmod_nonneg c h
theorem s_147 (d : Nat) (w : Nat × Bool) (I J : Nat → Nat → Int) (vm ne wt : Int) (hd : 3 ≤ d) (h1 : iR vm) (h2 : iR wt) (h : 0 ≤ I 58 10 ∧ I 58 10 ≤ 10) (h3 : 0 ≤ I 58 3 ∧ I 58 3 ≤ 10) : semC d 147 [vr 58, vi vm, vi ne, vi wt] (mk w I J) =
    if (0 ≤ vm ∧ vm ≤ 999) ∧ (0 ≤ ne ∧ ne ≤ 1023) ∧ 0 ≤ wt ∧ (10 ≤ wt.tdiv 1000 ∧ wt.tdiv 1000 ≤ 30) ∧ wt.tmod 1000 ≤ 100 then
      (if I 58 10 = 10 then some (some (vi (-3)), mk w I J) else some (some (vi (I 58 10)), mk w (aWM I vm ne wt) J)) else some (some (vi (-1)), mk w I J) := by
  obtain ⟨e, rfl⟩ : ∃ e, d = e + 1 := ⟨d - 1, by omega⟩
  rw [e_147]
  obtain ⟨v1, v2⟩ := id h1
  obtain ⟨v3, v4⟩ := id h2
  by_cases c1 : 0 ≤ vm ∧ vm ≤ 999
  · by_cases c2 : 0 ≤ ne ∧ ne ≤ 1023
    · by_cases c0 : 0 ≤ wt
      · by_cases c3 : 10 ≤ wt.tdiv 1000 ∧ wt.tdiv 1000 ≤ 30
        · by_cases c4 : wt.tmod 1000 ≤ 100
          · by_cases c5 : I 58 10 = 10
            · simp (disch := omega) only [b_147_0, b_147_8, b_147_11, b_147_19, b_147_22, b_147_26, b_147_38, b_147_41, b_147_51, b_147_53, b_147_62, b_147_65, b_147_145, b_147_148, b_147_156, b_147_159, b_147_166, b_147_167, s_135 _ _ _ _ _ _ _ _, c1, c2, c3, c4, semK, Option.bind_some, mpush, wr_if, wr_tdiv, if_pos, if_neg, ↓reduceIte, b2_t, b2_f, Bool.false_eq_true, up2_ne, up2_sne, up2_s, true_or, or_true, true_and, and_true, false_and, and_false, false_or, or_false, and_self, and_true, true_and, and_false, false_and]
            · have tD := s_138 e w (wk5 64 65 66 67 68 I (I 58 10).toNat vm ne wt) J (I 58 10) (by omega) (by simp [wk5, up2_row]; omega)
              have tS := t_146 e w (wk5 64 65 66 67 68 I (I 58 10).toNat vm ne wt) J (I 58 10) (I 58 10) rfl (I 69) (by simp [wk5, up2_row]) (by omega) (by omega)
              rw [show wk5 64 65 66 67 68 I (I 58 10).toNat vm ne wt 58 3 = I 58 3 from rfl] at tD
              unfold wk5 at tD tS
              unfold aWM wk5 sits
              by_cases c6 : I 58 10 < I 58 3 <;> by_cases c7 : sit1 (I 58 10).toNat (I 69) (I 58 10) = -1
              all_goals have c8 := sit1_neg (I 58 10).toNat (I 69) (I 58 10)
              all_goals simp (disch := omega) only [b_147_0, b_147_8, b_147_11, b_147_19, b_147_22, b_147_26, b_147_38, b_147_41, b_147_51, b_147_53, b_147_62, b_147_65, b_147_145, b_147_148, b_147_156, b_147_159, b_147_166, b_147_167, s_135 _ _ _ _ _ _ _ _, c1, c2, c3, c4, tD, tS, semK, Option.bind_some, mpush, wr_if, wr_tdiv, if_pos, if_neg, ↓reduceIte, b2_t, b2_f, Bool.false_eq_true, up2_ne, up2_sne, up2_s, true_or, or_true, true_and, and_true, false_and, and_false, false_or, or_false, and_self, and_true, true_and, and_false, false_and, c6, c7, Int.add_sub_cancel]
              all_goals first | rfl | (simp; done) | (simp_all; done) | ((repeat' split) <;> first | rfl | (exfalso; omega) | (simp_all; done))
          · simp (disch := omega) only [b_147_0, b_147_8, b_147_11, b_147_19, b_147_22, b_147_26, b_147_38, b_147_41, b_147_51, b_147_53, b_147_62, b_147_65, b_147_145, b_147_148, b_147_156, b_147_159, b_147_166, b_147_167, s_135 _ _ _ _ _ _ _ _, c1, c2, c3, c4, semK, Option.bind_some, mpush, wr_if, wr_tdiv, if_pos, if_neg, ↓reduceIte, b2_t, b2_f, Bool.false_eq_true, up2_ne, up2_sne, up2_s, true_or, or_true, true_and, and_true, false_and, and_false, false_or, or_false, and_self, and_true, true_and, and_false, false_and]
        · simp (disch := omega) only [b_147_0, b_147_8, b_147_11, b_147_19, b_147_22, b_147_26, b_147_38, b_147_41, b_147_51, b_147_53, b_147_62, b_147_65, b_147_145, b_147_148, b_147_156, b_147_159, b_147_166, b_147_167, s_135 _ _ _ _ _ _ _ _, c1, c2, c3, semK, Option.bind_some, mpush, wr_if, wr_tdiv, if_pos, if_neg, ↓reduceIte, b2_t, b2_f, Bool.false_eq_true, up2_ne, up2_sne, up2_s, true_or, or_true, true_and, and_true, false_and, and_false, false_or, or_false, and_self, and_true, true_and, and_false, false_and]
      · simp (disch := omega) only [b_147_0, b_147_8, b_147_11, b_147_19, b_147_22, b_147_26, b_147_38, b_147_41, b_147_51, b_147_53, b_147_62, b_147_65, b_147_145, b_147_148, b_147_156, b_147_159, b_147_166, b_147_167, s_135 _ _ _ _ _ _ _ _, c1, c2, semK, Option.bind_some, mpush, wr_if, wr_tdiv, if_pos, if_neg, ↓reduceIte, b2_t, b2_f, Bool.false_eq_true, up2_ne, up2_sne, up2_s, true_or, or_true, true_and, and_true, false_and, and_false, false_or, or_false, and_self, and_true, true_and, and_false, false_and]
    · simp (disch := omega) only [b_147_0, b_147_8, b_147_11, b_147_19, b_147_22, b_147_26, b_147_38, b_147_41, b_147_51, b_147_53, b_147_62, b_147_65, b_147_145, b_147_148, b_147_156, b_147_159, b_147_166, b_147_167, s_135 _ _ _ _ _ _ _ _, c1, c2, semK, Option.bind_some, mpush, wr_if, wr_tdiv, if_pos, if_neg, ↓reduceIte, b2_t, b2_f, Bool.false_eq_true, up2_ne, up2_sne, up2_s, true_or, or_true, true_and, and_true, false_and, and_false, false_or, or_false, and_self, and_true, true_and, and_false, false_and]
  · simp (disch := omega) only [b_147_0, b_147_8, b_147_11, b_147_19, b_147_22, b_147_26, b_147_38, b_147_41, b_147_51, b_147_53, b_147_62, b_147_65, b_147_145, b_147_148, b_147_156, b_147_159, b_147_166, b_147_167, s_135 _ _ _ _ _ _ _ _, c1, semK, Option.bind_some, mpush, wr_if, wr_tdiv, if_pos, if_neg, ↓reduceIte, b2_t, b2_f, Bool.false_eq_true, up2_ne, up2_sne, up2_s, true_or, or_true, true_and, and_true, false_and, and_false, false_or, or_false, and_self, and_true, true_and, and_false, false_and]
/-- one sits at a desk, or not: what both answer -/
def sitR (nw nd : Int) (se : Nat → Int) (x y : Int) : Int := if (0 ≤ x ∧ x < nw) ∧ (y = -1 ∨ (0 ≤ y ∧ y < nd)) then (if y = -1 ∨ sit1 nw.toNat se y = -1 ∨ sit1 nw.toNat se y = x then se x.toNat else -2) else -2000000000
def sitOK (nw nd : Int) (se : Nat → Int) (x y : Int) : Prop := ((0 ≤ x ∧ x < nw) ∧ (y = -1 ∨ (0 ≤ y ∧ y < nd))) ∧ (y = -1 ∨ sit1 nw.toNat se y = -1 ∨ sit1 nw.toNat se y = x)
theorem sit1_ge (n : Nat) (f : Nat → Int) (x : Int) : -1 ≤ sit1 n f x := by
  unfold sit1
  cases fnd (fun u => decide (f u = x)) n with
  | none => simp
  | some k => simp
theorem s_98 (d : Nat) (w : Nat × Bool) (I J : Nat → Nat → Int) (x y : Int) (hd : 2 ≤ d) (h : 0 ≤ I 10 6 ∧ I 10 6 ≤ 10) : semC d 98 [vr 3, vi x, vi y] (mk w I J) =
    if (0 ≤ x ∧ x < I 10 6) ∧ (y = -1 ∨ (0 ≤ y ∧ y < I 4 4)) then
      (if y = -1 ∨ sit1 (I 10 6).toNat (I 16) y = -1 ∨ sit1 (I 10 6).toNat (I 16) y = x then some (some (vi (I 16 x.toNat)), mk w (up2 I 16 x.toNat y) J) else some (some (vi (-2)), mk w I J))
    else some (some (vi (-2000000000)), mk w I J) := by
  obtain ⟨e, rfl⟩ : ∃ e, d = e + 1 := ⟨d - 1, by omega⟩
  rw [e_98]
  by_cases c1 : 0 ≤ x ∧ x < I 10 6
  · by_cases c2 : y = -1
    · subst c2
      simp (disch := omega) only [b_98_0, b_98_8, b_98_11, b_98_14, b_98_19, b_98_27, b_98_30, b_98_33, b_98_41, b_98_47, b_98_52, b_98_55, s_80 _ _ _ _ _ _, s_82 _ _ _ _ _ _ h, c1, semK, Option.bind_some, mpush, wr_if, wr_tdiv, if_pos, if_neg, ↓reduceIte, b2_t, b2_f, Bool.false_eq_true, up2_ne, up2_sne, up2_s, true_or, or_true, true_and, and_true, false_and, and_false, false_or, or_false, and_self, and_true, true_and, true_or]
    · by_cases c3 : 0 ≤ y ∧ y < I 4 4
      · by_cases c4 : sit1 (I 10 6).toNat (I 16) y = -1
        · simp (disch := omega) only [b_98_0, b_98_8, b_98_11, b_98_14, b_98_19, b_98_27, b_98_30, b_98_33, b_98_41, b_98_47, b_98_52, b_98_55, s_80 _ _ _ _ _ _, s_21 _ _ _ _ _ _, s_82 _ _ _ _ _ _ h, c1, c2, c3, c4, semK, Option.bind_some, mpush, wr_if, wr_tdiv, if_pos, if_neg, ↓reduceIte, b2_t, b2_f, Bool.false_eq_true, up2_ne, up2_sne, up2_s, true_or, or_true, true_and, and_true, false_and, and_false, false_or, or_false, and_self, and_true, true_and, true_or, or_true, false_or]
        · by_cases c5 : sit1 (I 10 6).toNat (I 16) y = x
          · simp (disch := omega) only [b_98_0, b_98_8, b_98_11, b_98_14, b_98_19, b_98_27, b_98_30, b_98_33, b_98_41, b_98_47, b_98_52, b_98_55, s_80 _ _ _ _ _ _, s_21 _ _ _ _ _ _, s_82 _ _ _ _ _ _ h, c1, c2, c3, semK, Option.bind_some, mpush, wr_if, wr_tdiv, if_pos, if_neg, ↓reduceIte, b2_t, b2_f, Bool.false_eq_true, up2_ne, up2_sne, up2_s, true_or, or_true, true_and, and_true, false_and, and_false, false_or, or_false, and_self, and_true, true_and, true_or, or_true, false_or]
          · simp (disch := omega) only [b_98_0, b_98_8, b_98_11, b_98_14, b_98_19, b_98_27, b_98_30, b_98_33, b_98_41, b_98_47, b_98_52, b_98_55, s_80 _ _ _ _ _ _, s_21 _ _ _ _ _ _, s_82 _ _ _ _ _ _ h, c1, c2, c3, semK, Option.bind_some, mpush, wr_if, wr_tdiv, if_pos, if_neg, ↓reduceIte, b2_t, b2_f, Bool.false_eq_true, up2_ne, up2_sne, up2_s, true_or, or_true, true_and, and_true, false_and, and_false, false_or, or_false, and_self, and_true, true_and, true_or, or_true, false_or]
      · simp (disch := omega) only [b_98_0, b_98_8, b_98_11, b_98_14, b_98_19, b_98_27, b_98_30, b_98_33, b_98_41, b_98_47, b_98_52, b_98_55, s_80 _ _ _ _ _ _, s_21 _ _ _ _ _ _, c1, c2, semK, Option.bind_some, mpush, wr_if, wr_tdiv, if_pos, if_neg, ↓reduceIte, b2_t, b2_f, Bool.false_eq_true, up2_ne, up2_sne, up2_s, true_or, or_true, true_and, and_true, false_and, and_false, false_or, or_false, and_self, and_true, true_and, false_or, and_false]
  · simp (disch := omega) only [b_98_0, b_98_8, b_98_11, b_98_14, b_98_19, b_98_27, b_98_30, b_98_33, b_98_41, b_98_47, b_98_52, b_98_55, s_80 _ _ _ _ _ _, c1, semK, Option.bind_some, mpush, wr_if, wr_tdiv, if_pos, if_neg, ↓reduceIte, b2_t, b2_f, Bool.false_eq_true, up2_ne, up2_sne, up2_s, true_or, or_true, true_and, and_true, false_and, and_false, false_or, or_false, false_and]
theorem s_148 (d : Nat) (w : Nat × Bool) (I J : Nat → Nat → Int) (x y : Int) (hd : 3 ≤ d) (h : 0 ≤ I 58 10 ∧ I 58 10 ≤ 10) (h3 : 0 ≤ I 58 3 ∧ I 58 3 ≤ 10) : semC d 148 [vr 58, vi x, vi y] (mk w I J) =
    if (0 ≤ x ∧ x < I 58 10) ∧ (y = -1 ∨ (0 ≤ y ∧ y < I 58 3)) then
      (if y = -1 ∨ sit1 (I 58 10).toNat (I 69) y = -1 ∨ sit1 (I 58 10).toNat (I 69) y = x then some (some (vi (I 69 x.toNat)), mk w (up2 I 69 x.toNat y) J) else some (some (vi (-2)), mk w I J))
    else some (some (vi (-2000000000)), mk w I J) := by
  obtain ⟨e, rfl⟩ : ∃ e, d = e + 1 := ⟨d - 1, by omega⟩
  rw [e_148]
  have g := sit1_ge (I 58 10).toNat (I 69) y
  by_cases c1 : 0 ≤ x ∧ x < I 58 10
  · by_cases c2 : y = -1
    · subst c2
      simp (disch := omega) only [b_148_0, b_148_5, b_148_8, b_148_13, b_148_18, b_148_21, b_148_24, b_148_28, b_148_33, b_148_36, b_148_41, b_148_45, b_148_48, s_139 _ _ _ _ _ _ h, c1, semK, Option.bind_some, mpush, wr_if, wr_tdiv, if_pos, if_neg, ↓reduceIte, b2_t, b2_f, Bool.false_eq_true, up2_ne, up2_sne, up2_s, true_or, or_true, true_and, and_true, false_and, and_false, false_or, or_false, and_self, and_true, true_and, true_or]
    · by_cases c3 : 0 ≤ y ∧ y < I 58 3
      · by_cases c4 : sit1 (I 58 10).toNat (I 69) y = -1
        · simp (disch := omega) only [b_148_0, b_148_5, b_148_8, b_148_13, b_148_18, b_148_21, b_148_24, b_148_28, b_148_33, b_148_36, b_148_41, b_148_45, b_148_48, s_139 _ _ _ _ _ _ h, s_138 _ _ _ _ _ _ h3, s_146 _ _ _ _ _ _ h, c1, c2, c3, c4, semK, Option.bind_some, mpush, wr_if, wr_tdiv, if_pos, if_neg, ↓reduceIte, b2_t, b2_f, Bool.false_eq_true, up2_ne, up2_sne, up2_s, true_or, or_true, true_and, and_true, false_and, and_false, false_or, or_false, and_self, and_true, true_and, true_or, or_true, false_or]
        · by_cases c5 : sit1 (I 58 10).toNat (I 69) y = x
          · simp (disch := omega) only [b_148_0, b_148_5, b_148_8, b_148_13, b_148_18, b_148_21, b_148_24, b_148_28, b_148_33, b_148_36, b_148_41, b_148_45, b_148_48, s_139 _ _ _ _ _ _ h, s_138 _ _ _ _ _ _ h3, s_146 _ _ _ _ _ _ h, c1, c2, c3, semK, Option.bind_some, mpush, wr_if, wr_tdiv, if_pos, if_neg, ↓reduceIte, b2_t, b2_f, Bool.false_eq_true, up2_ne, up2_sne, up2_s, true_or, or_true, true_and, and_true, false_and, and_false, false_or, or_false, and_self, and_true, true_and, true_or, or_true, false_or]
          · simp (disch := omega) only [b_148_0, b_148_5, b_148_8, b_148_13, b_148_18, b_148_21, b_148_24, b_148_28, b_148_33, b_148_36, b_148_41, b_148_45, b_148_48, s_139 _ _ _ _ _ _ h, s_138 _ _ _ _ _ _ h3, s_146 _ _ _ _ _ _ h, c1, c2, c3, semK, Option.bind_some, mpush, wr_if, wr_tdiv, if_pos, if_neg, ↓reduceIte, b2_t, b2_f, Bool.false_eq_true, up2_ne, up2_sne, up2_s, true_or, or_true, true_and, and_true, false_and, and_false, false_or, or_false, and_self, and_true, true_and, true_or, or_true, false_or]
      · simp (disch := omega) only [b_148_0, b_148_5, b_148_8, b_148_13, b_148_18, b_148_21, b_148_24, b_148_28, b_148_33, b_148_36, b_148_41, b_148_45, b_148_48, s_139 _ _ _ _ _ _ h, s_138 _ _ _ _ _ _ h3, c1, c2, semK, Option.bind_some, mpush, wr_if, wr_tdiv, if_pos, if_neg, ↓reduceIte, b2_t, b2_f, Bool.false_eq_true, up2_ne, up2_sne, up2_s, true_or, or_true, true_and, and_true, false_and, and_false, false_or, or_false, and_self, and_true, true_and, false_or, and_false]
  · simp (disch := omega) only [b_148_0, b_148_5, b_148_8, b_148_13, b_148_18, b_148_21, b_148_24, b_148_28, b_148_33, b_148_36, b_148_41, b_148_45, b_148_48, s_139 _ _ _ _ _ _ h, c1, semK, Option.bind_some, mpush, wr_if, wr_tdiv, if_pos, if_neg, ↓reduceIte, b2_t, b2_f, Bool.false_eq_true, up2_ne, up2_sne, up2_s, true_or, or_true, true_and, and_true, false_and, and_false, false_or, or_false, false_and]
