def pos (f : Nat → Int) : Prop := ∀ k, 0 ≤ f k ∧ f k < 100
/-- what 'of' answers -/
def ofR (nw nd ns : Int) (vo mi ne wi ta se dx dy sx sy sh : Nat → Int) (a b : Int) : Int :=
  if 0 ≤ b ∧ b ≤ 5 then (if 0 ≤ a ∧ a < nw then (if b = 0 then vo a.toNat else if b = 1 then mi a.toNat else if b = 2 then ne a.toNat else if b = 3 then wi a.toNat else if b = 4 then ta a.toNat else se a.toNat) else -2000000000)
  else if b = 10 then (if 0 ≤ a ∧ a < nd then 100 * dx a.toNat + dy a.toNat else -2000000000)
  else if b = 20 then (if 0 ≤ a ∧ a < ns then 100 * sx a.toNat + sy a.toNat else -2000000000)
  else if b = 21 then (if 0 ≤ a ∧ a < ns then sh a.toNat else -2000000000) else -2000000000
theorem s_84 (d : Nat) (w : Nat × Bool) (I J : Nat → Nat → Int) (a b : Int) (hd : 1 ≤ d) (ha : 0 ≤ a ∧ a < 10) : semC d 84 [vr 10, vi a, vi b] (mk w I J) = some (some (vi (if b = 0 then I 11 a.toNat else if b = 1 then I 12 a.toNat else if b = 2 then I 13 a.toNat else if b = 3 then I 14 a.toNat else if b = 4 then I 15 a.toNat else I 16 a.toNat)), mk w I J) := by
  obtain ⟨e, rfl⟩ : ∃ e, d = e + 1 := ⟨d - 1, by omega⟩
  rw [e_84]
  simp (disch := omega) only [b_84_0, b_84_36, b_84_43, b_84_50, b_84_57, b_84_64, b_84_71, semK, Option.bind_some, mpush, wr_if, wr_tdiv, if_pos, if_neg, ↓reduceIte, b2_t, b2_f, Bool.false_eq_true, up2_ne, up2_sne, up2_s, true_or, or_true, true_and, and_true, false_and, and_false, false_or, or_false]
  repeat' split
  all_goals first | rfl | (exfalso; omega) | (simp_all; done)
theorem s_101 (d : Nat) (w : Nat × Bool) (I J : Nat → Nat → Int) (a b : Int) (hd : 2 ≤ d) (hw : 0 ≤ I 10 6 ∧ I 10 6 ≤ 10) (hn : 0 ≤ I 4 4 ∧ I 4 4 ≤ 10) (hs : 0 ≤ I 4 8 ∧ I 4 8 ≤ 10) (h5 : pos (I 5)) (h6 : pos (I 6)) (h7 : pos (I 7)) (h8 : pos (I 8)) :
    semC d 101 [vr 3, vi a, vi b] (mk w I J) = some (some (vi (ofR (I 10 6) (I 4 4) (I 4 8) (I 11) (I 12) (I 13) (I 14) (I 15) (I 16) (I 5) (I 6) (I 7) (I 8) (I 9) a b)), mk w I J) := by
  obtain ⟨e, rfl⟩ : ∃ e, d = e + 1 := ⟨d - 1, by omega⟩
  rw [e_101]
  have g5 := h5 a.toNat
  have g6 := h6 a.toNat
  have g7 := h7 a.toNat
  have g8 := h8 a.toNat
  unfold ofR
  by_cases c1 : 0 ≤ b ∧ b ≤ 5
  · by_cases c2 : 0 ≤ a ∧ a < I 10 6
    · simp (disch := omega) only [b_101_0, b_101_4, b_101_9, b_101_17, b_101_20, b_101_29, b_101_32, b_101_34, b_101_35, b_101_41, b_101_49, b_101_52, b_101_75, b_101_81, b_101_89, b_101_92, b_101_115, b_101_121, b_101_129, b_101_132, b_101_142, s_80 _ _ _ _ _ _, s_84 _ _ _ _ _ _ _ _, semK, Option.bind_some, mpush, wr_if, wr_tdiv, if_pos, if_neg, ↓reduceIte, b2_t, b2_f, Bool.false_eq_true, up2_ne, up2_sne, up2_s, true_or, or_true, true_and, and_true, false_and, and_false, false_or, or_false]
    · simp (disch := omega) only [b_101_0, b_101_4, b_101_9, b_101_17, b_101_20, b_101_29, b_101_32, b_101_34, b_101_35, b_101_41, b_101_49, b_101_52, b_101_75, b_101_81, b_101_89, b_101_92, b_101_115, b_101_121, b_101_129, b_101_132, b_101_142, s_80 _ _ _ _ _ _, semK, Option.bind_some, mpush, wr_if, wr_tdiv, if_pos, if_neg, ↓reduceIte, b2_t, b2_f, Bool.false_eq_true, up2_ne, up2_sne, up2_s, true_or, or_true, true_and, and_true, false_and, and_false, false_or, or_false]
  · by_cases c3 : b = 10
    · by_cases c2 : 0 ≤ a ∧ a < I 4 4
      · simp (disch := omega) only [b_101_0, b_101_4, b_101_9, b_101_17, b_101_20, b_101_29, b_101_32, b_101_34, b_101_35, b_101_41, b_101_49, b_101_52, b_101_75, b_101_81, b_101_89, b_101_92, b_101_115, b_101_121, b_101_129, b_101_132, b_101_142, s_21 _ _ _ _ _ _, s_22 _ _ _ _ _ _, semK, Option.bind_some, mpush, wr_if, wr_tdiv, if_pos, if_neg, ↓reduceIte, b2_t, b2_f, Bool.false_eq_true, up2_ne, up2_sne, up2_s, true_or, or_true, true_and, and_true, false_and, and_false, false_or, or_false]
      · simp (disch := omega) only [b_101_0, b_101_4, b_101_9, b_101_17, b_101_20, b_101_29, b_101_32, b_101_34, b_101_35, b_101_41, b_101_49, b_101_52, b_101_75, b_101_81, b_101_89, b_101_92, b_101_115, b_101_121, b_101_129, b_101_132, b_101_142, s_21 _ _ _ _ _ _, s_22 _ _ _ _ _ _, semK, Option.bind_some, mpush, wr_if, wr_tdiv, if_pos, if_neg, ↓reduceIte, b2_t, b2_f, Bool.false_eq_true, up2_ne, up2_sne, up2_s, true_or, or_true, true_and, and_true, false_and, and_false, false_or, or_false]
    · by_cases c4 : b = 20
      · by_cases c2 : 0 ≤ a ∧ a < I 4 8
        · simp (disch := omega) only [b_101_0, b_101_4, b_101_9, b_101_17, b_101_20, b_101_29, b_101_32, b_101_34, b_101_35, b_101_41, b_101_49, b_101_52, b_101_75, b_101_81, b_101_89, b_101_92, b_101_115, b_101_121, b_101_129, b_101_132, b_101_142, s_21 _ _ _ _ _ _, s_22 _ _ _ _ _ _, semK, Option.bind_some, mpush, wr_if, wr_tdiv, if_pos, if_neg, ↓reduceIte, b2_t, b2_f, Bool.false_eq_true, up2_ne, up2_sne, up2_s, true_or, or_true, true_and, and_true, false_and, and_false, false_or, or_false]
        · simp (disch := omega) only [b_101_0, b_101_4, b_101_9, b_101_17, b_101_20, b_101_29, b_101_32, b_101_34, b_101_35, b_101_41, b_101_49, b_101_52, b_101_75, b_101_81, b_101_89, b_101_92, b_101_115, b_101_121, b_101_129, b_101_132, b_101_142, s_21 _ _ _ _ _ _, s_22 _ _ _ _ _ _, semK, Option.bind_some, mpush, wr_if, wr_tdiv, if_pos, if_neg, ↓reduceIte, b2_t, b2_f, Bool.false_eq_true, up2_ne, up2_sne, up2_s, true_or, or_true, true_and, and_true, false_and, and_false, false_or, or_false]
      · by_cases c5 : b = 21
        · by_cases c2 : 0 ≤ a ∧ a < I 4 8
          · simp (disch := omega) only [b_101_0, b_101_4, b_101_9, b_101_17, b_101_20, b_101_29, b_101_32, b_101_34, b_101_35, b_101_41, b_101_49, b_101_52, b_101_75, b_101_81, b_101_89, b_101_92, b_101_115, b_101_121, b_101_129, b_101_132, b_101_142, s_21 _ _ _ _ _ _, s_22 _ _ _ _ _ _, semK, Option.bind_some, mpush, wr_if, wr_tdiv, if_pos, if_neg, ↓reduceIte, b2_t, b2_f, Bool.false_eq_true, up2_ne, up2_sne, up2_s, true_or, or_true, true_and, and_true, false_and, and_false, false_or, or_false]
          · simp (disch := omega) only [b_101_0, b_101_4, b_101_9, b_101_17, b_101_20, b_101_29, b_101_32, b_101_34, b_101_35, b_101_41, b_101_49, b_101_52, b_101_75, b_101_81, b_101_89, b_101_92, b_101_115, b_101_121, b_101_129, b_101_132, b_101_142, s_21 _ _ _ _ _ _, s_22 _ _ _ _ _ _, semK, Option.bind_some, mpush, wr_if, wr_tdiv, if_pos, if_neg, ↓reduceIte, b2_t, b2_f, Bool.false_eq_true, up2_ne, up2_sne, up2_s, true_or, or_true, true_and, and_true, false_and, and_false, false_or, or_false]
        · by_cases c6 : 0 ≤ b
          · simp (disch := omega) only [b_101_0, b_101_4, b_101_9, b_101_17, b_101_20, b_101_29, b_101_32, b_101_34, b_101_35, b_101_41, b_101_49, b_101_52, b_101_75, b_101_81, b_101_89, b_101_92, b_101_115, b_101_121, b_101_129, b_101_132, b_101_142, semK, Option.bind_some, mpush, wr_if, wr_tdiv, if_pos, if_neg, ↓reduceIte, b2_t, b2_f, Bool.false_eq_true, up2_ne, up2_sne, up2_s, true_or, or_true, true_and, and_true, false_and, and_false, false_or, or_false]
          · simp (disch := omega) only [b_101_0, b_101_4, b_101_9, b_101_17, b_101_20, b_101_29, b_101_32, b_101_34, b_101_35, b_101_41, b_101_49, b_101_52, b_101_75, b_101_81, b_101_89, b_101_92, b_101_115, b_101_121, b_101_129, b_101_132, b_101_142, semK, Option.bind_some, mpush, wr_if, wr_tdiv, if_pos, if_neg, ↓reduceIte, b2_t, b2_f, Bool.false_eq_true, up2_ne, up2_sne, up2_s, true_or, or_true, true_and, and_true, false_and, and_false, false_or, or_false]
theorem s_156 (d : Nat) (w : Nat × Bool) (I J : Nat → Nat → Int) (a b : Int) (hd : 3 ≤ d) (hw : 0 ≤ I 58 10 ∧ I 58 10 ≤ 10) (hn : 0 ≤ I 58 3 ∧ I 58 3 ≤ 10) (hs : 0 ≤ I 58 6 ∧ I 58 6 ≤ 10) (h5 : pos (I 59)) (h6 : pos (I 60)) (h7 : pos (I 61)) (h8 : pos (I 62)) :
    semC d 156 [vr 58, vi a, vi b] (mk w I J) = some (some (vi (ofR (I 58 10) (I 58 3) (I 58 6) (I 64) (I 65) (I 66) (I 67) (I 68) (I 69) (I 59) (I 60) (I 61) (I 62) (I 63) a b)), mk w I J) := by
  obtain ⟨e, rfl⟩ : ∃ e, d = e + 1 := ⟨d - 1, by omega⟩
  rw [e_156]
  have g5 := h5 a.toNat
  have g6 := h6 a.toNat
  have g7 := h7 a.toNat
  have g8 := h8 a.toNat
  unfold ofR
  by_cases c1 : 0 ≤ b ∧ b ≤ 5
  · by_cases c2 : 0 ≤ a ∧ a < I 58 10
    · simp (disch := omega) only [b_156_0, b_156_6, b_156_9, b_156_14, b_156_17, b_156_20, b_156_24, b_156_33, b_156_38, b_156_47, b_156_52, b_156_61, b_156_66, b_156_75, b_156_80, b_156_89, b_156_95, b_156_96, b_156_102, b_156_107, b_156_110, b_156_129, b_156_131, b_156_132, b_156_140, b_156_143, b_156_154, b_156_157, b_156_160, b_156_166, b_156_185, b_156_191, s_135 _ _ _ _ _ _ _ _, s_139 _ _ _ _ _ _ hw, semK, Option.bind_some, mpush, wr_if, wr_tdiv, if_pos, if_neg, ↓reduceIte, b2_t, b2_f, Bool.false_eq_true, up2_ne, up2_sne, up2_s, true_or, or_true, true_and, and_true, false_and, and_false, false_or, or_false]
      repeat' split
      all_goals first | rfl | (exfalso; omega) | (simp_all; done)
    · simp (disch := omega) only [b_156_0, b_156_6, b_156_9, b_156_14, b_156_17, b_156_20, b_156_24, b_156_33, b_156_38, b_156_47, b_156_52, b_156_61, b_156_66, b_156_75, b_156_80, b_156_89, b_156_95, b_156_96, b_156_102, b_156_107, b_156_110, b_156_129, b_156_131, b_156_132, b_156_140, b_156_143, b_156_154, b_156_157, b_156_160, b_156_166, b_156_185, b_156_191, s_135 _ _ _ _ _ _ _ _, s_139 _ _ _ _ _ _ hw, semK, Option.bind_some, mpush, wr_if, wr_tdiv, if_pos, if_neg, ↓reduceIte, b2_t, b2_f, Bool.false_eq_true, up2_ne, up2_sne, up2_s, true_or, or_true, true_and, and_true, false_and, and_false, false_or, or_false]
  · by_cases c3 : b = 10
    · by_cases c2 : 0 ≤ a ∧ a < I 58 3
      · simp (disch := omega) only [b_156_0, b_156_6, b_156_9, b_156_14, b_156_17, b_156_20, b_156_24, b_156_33, b_156_38, b_156_47, b_156_52, b_156_61, b_156_66, b_156_75, b_156_80, b_156_89, b_156_95, b_156_96, b_156_102, b_156_107, b_156_110, b_156_129, b_156_131, b_156_132, b_156_140, b_156_143, b_156_154, b_156_157, b_156_160, b_156_166, b_156_185, b_156_191, s_135 _ _ _ _ _ _ _ _, s_138 _ _ _ _ _ _ hn, semK, Option.bind_some, mpush, wr_if, wr_tdiv, if_pos, if_neg, ↓reduceIte, b2_t, b2_f, Bool.false_eq_true, up2_ne, up2_sne, up2_s, true_or, or_true, true_and, and_true, false_and, and_false, false_or, or_false]
      · simp (disch := omega) only [b_156_0, b_156_6, b_156_9, b_156_14, b_156_17, b_156_20, b_156_24, b_156_33, b_156_38, b_156_47, b_156_52, b_156_61, b_156_66, b_156_75, b_156_80, b_156_89, b_156_95, b_156_96, b_156_102, b_156_107, b_156_110, b_156_129, b_156_131, b_156_132, b_156_140, b_156_143, b_156_154, b_156_157, b_156_160, b_156_166, b_156_185, b_156_191, s_135 _ _ _ _ _ _ _ _, s_138 _ _ _ _ _ _ hn, semK, Option.bind_some, mpush, wr_if, wr_tdiv, if_pos, if_neg, ↓reduceIte, b2_t, b2_f, Bool.false_eq_true, up2_ne, up2_sne, up2_s, true_or, or_true, true_and, and_true, false_and, and_false, false_or, or_false]
    · by_cases c4 : b = 20
      · by_cases c2 : 0 ≤ a ∧ a < I 58 6
        · simp (disch := omega) only [b_156_0, b_156_6, b_156_9, b_156_14, b_156_17, b_156_20, b_156_24, b_156_33, b_156_38, b_156_47, b_156_52, b_156_61, b_156_66, b_156_75, b_156_80, b_156_89, b_156_95, b_156_96, b_156_102, b_156_107, b_156_110, b_156_129, b_156_131, b_156_132, b_156_140, b_156_143, b_156_154, b_156_157, b_156_160, b_156_166, b_156_185, b_156_191, s_135 _ _ _ _ _ _ _ _, semK, Option.bind_some, mpush, wr_if, wr_tdiv, if_pos, if_neg, ↓reduceIte, b2_t, b2_f, Bool.false_eq_true, up2_ne, up2_sne, up2_s, true_or, or_true, true_and, and_true, false_and, and_false, false_or, or_false]
        · simp (disch := omega) only [b_156_0, b_156_6, b_156_9, b_156_14, b_156_17, b_156_20, b_156_24, b_156_33, b_156_38, b_156_47, b_156_52, b_156_61, b_156_66, b_156_75, b_156_80, b_156_89, b_156_95, b_156_96, b_156_102, b_156_107, b_156_110, b_156_129, b_156_131, b_156_132, b_156_140, b_156_143, b_156_154, b_156_157, b_156_160, b_156_166, b_156_185, b_156_191, s_135 _ _ _ _ _ _ _ _, semK, Option.bind_some, mpush, wr_if, wr_tdiv, if_pos, if_neg, ↓reduceIte, b2_t, b2_f, Bool.false_eq_true, up2_ne, up2_sne, up2_s, true_or, or_true, true_and, and_true, false_and, and_false, false_or, or_false]
      · by_cases c5 : b = 21
        · by_cases c2 : 0 ≤ a ∧ a < I 58 6
          · simp (disch := omega) only [b_156_0, b_156_6, b_156_9, b_156_14, b_156_17, b_156_20, b_156_24, b_156_33, b_156_38, b_156_47, b_156_52, b_156_61, b_156_66, b_156_75, b_156_80, b_156_89, b_156_95, b_156_96, b_156_102, b_156_107, b_156_110, b_156_129, b_156_131, b_156_132, b_156_140, b_156_143, b_156_154, b_156_157, b_156_160, b_156_166, b_156_185, b_156_191, s_135 _ _ _ _ _ _ _ _, semK, Option.bind_some, mpush, wr_if, wr_tdiv, if_pos, if_neg, ↓reduceIte, b2_t, b2_f, Bool.false_eq_true, up2_ne, up2_sne, up2_s, true_or, or_true, true_and, and_true, false_and, and_false, false_or, or_false]
          · simp (disch := omega) only [b_156_0, b_156_6, b_156_9, b_156_14, b_156_17, b_156_20, b_156_24, b_156_33, b_156_38, b_156_47, b_156_52, b_156_61, b_156_66, b_156_75, b_156_80, b_156_89, b_156_95, b_156_96, b_156_102, b_156_107, b_156_110, b_156_129, b_156_131, b_156_132, b_156_140, b_156_143, b_156_154, b_156_157, b_156_160, b_156_166, b_156_185, b_156_191, s_135 _ _ _ _ _ _ _ _, semK, Option.bind_some, mpush, wr_if, wr_tdiv, if_pos, if_neg, ↓reduceIte, b2_t, b2_f, Bool.false_eq_true, up2_ne, up2_sne, up2_s, true_or, or_true, true_and, and_true, false_and, and_false, false_or, or_false]
        · simp (disch := omega) only [b_156_0, b_156_6, b_156_9, b_156_14, b_156_17, b_156_20, b_156_24, b_156_33, b_156_38, b_156_47, b_156_52, b_156_61, b_156_66, b_156_75, b_156_80, b_156_89, b_156_95, b_156_96, b_156_102, b_156_107, b_156_110, b_156_129, b_156_131, b_156_132, b_156_140, b_156_143, b_156_154, b_156_157, b_156_160, b_156_166, b_156_185, b_156_191, s_135 _ _ _ _ _ _ _ _, semK, Option.bind_some, mpush, wr_if, wr_tdiv, if_pos, if_neg, ↓reduceIte, b2_t, b2_f, Bool.false_eq_true, up2_ne, up2_sne, up2_s, true_or, or_true, true_and, and_true, false_and, and_false, false_or, or_false]
/-- the changes -/
def laysX (I : Nat → Nat → Int) (of at_ v : Int) : Nat → Nat → Int := if of = 0 then up2 I 11 at_.toNat v else if of = 1 then up2 I 12 at_.toNat v else up2 (up2 I 9 at_.toNat v) 4 9 (I 4 9 + 1)
def laysM (I : Nat → Nat → Int) (of at_ v : Int) : Nat → Nat → Int := if of = 0 then up2 I 64 at_.toNat v else if of = 1 then up2 I 65 at_.toNat v else up2 I 63 at_.toNat v
theorem s_26 (d : Nat) (w : Nat × Bool) (I J : Nat → Nat → Int) (a v : Int) (hd : 1 ≤ d) (ha : 0 ≤ a ∧ a < 10) (h : 0 ≤ I 4 9 ∧ I 4 9 ≤ 1000000) : semC d 26 [vr 4, vi a, vi v] (mk w I J) = some (none, mk w (up2 (up2 I 9 a.toNat v) 4 9 (I 4 9 + 1)) J) := by
  obtain ⟨e, rfl⟩ : ∃ e, d = e + 1 := ⟨d - 1, by omega⟩
  rw [e_26]
  simp (disch := omega) only [b_26_0, semK, Option.bind_some, mpush, wr_if, wr_tdiv, if_pos, if_neg, ↓reduceIte, b2_t, b2_f, Bool.false_eq_true, up2_ne, up2_sne, up2_s, true_or, or_true, true_and, and_true, false_and, and_false, false_or, or_false]
theorem s_13 (d : Nat) (w : Nat × Bool) (I J : Nat → Nat → Int) (a b v : Int) (hd : 2 ≤ d) (ha : 0 ≤ a ∧ a < 10) (h : 0 ≤ I 4 9 ∧ I 4 9 ≤ 1000000) : semC d 13 [vr 37, vi a, vi b, vi v] (mk w I J) = some (none, mk w (laysX I b a v) J) := by
  obtain ⟨e, rfl⟩ : ∃ e, d = e + 1 := ⟨d - 1, by omega⟩
  rw [e_13]
  unfold laysX
  by_cases c1 : b = 0
  · simp (disch := omega) only [b_13_0, b_13_4, b_13_17, b_13_22, b_13_35, b_13_44, semK, Option.bind_some, mpush, wr_if, wr_tdiv, if_pos, if_neg, ↓reduceIte, b2_t, b2_f, Bool.false_eq_true, up2_ne, up2_sne, up2_s, true_or, or_true, true_and, and_true, false_and, and_false, false_or, or_false]
  · by_cases c2 : b = 1
    · simp (disch := omega) only [b_13_0, b_13_4, b_13_17, b_13_22, b_13_35, b_13_44, semK, Option.bind_some, mpush, wr_if, wr_tdiv, if_pos, if_neg, ↓reduceIte, b2_t, b2_f, Bool.false_eq_true, up2_ne, up2_sne, up2_s, true_or, or_true, true_and, and_true, false_and, and_false, false_or, or_false]
    · simp (disch := omega) only [b_13_0, b_13_4, b_13_17, b_13_22, b_13_35, b_13_44, s_26 _ _ _ _ _ _ _ ha h, semK, Option.bind_some, mpush, wr_if, wr_tdiv, if_pos, if_neg, ↓reduceIte, b2_t, b2_f, Bool.false_eq_true, up2_ne, up2_sne, up2_s, true_or, or_true, true_and, and_true, false_and, and_false, false_or, or_false]
theorem s_151 (d : Nat) (w : Nat × Bool) (I J : Nat → Nat → Int) (a b v : Int) (hd : 1 ≤ d) (ha : 0 ≤ a ∧ a < 10) : semC d 151 [vr 58, vi b, vi a, vi v] (mk w I J) = some (none, mk w (laysM I b a v) J) := by
  obtain ⟨e, rfl⟩ : ∃ e, d = e + 1 := ⟨d - 1, by omega⟩
  rw [e_151]
  unfold laysM
  by_cases c1 : b = 0
  · simp (disch := omega) only [b_151_0, b_151_4, b_151_14, b_151_19, b_151_29, b_151_36, semK, Option.bind_some, mpush, wr_if, wr_tdiv, if_pos, if_neg, ↓reduceIte, b2_t, b2_f, Bool.false_eq_true, up2_ne, up2_sne, up2_s, true_or, or_true, true_and, and_true, false_and, and_false, false_or, or_false]
  · by_cases c2 : b = 1
    · simp (disch := omega) only [b_151_0, b_151_4, b_151_14, b_151_19, b_151_29, b_151_36, semK, Option.bind_some, mpush, wr_if, wr_tdiv, if_pos, if_neg, ↓reduceIte, b2_t, b2_f, Bool.false_eq_true, up2_ne, up2_sne, up2_s, true_or, or_true, true_and, and_true, false_and, and_false, false_or, or_false]
    · simp (disch := omega) only [b_151_0, b_151_4, b_151_14, b_151_19, b_151_29, b_151_36, semK, Option.bind_some, mpush, wr_if, wr_tdiv, if_pos, if_neg, ↓reduceIte, b2_t, b2_f, Bool.false_eq_true, up2_ne, up2_sne, up2_s, true_or, or_true, true_and, and_true, false_and, and_false, false_or, or_false]
theorem s_150 (d : Nat) (w : Nat × Bool) (I J : Nat → Nat → Int) (a b : Int) (hd : 1 ≤ d) (ha : 0 ≤ a ∧ a < 10) : semC d 150 [vr 58, vi b, vi a] (mk w I J) = some (some (vi (if b = 0 then I 64 a.toNat else if b = 1 then I 65 a.toNat else I 63 a.toNat)), mk w I J) := by
  obtain ⟨e, rfl⟩ : ∃ e, d = e + 1 := ⟨d - 1, by omega⟩
  rw [e_150]
  simp (disch := omega) only [b_150_0, b_150_4, b_150_13, b_150_18, b_150_27, b_150_33, semK, Option.bind_some, mpush, wr_if, wr_tdiv, if_pos, if_neg, ↓reduceIte, b2_t, b2_f, Bool.false_eq_true, up2_ne, up2_sne, up2_s, true_or, or_true, true_and, and_true, false_and, and_false, false_or, or_false]
  repeat' split
  all_goals first | rfl | (exfalso; omega) | (simp_all; done)
