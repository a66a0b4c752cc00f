theorem trM_s {I : Nat → Nat → Int} {r : Int} {c : Nat} (h : c ≠ 58) (h4 : c ≠ 91) : trM I r c = I c := by
  unfold trM
  rw [up2_row, if_neg h]
  split
  · rw [up2_row, if_neg h4]
  · rfl
theorem trM_58 {I : Nat → Nat → Int} {r : Int} {k : Nat} : trM I r 58 k = if k = 50 then I 58 50 + 1 else I 58 k := by
  unfold trM
  rw [up2_row, if_pos rfl, rs_at]
  by_cases h : k = 50
  · rw [if_pos h, if_pos h]
  · rw [if_neg h, if_neg h]
    split
    · rw [up2_row, if_neg (by omega)]
    · rfl
def AM (K b m : Int) (I : Nat → Nat → Int) : Prop := (0 ≤ I 58 50 ∧ I 58 50 ≤ m) ∧ (0 ≤ b ∧ b < 50) ∧ I 90 b.toNat = K
theorem AM_tr {K b m r : Int} {I : Nat → Nat → Int} (h : AM K b m I) : AM K b (m + 1) (trM I r) := by
  obtain ⟨h3, h5, h6⟩ := h
  refine ⟨?_, h5, ?_⟩
  · rw [trM_58, if_pos rfl]; omega
  · rw [trM_s (by omega) (by omega), h6]
theorem AM_trs {K b : Int} : ∀ {l : List Int} {m n : Int} {I : Nat → Nat → Int}, AM K b m I → m + l.length ≤ n → AM K b n (trsM I l)
  | [], m, n, I, h, hn => by
    obtain ⟨h3, h5, h6⟩ := h
    rw [List.length_nil] at hn
    exact ⟨⟨h3.1, show I 58 50 ≤ n by omega⟩, h5, h6⟩
  | r :: l, m, n, I, h, hn => by
    rw [List.length_cons] at hn
    exact AM_trs (l := l) (AM_tr h) (by omega)
theorem s_210 (d : Nat) (w : Nat × Bool) (I J : Nat → Nat → Int) (r K b m : Int) (hd : 1 ≤ d) (hm : m ≤ 1000) (h : AM K b m I) : semC d 210 [vr 58, vi r] (mk w I J) = some (none, mk w (trM I r) J) := by
  obtain ⟨e, rfl⟩ : ∃ e, d = e + 1 := ⟨d - 1, by omega⟩
  rw [e_210]
  obtain ⟨h3, h5, h6⟩ := h
  unfold trM
  by_cases c : I 58 50 < 24
  · simp (disch := omega) only [b_210_0, b_210_9, b_210_19, semK, Option.bind_some, mpush, wr_if, wr_tdiv, if_pos, if_neg, ↓reduceIte, b2_t, b2_f, Bool.false_eq_true, up2_ne, up2_sne, up2_s, true_or, or_true, true_and, and_true, false_and, and_false, false_or, or_false]
  · simp (disch := omega) only [b_210_0, b_210_9, b_210_19, semK, Option.bind_some, mpush, wr_if, wr_tdiv, if_pos, if_neg, ↓reduceIte, b2_t, b2_f, Bool.false_eq_true, up2_ne, up2_sne, up2_s, true_or, or_true, true_and, and_true, false_and, and_false, false_or, or_false]
theorem s_214 (d : Nat) (w : Nat × Bool) (I J : Nat → Nat → Int) (x K b m : Int) (hd : 2 ≤ d) (hm : m ≤ 990) (h : AM K b m I) : semC d 214 [vr 58, vi b, vi x] (mk w I J) = some (some (vi (wr (x + b))), mk w (trsM I [1]) J) := by
  obtain ⟨e, rfl⟩ : ∃ e, d = e + 1 := ⟨d - 1, by omega⟩
  rw [e_214]
  have g := s_210 e w I J 1 K b m (by omega) (by omega) h
  simp (disch := omega) only [b_214_0, b_214_5, g, trsM, List.foldl, semK, Option.bind_some, mpush]
theorem s_215 (d : Nat) (w : Nat × Bool) (I J : Nat → Nat → Int) (x K b m : Int) (hd : 3 ≤ d) (hm : m ≤ 980) (h : AM K b m I) : semC d 215 [vr 58, vi b, vi x] (mk w I J) = some (some (vi (wr (wr (x + b) * 2))), mk w (trsM I [70, 1]) J) := by
  obtain ⟨e, rfl⟩ : ∃ e, d = e + 1 := ⟨d - 1, by omega⟩
  rw [e_215]
  have g := s_210 e w I J 70 K b m (by omega) (by omega) h
  have g2 := s_214 e w _ J x K b (m + 1) (by omega) (by omega) (AM_tr (r := 70) h)
  simp (disch := omega) only [b_215_0, b_215_6, b_215_12, g, g2, trsM, List.foldl, semK, Option.bind_some, mpush]
theorem s_216 (d : Nat) (w : Nat × Bool) (I J : Nat → Nat → Int) (x K b m : Int) (hd : 4 ≤ d) (hm : m ≤ 970) (h : AM K b m I) : semC d 216 [vr 58, vi b, vi x] (mk w I J) = some (some (vi (spV K b x)), mk w (trsM I (spT K)) J) := by
  obtain ⟨e, rfl⟩ : ∃ e, d = e + 1 := ⟨d - 1, by omega⟩
  rw [e_216]
  have h' := h
  obtain ⟨h3, h5, h6⟩ := h'
  have ga := s_210 e w I J 20 K b m (by omega) (by omega) h
  have ga2 := s_214 e w _ J x K b (m + 1) (by omega) (by omega) (AM_tr (r := 20) h)
  have gb := s_210 e w I J 81 K b m (by omega) (by omega) h
  have gb2 := s_215 e w _ J x K b (m + 1) (by omega) (by omega) (AM_tr (r := 81) h)
  have gc := s_215 e w _ J x K b m (by omega) (by omega) h
  have gd := s_214 e w _ J x K b m (by omega) (by omega) h
  unfold spV spT
  have hu : undr K 1 = decide (K = 1 ∨ K = 4 ∨ K = 5) := by unfold undr; congr 1; apply propext; omega
  by_cases c : K = 1 ∨ K = 4 ∨ K = 5
  · rw [decide_eq_true c] at hu
    simp (disch := omega) only [b_216_0, b_216_10, b_216_13, b_216_19, b_216_25, b_216_28, b_216_39, b_216_45, b_216_51, b_216_54, b_216_65, b_216_71, b_216_74, b_216_80, s_213 _ _ _ _ _ _, h6, hu, ga, ga2, semK, Option.bind_some, mpush, wr_if, wr_tdiv, if_pos, if_neg, ↓reduceIte, b2_t, b2_f, Bool.false_eq_true, up2_ne, up2_sne, up2_s, true_or, or_true, true_and, and_true, false_and, and_false, false_or, or_false]
    rfl
  · rw [decide_eq_false c] at hu
    by_cases c7 : K = 7
    · simp (disch := omega) only [b_216_0, b_216_10, b_216_13, b_216_19, b_216_25, b_216_28, b_216_39, b_216_45, b_216_51, b_216_54, b_216_65, b_216_71, b_216_74, b_216_80, s_213 _ _ _ _ _ _, h6, hu, gb, gb2, semK, Option.bind_some, mpush, wr_if, wr_tdiv, if_pos, if_neg, ↓reduceIte, b2_t, b2_f, Bool.false_eq_true, up2_ne, up2_sne, up2_s, true_or, or_true, true_and, and_true, false_and, and_false, false_or, or_false]
      rfl
    · by_cases c6 : K = 6
      · simp (disch := omega) only [b_216_0, b_216_10, b_216_13, b_216_19, b_216_25, b_216_28, b_216_39, b_216_45, b_216_51, b_216_54, b_216_65, b_216_71, b_216_74, b_216_80, s_213 _ _ _ _ _ _, h6, hu, gc, semK, Option.bind_some, mpush, wr_if, wr_tdiv, if_pos, if_neg, ↓reduceIte, b2_t, b2_f, Bool.false_eq_true, up2_ne, up2_sne, up2_s, true_or, or_true, true_and, and_true, false_and, and_false, false_or, or_false]
      · simp (disch := omega) only [b_216_0, b_216_10, b_216_13, b_216_19, b_216_25, b_216_28, b_216_39, b_216_45, b_216_51, b_216_54, b_216_65, b_216_71, b_216_74, b_216_80, s_213 _ _ _ _ _ _, h6, hu, gd, semK, Option.bind_some, mpush, wr_if, wr_tdiv, if_pos, if_neg, ↓reduceIte, b2_t, b2_f, Bool.false_eq_true, up2_ne, up2_sne, up2_s, true_or, or_true, true_and, and_true, false_and, and_false, false_or, or_false]
theorem s_217 (d : Nat) (w : Nat × Bool) (I J : Nat → Nat → Int) (x K b m : Int) (hd : 5 ≤ d) (hm : m ≤ 960) (h : AM K b m I) : semC d 217 [vr 58, vi b, vi x] (mk w I J) = some (some (vi (phV K b x)), mk w (trsM I (phT K)) J) := by
  obtain ⟨e, rfl⟩ : ∃ e, d = e + 1 := ⟨d - 1, by omega⟩
  rw [e_217]
  have g := s_210 e w I J 10 K b m (by omega) (by omega) h
  have g2 := s_216 e w _ J x K b (m + 1) (by omega) (by omega) (AM_tr (r := 10) h)
  unfold phV phT
  rw [trsM_app]
  simp (disch := omega) only [b_217_0, b_217_6, b_217_12, g, g2, semK, Option.bind_some, mpush]
  rfl
theorem s_218 (d : Nat) (w : Nat × Bool) (I J : Nat → Nat → Int) (x K b m : Int) (hd : 6 ≤ d) (hm : m ≤ 950) (h : AM K b m I) : semC d 218 [vr 58, vi b, vi x] (mk w I J) = some (some (vi (wr (-phV K b x))), mk w (trsM I ([30] ++ phT K)) J) := by
  obtain ⟨e, rfl⟩ : ∃ e, d = e + 1 := ⟨d - 1, by omega⟩
  rw [e_218]
  have g := s_210 e w I J 30 K b m (by omega) (by omega) h
  have g2 := s_217 e w _ J x K b (m + 1) (by omega) (by omega) (AM_tr (r := 30) h)
  rw [trsM_app]
  simp (disch := omega) only [b_218_0, b_218_6, b_218_12, g, g2, semK, Option.bind_some, mpush]
  rfl
theorem s_220 (d : Nat) (w : Nat × Bool) (I J : Nat → Nat → Int) (x K b m : Int) (hd : 2 ≤ d) (hm : m ≤ 990) (h : AM K b m I) : semC d 220 [vr 58, vi b, vi x] (mk w I J) = some (some (vi (ixor x b)), mk w (trsM I [11]) J) := by
  obtain ⟨e, rfl⟩ : ∃ e, d = e + 1 := ⟨d - 1, by omega⟩
  rw [e_220]
  have g := s_210 e w I J 11 K b m (by omega) (by omega) h
  simp (disch := omega) only [b_220_0, b_220_6, g, trsM, List.foldl, semK, Option.bind_some, mpush]
theorem s_221 (d : Nat) (w : Nat × Bool) (I J : Nat → Nat → Int) (x K b m : Int) (hd : 6 ≤ d) (hm : m ≤ 950) (h : AM K b m I) : semC d 221 [vr 58, vi b, vi x] (mk w I J) = some (some (vi (miV K b x)), mk w (trsM I (miT K)) J) := by
  obtain ⟨e, rfl⟩ : ∃ e, d = e + 1 := ⟨d - 1, by omega⟩
  rw [e_221]
  have h' := h
  obtain ⟨h3, h5, h6⟩ := h'
  have ga := s_210 e w I J 40 K b m (by omega) (by omega) h
  have ga2 := s_220 e w _ J x K b (m + 1) (by omega) (by omega) (AM_tr (r := 40) h)
  have gb := s_210 e w I J 60 K b m (by omega) (by omega) h
  have gb2 := s_220 e w _ J x K b (m + 1) (by omega) (by omega) (AM_tr (r := 60) h)
  have gb3 := s_216 e w (trsM (trM I 60) [11]) J 2 K b (m + 2) (by omega) (by omega) (AM_trs (AM_tr h) (by simp; omega))
  have gc := s_220 e w _ J x K b m (by omega) (by omega) h
  unfold miV miT
  by_cases c : K = 3
  · simp (disch := omega) only [b_221_0, b_221_10, b_221_16, b_221_22, b_221_25, b_221_35, b_221_41, b_221_47, b_221_55, b_221_57, b_221_63, h6, ga, ga2, semK, Option.bind_some, mpush, wr_if, wr_tdiv, if_pos, if_neg, ↓reduceIte, b2_t, b2_f, Bool.false_eq_true, up2_ne, up2_sne, up2_s, true_or, or_true, true_and, and_true, false_and, and_false, false_or, or_false]
    rfl
  · by_cases c7 : K = 5
    · simp (disch := omega) only [b_221_0, b_221_10, b_221_16, b_221_22, b_221_25, b_221_35, b_221_41, b_221_47, b_221_55, b_221_57, b_221_63, h6, gb, gb2, gb3, trsM_app, semK, Option.bind_some, mpush, wr_if, wr_tdiv, if_pos, if_neg, ↓reduceIte, b2_t, b2_f, Bool.false_eq_true, up2_ne, up2_sne, up2_s, true_or, or_true, true_and, and_true, false_and, and_false, false_or, or_false]
      rfl
    · simp (disch := omega) only [b_221_0, b_221_10, b_221_16, b_221_22, b_221_25, b_221_35, b_221_41, b_221_47, b_221_55, b_221_57, b_221_63, h6, gc, semK, Option.bind_some, mpush, wr_if, wr_tdiv, if_pos, if_neg, ↓reduceIte, b2_t, b2_f, Bool.false_eq_true, up2_ne, up2_sne, up2_s, true_or, or_true, true_and, and_true, false_and, and_false, false_or, or_false]
theorem s_219 (d : Nat) (w : Nat × Bool) (I J : Nat → Nat → Int) (x K b m : Int) (hd : 7 ≤ d) (hm : m ≤ 930) (h : AM K b m I) : semC d 219 [vr 58, vi b, vi x] (mk w I J) = some (some (vi (heV K b x)), mk w (trsM I (heT K)) J) := by
  obtain ⟨e, rfl⟩ : ∃ e, d = e + 1 := ⟨d - 1, by omega⟩
  rw [e_219]
  have h' := h
  obtain ⟨h3, h5, h6⟩ := h'
  have ga := s_210 e w I J 41 K b m (by omega) (by omega) h
  have ga2 := s_218 e w _ J (wr (x + 1)) K b (m + 1) (by omega) (by omega) (AM_tr (r := 41) h)
  have gb := s_210 e w I J 80 K b m (by omega) (by omega) h
  have gb2 := s_217 e w _ J x K b (m + 1) (by omega) (by omega) (AM_tr (r := 80) h)
  have hL : (phT K).length ≤ 10 := by have := spL K; unfold phT; simp; omega
  have gb3 := s_221 e w (trsM (trM I 80) (phT K)) J 2 K b (m + 11) (by omega) (by omega) (AM_trs (AM_tr h) (by omega))
  have gc := s_218 e w _ J x K b m (by omega) (by omega) h
  have gd := s_217 e w _ J x K b m (by omega) (by omega) h
  unfold heV heT
  by_cases c : K = 3
  · rw [if_pos c, if_pos c]
    simp only [b_219_0, b_219_10, b_219_16, b_219_24, if_pos h5, h6, if_pos c, ga, ga2, semK, Option.bind_some, mpush]
    rfl
  · by_cases c7 : K = 7
    · simp (disch := omega) only [b_219_0, b_219_10, b_219_16, b_219_24, b_219_25, b_219_36, b_219_42, b_219_48, b_219_56, b_219_58, b_219_68, b_219_74, b_219_77, b_219_83, h6, gb, gb2, gb3, trsM_app, semK, Option.bind_some, mpush, wr_if, wr_tdiv, if_pos, if_neg, ↓reduceIte, b2_t, b2_f, Bool.false_eq_true, up2_ne, up2_sne, up2_s, true_or, or_true, true_and, and_true, false_and, and_false, false_or, or_false]
      rfl
    · by_cases c2 : K = 2
      · simp (disch := omega) only [b_219_0, b_219_10, b_219_16, b_219_24, b_219_25, b_219_36, b_219_42, b_219_48, b_219_56, b_219_58, b_219_68, b_219_74, b_219_77, b_219_83, h6, gc, semK, Option.bind_some, mpush, wr_if, wr_tdiv, if_pos, if_neg, ↓reduceIte, b2_t, b2_f, Bool.false_eq_true, up2_ne, up2_sne, up2_s, true_or, or_true, true_and, and_true, false_and, and_false, false_or, or_false]
      · simp (disch := omega) only [b_219_0, b_219_10, b_219_16, b_219_24, b_219_25, b_219_36, b_219_42, b_219_48, b_219_56, b_219_58, b_219_68, b_219_74, b_219_77, b_219_83, h6, gd, semK, Option.bind_some, mpush, wr_if, wr_tdiv, if_pos, if_neg, ↓reduceIte, b2_t, b2_f, Bool.false_eq_true, up2_ne, up2_sne, up2_s, true_or, or_true, true_and, and_true, false_and, and_false, false_or, or_false]
theorem s_222 (d : Nat) (w : Nat × Bool) (I J : Nat → Nat → Int) (x K b m : Int) (hd : 8 ≤ d) (hm : m ≤ 900) (h : AM K b m I) : semC d 222 [vr 58, vi b, vi x] (mk w I J) = some (some (vi (pmV K b x)), mk w (trsM I (pmT K)) J) := by
  obtain ⟨e, rfl⟩ : ∃ e, d = e + 1 := ⟨d - 1, by omega⟩
  rw [e_222]
  have ga := s_210 e w I J 2 K b m (by omega) (by omega) h
  have gb := s_219 e w _ J x K b (m + 1) (by omega) (by omega) (AM_tr (r := 2) h)
  have hL := heL K
  have gc := s_221 e w (trsM (trM I 2) (heT K)) J 1 K b (m + 13) (by omega) (by omega) (AM_trs (AM_tr h) (by omega))
  unfold pmV pmT
  rw [trsM_app, trsM_app]
  simp (disch := omega) only [b_222_0, b_222_5, b_222_11, b_222_19, ga, gb, gc, semK, Option.bind_some, mpush]
  rfl
theorem s_223 (d : Nat) (w : Nat × Bool) (I J : Nat → Nat → Int) (x K b m : Int) (hd : 9 ≤ d) (hm : m ≤ 890) (h : AM K b m I) : semC d 223 [vr 58, vi b, vi x] (mk w I J) = some (some (vi (ixor (pmV K b x) 5)), mk w (trsM I ([50] ++ pmT K)) J) := by
  obtain ⟨e, rfl⟩ : ∃ e, d = e + 1 := ⟨d - 1, by omega⟩
  rw [e_223]
  have ga := s_210 e w I J 50 K b m (by omega) (by omega) h
  have gb := s_222 e w _ J x K b (m + 1) (by omega) (by omega) (AM_tr (r := 50) h)
  rw [trsM_app]
  simp (disch := omega) only [b_223_0, b_223_6, b_223_12, ga, gb, semK, Option.bind_some, mpush]
  rfl
theorem s_224 (d : Nat) (w : Nat × Bool) (I J : Nat → Nat → Int) (x K b m : Int) (hd : 10 ≤ d) (hm : m ≤ 880) (h : AM K b m I) : semC d 224 [vr 58, vi b, vi x] (mk w I J) = some (some (vi (moV K b x)), mk w (trsM I (moT K)) J) := by
  obtain ⟨e, rfl⟩ : ∃ e, d = e + 1 := ⟨d - 1, by omega⟩
  rw [e_224]
  have h' := h
  obtain ⟨h3, h5, h6⟩ := h'
  have ga := s_210 e w I J 61 K b m (by omega) (by omega) h
  have gb := s_223 e w _ J x K b (m + 1) (by omega) (by omega) (AM_tr (r := 61) h)
  have gc := s_223 e w _ J x K b m (by omega) (by omega) h
  have gd := s_222 e w _ J x K b m (by omega) (by omega) h
  unfold moV moT
  by_cases c : K = 5
  · rw [if_pos c, if_pos c]
    simp only [b_224_0, b_224_10, b_224_16, b_224_22, if_pos h5, h6, if_pos c, ga, gb, semK, Option.bind_some, mpush]
    rfl
  · by_cases c4 : K = 4
    · simp (disch := omega) only [b_224_0, b_224_10, b_224_16, b_224_22, b_224_25, b_224_35, b_224_41, b_224_44, b_224_50, h6, gc, semK, Option.bind_some, mpush, wr_if, wr_tdiv, if_pos, if_neg, ↓reduceIte, b2_t, b2_f, Bool.false_eq_true, up2_ne, up2_sne, up2_s, true_or, or_true, true_and, and_true, false_and, and_false, false_or, or_false]
    · simp (disch := omega) only [b_224_0, b_224_10, b_224_16, b_224_22, b_224_25, b_224_35, b_224_41, b_224_44, b_224_50, h6, gd, semK, Option.bind_some, mpush, wr_if, wr_tdiv, if_pos, if_neg, ↓reduceIte, b2_t, b2_f, Bool.false_eq_true, up2_ne, up2_sne, up2_s, true_or, or_true, true_and, and_true, false_and, and_false, false_or, or_false]
theorem s_225 (d : Nat) (w : Nat × Bool) (I J : Nat → Nat → Int) (b a x : Int) (hd : 12 ≤ d) (hn : 0 ≤ I 58 48 ∧ I 58 48 ≤ 50) : semC d 225 [vr 58, vi b, vi a, vi x] (mk w I J) =
    if (0 ≤ b ∧ b < I 58 48) ∧ 0 ≤ a ∧ a ≤ 3 then some (some (vi (acV a (I 90 b.toNat) b x)), mk w (trsM (up2 I 58 50 0) (acT a (I 90 b.toNat))) J) else some (some (vi 0), mk w (up2 I 58 50 0) J) := by
  obtain ⟨e, rfl⟩ : ∃ e, d = e + 1 := ⟨d - 1, by omega⟩
  rw [e_225]
  have hn' : up2 I 58 50 0 58 48 = I 58 48 := up2_sne _ _ _ (by omega)
  have hn2 : 0 ≤ up2 I 58 50 0 58 48 ∧ up2 I 58 50 0 58 48 ≤ 50 := by rw [hn']; exact hn
  by_cases c1 : 0 ≤ b ∧ b < I 58 48
  · by_cases c2 : 0 ≤ a ∧ a ≤ 3
    · rw [if_pos ⟨c1, c2⟩]
      have hA : AM (I 90 b.toNat) b 0 (up2 I 58 50 0) := by
        refine ⟨?_, by omega, ?_⟩
        · rw [up2_s]; omega
        · rw [up2_ne _ _ _ (by omega)]
      have q0 := s_216 e w _ J x (I 90 b.toNat) b 0 (by omega) (by omega) hA
      have q1 := s_219 e w _ J x (I 90 b.toNat) b 0 (by omega) (by omega) hA
      have q2 := s_221 e w _ J x (I 90 b.toNat) b 0 (by omega) (by omega) hA
      have q3 := s_224 e w _ J x (I 90 b.toNat) b 0 (by omega) (by omega) hA
      unfold acV acT
      rcases four c2 with rfl | rfl | rfl | rfl
      all_goals simp (disch := omega) only [b_225_0, b_225_10, b_225_13, b_225_19, b_225_22, b_225_24, b_225_28, b_225_34, b_225_37, b_225_42, b_225_48, b_225_51, b_225_56, b_225_62, b_225_65, b_225_71, s_209 _ _ _ _ _ _ hn2, s_135 _ _ _ _ _ _ _ _, hn', q0, q1, q2, q3, semK, Option.bind_some, mpush, wr_if, wr_tdiv, if_pos, if_neg, ↓reduceIte, b2_t, b2_f, Bool.false_eq_true, up2_ne, up2_sne, up2_s, true_or, or_true, true_and, and_true, false_and, and_false, false_or, or_false, Int.reduceEq]
    · rw [if_neg (by omega)]
      simp (disch := omega) only [b_225_0, b_225_10, b_225_13, b_225_19, b_225_22, b_225_24, b_225_28, b_225_34, b_225_37, b_225_42, b_225_48, b_225_51, b_225_56, b_225_62, b_225_65, b_225_71, s_209 _ _ _ _ _ _ hn2, s_135 _ _ _ _ _ _ _ _, hn', semK, Option.bind_some, mpush, wr_if, wr_tdiv, if_pos, if_neg, ↓reduceIte, b2_t, b2_f, Bool.false_eq_true, up2_ne, up2_sne, up2_s, true_or, or_true, true_and, and_true, false_and, and_false, false_or, or_false]
  · rw [if_neg (by omega)]
    simp (disch := omega) only [b_225_0, b_225_10, b_225_13, b_225_19, b_225_22, b_225_24, b_225_28, b_225_34, b_225_37, b_225_42, b_225_48, b_225_51, b_225_56, b_225_62, b_225_65, b_225_71, s_209 _ _ _ _ _ _ hn2, hn', semK, Option.bind_some, mpush, wr_if, wr_tdiv, if_pos, if_neg, ↓reduceIte, b2_t, b2_f, Bool.false_eq_true, up2_ne, up2_sne, up2_s, true_or, or_true, true_and, and_true, false_and, and_false, false_or, or_false]
