theorem to_n {x : Int} {n : Nat} (h : 0 ≤ x ∧ x < n) : ∃ i : Nat, i < n ∧ x = i := ⟨x.toNat, by omega, by omega⟩
/-- a stretch of a row made 0 -/
def zr (J : Nat → Nat → Int) (c a n : Nat) : Nat → Nat → Int := fun c' k => if c' = c ∧ a ≤ k ∧ k < a + n then 0 else J c' k
theorem zr_itr (J : Nat → Nat → Int) (c a n : Nat) : itr (fun u J' => up2 J' c (a + u) 0) n J = zr J c a n := by
  induction n with
  | zero => funext c' k; unfold itr zr; rw [if_neg (by omega)]
  | succ n ih =>
    unfold itr
    rw [ih]
    funext c' k
    unfold up2 zr
    by_cases h1 : c' = c <;> by_cases h2 : k = a + n
    · rw [if_pos ⟨h1, h2⟩, if_pos ⟨h1, by omega, by omega⟩]
    · rw [if_neg (by omega)]
      by_cases h3 : a ≤ k ∧ k < a + n
      · rw [if_pos ⟨h1, h3⟩, if_pos ⟨h1, by omega, by omega⟩]
      · rw [if_neg (by omega), if_neg (by omega)]
    · rw [if_neg (by omega), if_neg (by omega), if_neg (by omega)]
    · rw [if_neg (by omega), if_neg (by omega), if_neg (by omega)]
theorem s_66 (d : Nat) (w : Nat × Bool) (I J : Nat → Nat → Int) (i : Nat) (x n : Int) (hi : i < 6) (hn : 0 ≤ n ∧ n ≤ 60) (hd : 1 ≤ d) : semC d 66 [vr (46 + 2 * i), vi x, vi n] (mk w I J) = some (none, mk w (up2 (up2 I (46 + 2 * i) 0 x) (46 + 2 * i) 2 n) (zr J (47 + 2 * i) 0 n.toNat)) := by
  obtain ⟨e, rfl⟩ : ∃ e, d = e + 1 := ⟨d - 1, by omega⟩
  rw [e_66]
  have l := loop (fun (u : Nat) (J' : Nat → Nat → Int) => Sem e 66 12 [some (vr (46 + 2 * i)), some (vi x), some (vi n), some (vi (u : Int))] [] (mk w (up2 (up2 I (46 + 2 * i) 0 x) (46 + 2 * i) 2 n) J'))
    (fun u J' => up2 J' (47 + 2 * i) (0 + u) 0) (fun _ _ => True) n.toNat J trivial (by
    intro u J' hu _
    refine ⟨?_, trivial⟩
    rw [b_66_12]
    simp (disch := omega) only [b_66_17, b_66_26, sh_T _ _ _ hi, sh_C _ _ _ hi, sh_A _ _ _ hi, nat_i, Nat.zero_add, semK, Option.bind_some, mpush, wr_if, wr_tdiv, if_pos, if_neg, ↓reduceIte, b2_t, b2_f, Bool.false_eq_true, up2_ne, up2_sne, up2_s, true_or, or_true, true_and, and_true, false_and, and_false, false_or, or_false]
    rfl)
  have l1 := l.1
  rw [zr_itr, show ((0 : Nat) : Int) = 0 from rfl, show ((n.toNat : Nat) : Int) = n from Int.toNat_of_nonneg hn.1] at l1
  simp (disch := omega) only [b_66_0, sh_T _ _ _ hi, semK, Option.bind_some, mpush, wr_if, wr_tdiv, if_pos, if_neg, ↓reduceIte, b2_t, b2_f, Bool.false_eq_true, up2_ne, up2_sne, up2_s, true_or, or_true, true_and, and_true, false_and, and_false, false_or, or_false]
  rw [l1]
  simp (disch := omega) only [b_66_12, b_66_39, semK, Option.bind_some, mpush, wr_if, wr_tdiv, if_pos, if_neg, ↓reduceIte, b2_t, b2_f, Bool.false_eq_true, up2_ne, up2_sne, up2_s, true_or, or_true, true_and, and_true, false_and, and_false, false_or, or_false]
/-- why an element can't be used -/
theorem s_132 (d : Nat) (w : Nat × Bool) (I J : Nat → Nat → Int) (i : Nat) (x : Int) (hi : i < 6) (hd : 2 ≤ d) : semC d 132 [vr 3, vi (i : Int), vi x] (mk w I J) = some (some (vi (if I (46 + 2 * i) 0 = -1 then -11 else if I (46 + 2 * i) 0 = 5 then -12 else if 0 ≤ x ∧ x < I (46 + 2 * i) 2 then 0 else -13)), mk w I J) := by
  obtain ⟨e, rfl⟩ : ∃ e, d = e + 1 := ⟨d - 1, by omega⟩
  rw [e_132]
  by_cases c1 : I (46 + 2 * i) 0 = -1
  · simp (disch := omega) only [b_132_0, b_132_5, b_132_8, b_132_10, b_132_21, b_132_24, b_132_27, b_132_31, b_132_34, b_132_37, b_132_43, b_132_46, b_132_50, b_132_52, sh_R _ _ _ hi, sh_T _ _ _ hi, s_131 _ _ _ _ _ _, s_60 _ _ _ _ _ hi _, nat_i, semK, Option.bind_some, mpush, wr_if, wr_tdiv, if_pos, if_neg, ↓reduceIte, b2_t, b2_f, Bool.false_eq_true, up2_ne, up2_sne, up2_s, true_or, or_true, true_and, and_true, false_and, and_false, false_or, or_false]
  · by_cases c2 : I (46 + 2 * i) 0 = 5
    · simp (disch := omega) only [b_132_0, b_132_5, b_132_8, b_132_10, b_132_21, b_132_24, b_132_27, b_132_31, b_132_34, b_132_37, b_132_43, b_132_46, b_132_50, b_132_52, sh_R _ _ _ hi, sh_T _ _ _ hi, s_131 _ _ _ _ _ _, s_60 _ _ _ _ _ hi _, s_61 _ _ _ _ _ hi _, nat_i, semK, Option.bind_some, mpush, wr_if, wr_tdiv, if_pos, if_neg, ↓reduceIte, b2_t, b2_f, Bool.false_eq_true, up2_ne, up2_sne, up2_s, true_or, or_true, true_and, and_true, false_and, and_false, false_or, or_false]
    · by_cases c3 : 0 ≤ x ∧ x < I (46 + 2 * i) 2
      · simp (disch := omega) only [b_132_0, b_132_5, b_132_8, b_132_10, b_132_21, b_132_24, b_132_27, b_132_31, b_132_34, b_132_37, b_132_43, b_132_46, b_132_50, b_132_52, sh_R _ _ _ hi, sh_T _ _ _ hi, s_131 _ _ _ _ _ _, s_60 _ _ _ _ _ hi _, s_61 _ _ _ _ _ hi _, s_62 _ _ _ _ _ _ hi _, nat_i, semK, Option.bind_some, mpush, wr_if, wr_tdiv, if_pos, if_neg, ↓reduceIte, b2_t, b2_f, Bool.false_eq_true, up2_ne, up2_sne, up2_s, true_or, or_true, true_and, and_true, false_and, and_false, false_or, or_false]
      · simp (disch := omega) only [b_132_0, b_132_5, b_132_8, b_132_10, b_132_21, b_132_24, b_132_27, b_132_31, b_132_34, b_132_37, b_132_43, b_132_46, b_132_50, b_132_52, sh_R _ _ _ hi, sh_T _ _ _ hi, s_131 _ _ _ _ _ _, s_60 _ _ _ _ _ hi _, s_61 _ _ _ _ _ hi _, s_62 _ _ _ _ _ _ hi _, nat_i, semK, Option.bind_some, mpush, wr_if, wr_tdiv, if_pos, if_neg, ↓reduceIte, b2_t, b2_f, Bool.false_eq_true, up2_ne, up2_sne, up2_s, true_or, or_true, true_and, and_true, false_and, and_false, false_or, or_false]
theorem s_132n (d : Nat) (w : Nat × Bool) (I J : Nat → Nat → Int) (s x : Int) (hs : ¬ (0 ≤ s ∧ s < 6)) (hd : 2 ≤ d) : semC d 132 [vr 3, vi s, vi x] (mk w I J) = some (some (vi (-1)), mk w I J) := by
  obtain ⟨e, rfl⟩ : ∃ e, d = e + 1 := ⟨d - 1, by omega⟩
  rw [e_132]
  simp (disch := omega) only [b_132_0, b_132_5, b_132_8, b_132_10, b_132_21, b_132_24, b_132_27, b_132_31, b_132_34, b_132_37, b_132_43, b_132_46, b_132_50, b_132_52, s_131 _ _ _ _ _ _, semK, Option.bind_some, mpush, wr_if, wr_tdiv, if_pos, if_neg, ↓reduceIte, b2_t, b2_f, Bool.false_eq_true, up2_ne, up2_sne, up2_s, true_or, or_true, true_and, and_true, false_and, and_false, false_or, or_false]
theorem s_230 (d : Nat) (w : Nat × Bool) (I J : Nat → Nat → Int) (i : Nat) (x : Int) (hi : i < 6) (hd : 3 ≤ d) (h9 : I 92 i < -1 → 0 ≤ I 93 i ∧ I 93 i ≤ 60) : semC d 230 [vr 58, vi (i : Int), vi x] (mk w I J) = some (some (vi (if I 92 i = -1 then -11 else if 0 ≤ I 92 i then -12 else if 0 ≤ x ∧ x < I 93 i then 0 else -13)), mk w I J) := by
  obtain ⟨e, rfl⟩ : ∃ e, d = e + 1 := ⟨d - 1, by omega⟩
  rw [e_230]
  by_cases c1 : I 92 i = -1
  · simp (disch := omega) only [b_230_0, b_230_4, b_230_7, b_230_9, b_230_19, b_230_22, b_230_31, b_230_34, b_230_47, b_230_50, b_230_54, b_230_56, s_227 _ _ _ _ _ _, nat_i, semK, Option.bind_some, mpush, wr_if, wr_tdiv, if_pos, if_neg, ↓reduceIte, b2_t, b2_f, Bool.false_eq_true, up2_ne, up2_sne, up2_s, true_or, or_true, true_and, and_true, false_and, and_false, false_or, or_false]
  · by_cases c2 : 0 ≤ I 92 i
    · simp (disch := omega) only [b_230_0, b_230_4, b_230_7, b_230_9, b_230_19, b_230_22, b_230_31, b_230_34, b_230_47, b_230_50, b_230_54, b_230_56, s_227 _ _ _ _ _ _, nat_i, semK, Option.bind_some, mpush, wr_if, wr_tdiv, if_pos, if_neg, ↓reduceIte, b2_t, b2_f, Bool.false_eq_true, up2_ne, up2_sne, up2_s, true_or, or_true, true_and, and_true, false_and, and_false, false_or, or_false]
    · have h := h9 (by omega)
      by_cases c3 : 0 ≤ x ∧ x < I 93 i
      · simp (disch := omega) only [b_230_0, b_230_4, b_230_7, b_230_9, b_230_19, b_230_22, b_230_31, b_230_34, b_230_47, b_230_50, b_230_54, b_230_56, s_227 _ _ _ _ _ _, s_135 _ _ _ _ _ _ _ _, nat_i, semK, Option.bind_some, mpush, wr_if, wr_tdiv, if_pos, if_neg, ↓reduceIte, b2_t, b2_f, Bool.false_eq_true, up2_ne, up2_sne, up2_s, true_or, or_true, true_and, and_true, false_and, and_false, false_or, or_false]
      · simp (disch := omega) only [b_230_0, b_230_4, b_230_7, b_230_9, b_230_19, b_230_22, b_230_31, b_230_34, b_230_47, b_230_50, b_230_54, b_230_56, s_227 _ _ _ _ _ _, s_135 _ _ _ _ _ _ _ _, nat_i, semK, Option.bind_some, mpush, wr_if, wr_tdiv, if_pos, if_neg, ↓reduceIte, b2_t, b2_f, Bool.false_eq_true, up2_ne, up2_sne, up2_s, true_or, or_true, true_and, and_true, false_and, and_false, false_or, or_false]
theorem s_230n (d : Nat) (w : Nat × Bool) (I J : Nat → Nat → Int) (s x : Int) (hs : ¬ (0 ≤ s ∧ s < 6)) (hd : 3 ≤ d) : semC d 230 [vr 58, vi s, vi x] (mk w I J) = some (some (vi (-1)), mk w I J) := by
  obtain ⟨e, rfl⟩ : ∃ e, d = e + 1 := ⟨d - 1, by omega⟩
  rw [e_230]
  simp (disch := omega) only [b_230_0, b_230_4, b_230_7, b_230_9, b_230_19, b_230_22, b_230_31, b_230_34, b_230_47, b_230_50, b_230_54, b_230_56, s_227 _ _ _ _ _ _, semK, Option.bind_some, mpush, wr_if, wr_tdiv, if_pos, if_neg, ↓reduceIte, b2_t, b2_f, Bool.false_eq_true, up2_ne, up2_sne, up2_s, true_or, or_true, true_and, and_true, false_and, and_false, false_or, or_false]
/-- keep -/
theorem s_124 (d : Nat) (w : Nat × Bool) (I J : Nat → Nat → Int) (i : Nat) (b : Int) (hi : i < 6) (hd : 2 ≤ d) : semC d 124 [vr 3, vi (i : Int), vi b] (mk w I J) =
    if b = -1 then some (some (vi 1), mk w (up2 (up2 I (46 + 2 * i) 0 (-1)) (46 + 2 * i) 2 0) J)
    else if 0 ≤ b ∧ b < I 42 1 then some (some (vi 1), mk w (up2 (up2 (up2 I (46 + 2 * i) 0 5) (46 + 2 * i) 1 b) (46 + 2 * i) 2 0) J)
    else some (some (vi (-1)), mk w I J) := by
  obtain ⟨e, rfl⟩ : ∃ e, d = e + 1 := ⟨d - 1, by omega⟩
  rw [e_124]
  by_cases c1 : b = -1
  · simp (disch := omega) only [b_124_0, b_124_5, b_124_8, b_124_10, b_124_15, b_124_23, b_124_26, b_124_28, b_124_33, b_124_42, b_124_45, b_124_55, sh_R _ _ _ hi, sh_T _ _ _ hi, s_131 _ _ _ _ _ _, s_64 _ _ _ _ _ hi _, nat_i, semK, Option.bind_some, mpush, wr_if, wr_tdiv, if_pos, if_neg, ↓reduceIte, b2_t, b2_f, Bool.false_eq_true, up2_ne, up2_sne, up2_s, true_or, or_true, true_and, and_true, false_and, and_false, false_or, or_false]
  · by_cases c2 : 0 ≤ b ∧ b < I 42 1
    · simp (disch := omega) only [b_124_0, b_124_5, b_124_8, b_124_10, b_124_15, b_124_23, b_124_26, b_124_28, b_124_33, b_124_42, b_124_45, b_124_55, sh_R _ _ _ hi, sh_T _ _ _ hi, s_131 _ _ _ _ _ _, s_1 _ _ _ _ _ _, s_65 _ _ _ _ _ _ hi _, nat_i, semK, Option.bind_some, mpush, wr_if, wr_tdiv, if_pos, if_neg, ↓reduceIte, b2_t, b2_f, Bool.false_eq_true, up2_ne, up2_sne, up2_s, true_or, or_true, true_and, and_true, false_and, and_false, false_or, or_false]
    · simp (disch := omega) only [b_124_0, b_124_5, b_124_8, b_124_10, b_124_15, b_124_23, b_124_26, b_124_28, b_124_33, b_124_42, b_124_45, b_124_55, sh_R _ _ _ hi, sh_T _ _ _ hi, s_131 _ _ _ _ _ _, s_1 _ _ _ _ _ _, nat_i, semK, Option.bind_some, mpush, wr_if, wr_tdiv, if_pos, if_neg, ↓reduceIte, b2_t, b2_f, Bool.false_eq_true, up2_ne, up2_sne, up2_s, true_or, or_true, true_and, and_true, false_and, and_false, false_or, or_false]
theorem s_124n (d : Nat) (w : Nat × Bool) (I J : Nat → Nat → Int) (s b : Int) (hs : ¬ (0 ≤ s ∧ s < 6)) (hd : 2 ≤ d) : semC d 124 [vr 3, vi s, vi b] (mk w I J) = some (some (vi (-1)), mk w I J) := by
  obtain ⟨e, rfl⟩ : ∃ e, d = e + 1 := ⟨d - 1, by omega⟩
  rw [e_124]
  simp (disch := omega) only [b_124_0, b_124_5, b_124_8, b_124_10, b_124_15, b_124_23, b_124_26, b_124_28, b_124_33, b_124_42, b_124_45, b_124_55, s_131 _ _ _ _ _ _, semK, Option.bind_some, mpush, wr_if, wr_tdiv, if_pos, if_neg, ↓reduceIte, b2_t, b2_f, Bool.false_eq_true, up2_ne, up2_sne, up2_s, true_or, or_true, true_and, and_true, false_and, and_false, false_or, or_false]
theorem s_228 (d : Nat) (w : Nat × Bool) (I J : Nat → Nat → Int) (i : Nat) (b : Int) (hi : i < 6) (hd : 3 ≤ d) (hb : 0 ≤ I 58 48 ∧ I 58 48 ≤ 50) : semC d 228 [vr 58, vi (i : Int), vi b] (mk w I J) =
    if b = -1 then some (some (vi 1), mk w (up2 I 92 i (-1)) J)
    else if 0 ≤ b ∧ b < I 58 48 then some (some (vi 1), mk w (up2 I 92 i b) J)
    else some (some (vi (-1)), mk w I J) := by
  obtain ⟨e, rfl⟩ : ∃ e, d = e + 1 := ⟨d - 1, by omega⟩
  rw [e_228]
  by_cases c1 : b = -1
  · simp (disch := omega) only [b_228_0, b_228_4, b_228_7, b_228_12, b_228_17, b_228_20, b_228_22, s_227 _ _ _ _ _ _, nat_i, semK, Option.bind_some, mpush, wr_if, wr_tdiv, if_pos, if_neg, ↓reduceIte, b2_t, b2_f, Bool.false_eq_true, up2_ne, up2_sne, up2_s, true_or, or_true, true_and, and_true, false_and, and_false, false_or, or_false]
    rw [c1]
  · by_cases c2 : 0 ≤ b ∧ b < I 58 48
    · simp (disch := omega) only [b_228_0, b_228_4, b_228_7, b_228_12, b_228_17, b_228_20, b_228_22, s_227 _ _ _ _ _ _, s_209 _ _ _ _ _ _ hb, nat_i, semK, Option.bind_some, mpush, wr_if, wr_tdiv, if_pos, if_neg, ↓reduceIte, b2_t, b2_f, Bool.false_eq_true, up2_ne, up2_sne, up2_s, true_or, or_true, true_and, and_true, false_and, and_false, false_or, or_false]
    · simp (disch := omega) only [b_228_0, b_228_4, b_228_7, b_228_12, b_228_17, b_228_20, b_228_22, s_227 _ _ _ _ _ _, s_209 _ _ _ _ _ _ hb, nat_i, semK, Option.bind_some, mpush, wr_if, wr_tdiv, if_pos, if_neg, ↓reduceIte, b2_t, b2_f, Bool.false_eq_true, up2_ne, up2_sne, up2_s, true_or, or_true, true_and, and_true, false_and, and_false, false_or, or_false]
theorem s_228n (d : Nat) (w : Nat × Bool) (I J : Nat → Nat → Int) (s b : Int) (hs : ¬ (0 ≤ s ∧ s < 6)) (hd : 3 ≤ d) : semC d 228 [vr 58, vi s, vi b] (mk w I J) = some (some (vi (-1)), mk w I J) := by
  obtain ⟨e, rfl⟩ : ∃ e, d = e + 1 := ⟨d - 1, by omega⟩
  rw [e_228]
  simp (disch := omega) only [b_228_0, b_228_4, b_228_7, b_228_12, b_228_17, b_228_20, b_228_22, s_227 _ _ _ _ _ _, semK, Option.bind_some, mpush, wr_if, wr_tdiv, if_pos, if_neg, ↓reduceIte, b2_t, b2_f, Bool.false_eq_true, up2_ne, up2_sne, up2_s, true_or, or_true, true_and, and_true, false_and, and_false, false_or, or_false]
/-- row -/
theorem s_125 (d : Nat) (w : Nat × Bool) (I J : Nat → Nat → Int) (i : Nat) (x n : Int) (hi : i < 6) (hd : 2 ≤ d) : semC d 125 [vr 3, vi (i : Int), vi x, vi n] (mk w I J) =
    if (0 ≤ x ∧ x ≤ 4) ∧ n ≤ 60 then (if n < 0 then some (some (vi (-14)), mk w I J) else some (some (vi 1), mk w (up2 (up2 I (46 + 2 * i) 0 x) (46 + 2 * i) 2 n) (zr J (47 + 2 * i) 0 n.toNat)))
    else some (some (vi (-1)), mk w I J) := by
  obtain ⟨e, rfl⟩ : ∃ e, d = e + 1 := ⟨d - 1, by omega⟩
  rw [e_125]
  by_cases c1 : 0 ≤ x ∧ x ≤ 4
  · by_cases c2 : n ≤ 60
    · by_cases c3 : n < 0
      · simp (disch := omega) only [b_125_0, b_125_5, b_125_8, b_125_14, b_125_17, b_125_23, b_125_25, b_125_29, b_125_32, b_125_43, s_131 _ _ _ _ _ _, s_133 _ _ _ _ _ _ _ _, nat_i, semK, Option.bind_some, mpush, wr_if, wr_tdiv, if_pos, if_neg, ↓reduceIte, b2_t, b2_f, Bool.false_eq_true, up2_ne, up2_sne, up2_s, true_or, or_true, true_and, and_true, false_and, and_false, false_or, or_false]
      · simp (disch := omega) only [b_125_0, b_125_5, b_125_8, b_125_14, b_125_17, b_125_23, b_125_25, b_125_29, b_125_32, b_125_43, sh_R _ _ _ hi, sh_T _ _ _ hi, s_131 _ _ _ _ _ _, s_133 _ _ _ _ _ _ _ _, s_66 _ _ _ _ _ _ _ hi _, nat_i, semK, Option.bind_some, mpush, wr_if, wr_tdiv, if_pos, if_neg, ↓reduceIte, b2_t, b2_f, Bool.false_eq_true, up2_ne, up2_sne, up2_s, true_or, or_true, true_and, and_true, false_and, and_false, false_or, or_false]
    · simp (disch := omega) only [b_125_0, b_125_5, b_125_8, b_125_14, b_125_17, b_125_23, b_125_25, b_125_29, b_125_32, b_125_43, s_131 _ _ _ _ _ _, s_133 _ _ _ _ _ _ _ _, nat_i, semK, Option.bind_some, mpush, wr_if, wr_tdiv, if_pos, if_neg, ↓reduceIte, b2_t, b2_f, Bool.false_eq_true, up2_ne, up2_sne, up2_s, true_or, or_true, true_and, and_true, false_and, and_false, false_or, or_false]
  · simp (disch := omega) only [b_125_0, b_125_5, b_125_8, b_125_14, b_125_17, b_125_23, b_125_25, b_125_29, b_125_32, b_125_43, s_131 _ _ _ _ _ _, s_133 _ _ _ _ _ _ _ _, nat_i, semK, Option.bind_some, mpush, wr_if, wr_tdiv, if_pos, if_neg, ↓reduceIte, b2_t, b2_f, Bool.false_eq_true, up2_ne, up2_sne, up2_s, true_or, or_true, true_and, and_true, false_and, and_false, false_or, or_false]
theorem s_125n (d : Nat) (w : Nat × Bool) (I J : Nat → Nat → Int) (s x n : Int) (hs : ¬ (0 ≤ s ∧ s < 6)) (hd : 2 ≤ d) : semC d 125 [vr 3, vi s, vi x, vi n] (mk w I J) = some (some (vi (-1)), mk w I J) := by
  obtain ⟨e, rfl⟩ : ∃ e, d = e + 1 := ⟨d - 1, by omega⟩
  rw [e_125]
  simp (disch := omega) only [b_125_0, b_125_5, b_125_8, b_125_14, b_125_17, b_125_23, b_125_25, b_125_29, b_125_32, b_125_43, s_131 _ _ _ _ _ _, semK, Option.bind_some, mpush, wr_if, wr_tdiv, if_pos, if_neg, ↓reduceIte, b2_t, b2_f, Bool.false_eq_true, up2_ne, up2_sne, up2_s, true_or, or_true, true_and, and_true, false_and, and_false, false_or, or_false]
theorem s_229 (d : Nat) (w : Nat × Bool) (I J : Nat → Nat → Int) (i : Nat) (x n : Int) (hi : i < 6) (hd : 3 ≤ d) : semC d 229 [vr 58, vi (i : Int), vi x, vi n] (mk w I J) =
    if (0 ≤ x ∧ x ≤ 4) ∧ n ≤ 60 then (if n < 0 then some (some (vi (-14)), mk w I J) else some (some (vi 1), mk w (up2 (up2 I 92 i (-2 - x)) 93 i n) (zr J 94 (60 * i) 60)))
    else some (some (vi (-1)), mk w I J) := by
  obtain ⟨e, rfl⟩ : ∃ e, d = e + 1 := ⟨d - 1, by omega⟩
  rw [e_229]
  by_cases c1 : 0 ≤ x ∧ x ≤ 4
  · by_cases c2 : n ≤ 60
    · by_cases c3 : n < 0
      · simp (disch := omega) only [b_229_0, b_229_4, b_229_7, b_229_13, b_229_16, b_229_22, b_229_24, b_229_28, b_229_31, b_229_66, b_229_80, s_227 _ _ _ _ _ _, s_135 _ _ _ _ _ _ _ _, nat_i, semK, Option.bind_some, mpush, wr_if, wr_tdiv, if_pos, if_neg, ↓reduceIte, b2_t, b2_f, Bool.false_eq_true, up2_ne, up2_sne, up2_s, true_or, or_true, true_and, and_true, false_and, and_false, false_or, or_false]
      · have l := loop (fun (u : Nat) (J' : Nat → Nat → Int) => Sem e 229 54 [some (vr 58), some (vi (i : Int)), some (vi x), some (vi n), some (vi (60 * (i : Int) + u))] [] (mk w (up2 (up2 I 92 i (-2 - x)) 93 i n) J'))
          (fun u J' => up2 J' 94 (60 * i + u) 0) (fun _ _ => True) 60 J trivial (by
          intro u J' hu _
          refine ⟨?_, trivial⟩
          have e1 : (60 * (i : Int) + u).toNat = 60 * i + u := by omega
          rw [b_229_54]
          simp (disch := omega) only [b_229_66, e1, semK, Option.bind_some, mpush, wr_if, wr_tdiv, if_pos, if_neg, ↓reduceIte, b2_t, b2_f, Bool.false_eq_true, up2_ne, up2_sne, up2_s, true_or, or_true, true_and, and_true, false_and, and_false, false_or, or_false, Int.natCast_add, Int.natCast_one, Int.add_assoc])
        have l1 := l.1
        rw [zr_itr, show (60 * (i : Int) + ((0 : Nat) : Int)) = 60 * (i : Int) by omega, show (60 * (i : Int) + ((60 : Nat) : Int)) = 60 * (i : Int) + 60 by omega] at l1
        simp (disch := omega) only [b_229_0, b_229_4, b_229_7, b_229_13, b_229_16, b_229_24, b_229_31, s_227 _ _ _ _ _ _, s_135 _ _ _ _ _ _ _ _, nat_i, semK, Option.bind_some, mpush, wr_if, wr_tdiv, if_pos, if_neg, ↓reduceIte, b2_t, b2_f, Bool.false_eq_true, up2_ne, up2_sne, up2_s, true_or, or_true, true_and, and_true, false_and, and_false, false_or, or_false]
        rw [l1]
        simp (disch := omega) only [b_229_54, b_229_80, semK, Option.bind_some, mpush, wr_if, wr_tdiv, if_pos, if_neg, ↓reduceIte, b2_t, b2_f, Bool.false_eq_true, up2_ne, up2_sne, up2_s, true_or, or_true, true_and, and_true, false_and, and_false, false_or, or_false]
    · simp (disch := omega) only [b_229_0, b_229_4, b_229_7, b_229_13, b_229_16, b_229_22, b_229_24, b_229_28, b_229_31, b_229_66, b_229_80, s_227 _ _ _ _ _ _, s_135 _ _ _ _ _ _ _ _, nat_i, semK, Option.bind_some, mpush, wr_if, wr_tdiv, if_pos, if_neg, ↓reduceIte, b2_t, b2_f, Bool.false_eq_true, up2_ne, up2_sne, up2_s, true_or, or_true, true_and, and_true, false_and, and_false, false_or, or_false]
  · simp (disch := omega) only [b_229_0, b_229_4, b_229_7, b_229_13, b_229_16, b_229_22, b_229_24, b_229_28, b_229_31, b_229_66, b_229_80, s_227 _ _ _ _ _ _, s_135 _ _ _ _ _ _ _ _, nat_i, semK, Option.bind_some, mpush, wr_if, wr_tdiv, if_pos, if_neg, ↓reduceIte, b2_t, b2_f, Bool.false_eq_true, up2_ne, up2_sne, up2_s, true_or, or_true, true_and, and_true, false_and, and_false, false_or, or_false]
theorem s_229n (d : Nat) (w : Nat × Bool) (I J : Nat → Nat → Int) (s x n : Int) (hs : ¬ (0 ≤ s ∧ s < 6)) (hd : 3 ≤ d) : semC d 229 [vr 58, vi s, vi x, vi n] (mk w I J) = some (some (vi (-1)), mk w I J) := by
  obtain ⟨e, rfl⟩ : ∃ e, d = e + 1 := ⟨d - 1, by omega⟩
  rw [e_229]
  simp (disch := omega) only [b_229_0, b_229_4, b_229_7, b_229_13, b_229_16, b_229_22, b_229_24, b_229_28, b_229_31, b_229_66, b_229_80, s_227 _ _ _ _ _ _, semK, Option.bind_some, mpush, wr_if, wr_tdiv, if_pos, if_neg, ↓reduceIte, b2_t, b2_f, Bool.false_eq_true, up2_ne, up2_sne, up2_s, true_or, or_true, true_and, and_true, false_and, and_false, false_or, or_false]
/-- put, element -/
theorem s_126 (d : Nat) (w : Nat × Bool) (I J : Nat → Nat → Int) (i : Nat) (x v : Int) (hi : i < 6) (hd : 3 ≤ d) (h6 : I (46 + 2 * i) 2 ≤ 60) : semC d 126 [vr 3, vi (i : Int), vi x, vl v] (mk w I J) =
    if I (46 + 2 * i) 0 = -1 then some (some (vi (-11)), mk w I J) else if I (46 + 2 * i) 0 = 5 then some (some (vi (-12)), mk w I J)
    else if 0 ≤ x ∧ x < I (46 + 2 * i) 2 then some (some (vi 1), mk w I (up2 J (47 + 2 * i) x.toNat (cutQ (I (46 + 2 * i) 0) v))) else some (some (vi (-13)), mk w I J) := by
  obtain ⟨e, rfl⟩ : ∃ e, d = e + 1 := ⟨d - 1, by omega⟩
  rw [e_126]
  by_cases c1 : I (46 + 2 * i) 0 = -1
  · simp (disch := omega) only [b_126_0, b_126_6, b_126_13, b_126_16, b_126_27, s_132 _ _ _ _ _ _ hi _, nat_i, semK, Option.bind_some, mpush, wr_if, wr_tdiv, if_pos, if_neg, ↓reduceIte, b2_t, b2_f, Bool.false_eq_true, up2_ne, up2_sne, up2_s, true_or, or_true, true_and, and_true, false_and, and_false, false_or, or_false]
  · by_cases c2 : I (46 + 2 * i) 0 = 5
    · simp (disch := omega) only [b_126_0, b_126_6, b_126_13, b_126_16, b_126_27, s_132 _ _ _ _ _ _ hi _, nat_i, semK, Option.bind_some, mpush, wr_if, wr_tdiv, if_pos, if_neg, ↓reduceIte, b2_t, b2_f, Bool.false_eq_true, up2_ne, up2_sne, up2_s, true_or, or_true, true_and, and_true, false_and, and_false, false_or, or_false]
    · by_cases c3 : 0 ≤ x ∧ x < I (46 + 2 * i) 2
      · simp (disch := omega) only [b_126_0, b_126_6, b_126_13, b_126_16, b_126_27, sh_R _ _ _ hi, sh_T _ _ _ hi, s_132 _ _ _ _ _ _ hi _, s_67 _ _ _ _ _ _ _ hi _ _, nat_i, semK, Option.bind_some, mpush, wr_if, wr_tdiv, if_pos, if_neg, ↓reduceIte, b2_t, b2_f, Bool.false_eq_true, up2_ne, up2_sne, up2_s, true_or, or_true, true_and, and_true, false_and, and_false, false_or, or_false]
      · simp (disch := omega) only [b_126_0, b_126_6, b_126_13, b_126_16, b_126_27, s_132 _ _ _ _ _ _ hi _, nat_i, semK, Option.bind_some, mpush, wr_if, wr_tdiv, if_pos, if_neg, ↓reduceIte, b2_t, b2_f, Bool.false_eq_true, up2_ne, up2_sne, up2_s, true_or, or_true, true_and, and_true, false_and, and_false, false_or, or_false]
theorem s_126n (d : Nat) (w : Nat × Bool) (I J : Nat → Nat → Int) (s x v : Int) (hs : ¬ (0 ≤ s ∧ s < 6)) (hd : 3 ≤ d) : semC d 126 [vr 3, vi s, vi x, vl v] (mk w I J) = some (some (vi (-1)), mk w I J) := by
  obtain ⟨e, rfl⟩ : ∃ e, d = e + 1 := ⟨d - 1, by omega⟩
  rw [e_126]
  simp (disch := omega) only [b_126_0, b_126_6, b_126_13, b_126_16, b_126_27, s_132n _ _ _ _ _ _ hs _, semK, Option.bind_some, mpush, wr_if, wr_tdiv, if_pos, if_neg, ↓reduceIte, b2_t, b2_f, Bool.false_eq_true, up2_ne, up2_sne, up2_s, true_or, or_true, true_and, and_true, false_and, and_false, false_or, or_false]
theorem s_127 (d : Nat) (w : Nat × Bool) (I J : Nat → Nat → Int) (i : Nat) (x : Int) (hi : i < 6) (hd : 3 ≤ d) (h6 : I (46 + 2 * i) 2 ≤ 60) : semC d 127 [vr 3, vi (i : Int), vi x] (mk w I J) =
    some (some (vl (if I (46 + 2 * i) 0 = -1 ∨ I (46 + 2 * i) 0 = 5 ∨ ¬ (0 ≤ x ∧ x < I (46 + 2 * i) 2) then -9223372036854775808 else J (47 + 2 * i) x.toNat)), mk w I J) := by
  obtain ⟨e, rfl⟩ : ∃ e, d = e + 1 := ⟨d - 1, by omega⟩
  rw [e_127]
  by_cases c1 : I (46 + 2 * i) 0 = -1
  · simp (disch := omega) only [b_127_0, b_127_6, b_127_9, b_127_15, b_127_26, s_132 _ _ _ _ _ _ hi _, nat_i, semK, Option.bind_some, mpush, wr_if, wr_tdiv, if_pos, if_neg, ↓reduceIte, b2_t, b2_f, Bool.false_eq_true, up2_ne, up2_sne, up2_s, true_or, or_true, true_and, and_true, false_and, and_false, false_or, or_false]
  · by_cases c2 : I (46 + 2 * i) 0 = 5
    · simp (disch := omega) only [b_127_0, b_127_6, b_127_9, b_127_15, b_127_26, s_132 _ _ _ _ _ _ hi _, nat_i, semK, Option.bind_some, mpush, wr_if, wr_tdiv, if_pos, if_neg, ↓reduceIte, b2_t, b2_f, Bool.false_eq_true, up2_ne, up2_sne, up2_s, true_or, or_true, true_and, and_true, false_and, and_false, false_or, or_false]
    · by_cases c3 : 0 ≤ x ∧ x < I (46 + 2 * i) 2
      · simp (disch := omega) only [b_127_0, b_127_6, b_127_9, b_127_15, b_127_26, sh_R _ _ _ hi, sh_T _ _ _ hi, sh_C _ _ _ hi, sh_A _ _ _ hi, s_132 _ _ _ _ _ _ hi _, nat_i, semK, Option.bind_some, mpush, wr_if, wr_tdiv, if_pos, if_neg, ↓reduceIte, b2_t, b2_f, Bool.false_eq_true, up2_ne, up2_sne, up2_s, true_or, or_true, true_and, and_true, false_and, and_false, false_or, or_false]
      · simp (disch := omega) only [b_127_0, b_127_6, b_127_9, b_127_15, b_127_26, s_132 _ _ _ _ _ _ hi _, nat_i, semK, Option.bind_some, mpush, wr_if, wr_tdiv, if_pos, if_neg, ↓reduceIte, b2_t, b2_f, Bool.false_eq_true, up2_ne, up2_sne, up2_s, true_or, or_true, true_and, and_true, false_and, and_false, false_or, or_false]
theorem s_127n (d : Nat) (w : Nat × Bool) (I J : Nat → Nat → Int) (s x : Int) (hs : ¬ (0 ≤ s ∧ s < 6)) (hd : 3 ≤ d) : semC d 127 [vr 3, vi s, vi x] (mk w I J) = some (some (vl (-9223372036854775808)), mk w I J) := by
  obtain ⟨e, rfl⟩ : ∃ e, d = e + 1 := ⟨d - 1, by omega⟩
  rw [e_127]
  simp (disch := omega) only [b_127_0, b_127_6, b_127_9, b_127_15, b_127_26, s_132n _ _ _ _ _ _ hs _, semK, Option.bind_some, mpush, wr_if, wr_tdiv, if_pos, if_neg, ↓reduceIte, b2_t, b2_f, Bool.false_eq_true, up2_ne, up2_sne, up2_s, true_or, or_true, true_and, and_true, false_and, and_false, false_or, or_false]
theorem s_231 (d : Nat) (w : Nat × Bool) (I J : Nat → Nat → Int) (i : Nat) (x v : Int) (hi : i < 6) (hd : 4 ≤ d) (h9 : I 92 i < -1 → -6 ≤ I 92 i ∧ 0 ≤ I 93 i ∧ I 93 i ≤ 60) : semC d 231 [vr 58, vi (i : Int), vi x, vl v] (mk w I J) =
    if I 92 i = -1 then some (some (vi (-11)), mk w I J) else if 0 ≤ I 92 i then some (some (vi (-12)), mk w I J)
    else if 0 ≤ x ∧ x < I 93 i then some (some (vi 1), mk w I (up2 J 94 (60 * i + x.toNat) (cutQ (-2 - I 92 i) v))) else some (some (vi (-13)), mk w I J) := by
  obtain ⟨e, rfl⟩ : ∃ e, d = e + 1 := ⟨d - 1, by omega⟩
  rw [e_231]
  have h9' : I 92 i < -1 → 0 ≤ I 93 i ∧ I 93 i ≤ 60 := fun h => ⟨(h9 h).2.1, (h9 h).2.2⟩
  by_cases c1 : I 92 i = -1
  · simp (disch := omega) only [b_231_0, b_231_6, b_231_13, b_231_16, b_231_42, b_231_49, b_231_55, b_231_62, b_231_68, b_231_74, b_231_80, b_231_84, b_231_90, b_231_94, b_231_95, s_230 _ _ _ _ _ _ hi _ h9', nat_i, semK, Option.bind_some, mpush, wr_if, wr_tdiv, if_pos, if_neg, ↓reduceIte, b2_t, b2_f, Bool.false_eq_true, up2_ne, up2_sne, up2_s, true_or, or_true, true_and, and_true, false_and, and_false, false_or, or_false]
  · by_cases c2 : 0 ≤ I 92 i
    · simp (disch := omega) only [b_231_0, b_231_6, b_231_13, b_231_16, b_231_42, b_231_49, b_231_55, b_231_62, b_231_68, b_231_74, b_231_80, b_231_84, b_231_90, b_231_94, b_231_95, s_230 _ _ _ _ _ _ hi _ h9', nat_i, semK, Option.bind_some, mpush, wr_if, wr_tdiv, if_pos, if_neg, ↓reduceIte, b2_t, b2_f, Bool.false_eq_true, up2_ne, up2_sne, up2_s, true_or, or_true, true_and, and_true, false_and, and_false, false_or, or_false]
    · have h := h9 (by omega)
      by_cases c3 : 0 ≤ x ∧ x < I 93 i
      · have e1 : (60 * (i : Int) + x).toNat = 60 * i + x.toNat := by omega
        unfold cutQ
        by_cases k0 : -2 - I 92 i = 0
        · simp (disch := omega) only [b_231_0, b_231_6, b_231_13, b_231_16, b_231_42, b_231_49, b_231_55, b_231_62, b_231_68, b_231_74, b_231_80, b_231_84, b_231_90, b_231_94, b_231_95, s_230 _ _ _ _ _ _ hi _ h9', nat_i, e1, semK, Option.bind_some, mpush, wr_if, wr_tdiv, if_pos, if_neg, ↓reduceIte, b2_t, b2_f, Bool.false_eq_true, up2_ne, up2_sne, up2_s, true_or, or_true, true_and, and_true, false_and, and_false, false_or, or_false]
        · by_cases k1 : -2 - I 92 i = 1
          · simp (disch := omega) only [b_231_0, b_231_6, b_231_13, b_231_16, b_231_42, b_231_49, b_231_55, b_231_62, b_231_68, b_231_74, b_231_80, b_231_84, b_231_90, b_231_94, b_231_95, s_230 _ _ _ _ _ _ hi _ h9', nat_i, e1, semK, Option.bind_some, mpush, wr_if, wr_tdiv, if_pos, if_neg, ↓reduceIte, b2_t, b2_f, Bool.false_eq_true, up2_ne, up2_sne, up2_s, true_or, or_true, true_and, and_true, false_and, and_false, false_or, or_false]
          · by_cases k2 : -2 - I 92 i = 2
            · simp (disch := omega) only [b_231_0, b_231_6, b_231_13, b_231_16, b_231_42, b_231_49, b_231_55, b_231_62, b_231_68, b_231_74, b_231_80, b_231_84, b_231_90, b_231_94, b_231_95, s_230 _ _ _ _ _ _ hi _ h9', nat_i, e1, semK, Option.bind_some, mpush, wr_if, wr_tdiv, if_pos, if_neg, ↓reduceIte, b2_t, b2_f, Bool.false_eq_true, up2_ne, up2_sne, up2_s, true_or, or_true, true_and, and_true, false_and, and_false, false_or, or_false]
            · by_cases k3 : -2 - I 92 i = 3
              · simp (disch := omega) only [b_231_0, b_231_6, b_231_13, b_231_16, b_231_42, b_231_49, b_231_55, b_231_62, b_231_68, b_231_74, b_231_80, b_231_84, b_231_90, b_231_94, b_231_95, s_230 _ _ _ _ _ _ hi _ h9', nat_i, e1, semK, Option.bind_some, mpush, wr_if, wr_tdiv, if_pos, if_neg, ↓reduceIte, b2_t, b2_f, Bool.false_eq_true, up2_ne, up2_sne, up2_s, true_or, or_true, true_and, and_true, false_and, and_false, false_or, or_false]
              · by_cases k4 : v = 0
                · simp (disch := omega) only [b_231_0, b_231_6, b_231_13, b_231_16, b_231_42, b_231_49, b_231_55, b_231_62, b_231_68, b_231_74, b_231_80, b_231_84, b_231_90, b_231_94, b_231_95, s_230 _ _ _ _ _ _ hi _ h9', nat_i, e1, lc2, semK, Option.bind_some, mpush, wr_if, wr_tdiv, if_pos, if_neg, ↓reduceIte, b2_t, b2_f, Bool.false_eq_true, up2_ne, up2_sne, up2_s, true_or, or_true, true_and, and_true, false_and, and_false, false_or, or_false]
                · simp (disch := omega) only [b_231_0, b_231_6, b_231_13, b_231_16, b_231_42, b_231_49, b_231_55, b_231_62, b_231_68, b_231_74, b_231_80, b_231_84, b_231_90, b_231_94, b_231_95, s_230 _ _ _ _ _ _ hi _ h9', nat_i, e1, lc2, semK, Option.bind_some, mpush, wr_if, wr_tdiv, if_pos, if_neg, ↓reduceIte, b2_t, b2_f, Bool.false_eq_true, up2_ne, up2_sne, up2_s, true_or, or_true, true_and, and_true, false_and, and_false, false_or, or_false]
      · simp (disch := omega) only [b_231_0, b_231_6, b_231_13, b_231_16, b_231_42, b_231_49, b_231_55, b_231_62, b_231_68, b_231_74, b_231_80, b_231_84, b_231_90, b_231_94, b_231_95, s_230 _ _ _ _ _ _ hi _ h9', nat_i, semK, Option.bind_some, mpush, wr_if, wr_tdiv, if_pos, if_neg, ↓reduceIte, b2_t, b2_f, Bool.false_eq_true, up2_ne, up2_sne, up2_s, true_or, or_true, true_and, and_true, false_and, and_false, false_or, or_false]
theorem s_231n (d : Nat) (w : Nat × Bool) (I J : Nat → Nat → Int) (s x v : Int) (hs : ¬ (0 ≤ s ∧ s < 6)) (hd : 4 ≤ d) : semC d 231 [vr 58, vi s, vi x, vl v] (mk w I J) = some (some (vi (-1)), mk w I J) := by
  obtain ⟨e, rfl⟩ : ∃ e, d = e + 1 := ⟨d - 1, by omega⟩
  rw [e_231]
  simp (disch := omega) only [b_231_0, b_231_6, b_231_13, b_231_16, b_231_42, b_231_49, b_231_55, b_231_62, b_231_68, b_231_74, b_231_80, b_231_84, b_231_90, b_231_94, b_231_95, s_230n _ _ _ _ _ _ hs _, semK, Option.bind_some, mpush, wr_if, wr_tdiv, if_pos, if_neg, ↓reduceIte, b2_t, b2_f, Bool.false_eq_true, up2_ne, up2_sne, up2_s, true_or, or_true, true_and, and_true, false_and, and_false, false_or, or_false]
theorem s_232 (d : Nat) (w : Nat × Bool) (I J : Nat → Nat → Int) (i : Nat) (x : Int) (hi : i < 6) (hd : 4 ≤ d) (h9 : I 92 i < -1 → 0 ≤ I 93 i ∧ I 93 i ≤ 60) : semC d 232 [vr 58, vi (i : Int), vi x] (mk w I J) =
    some (some (vl (if I 92 i = -1 ∨ 0 ≤ I 92 i ∨ ¬ (0 ≤ x ∧ x < I 93 i) then -9223372036854775808 else J 94 (60 * i + x.toNat))), mk w I J) := by
  obtain ⟨e, rfl⟩ : ∃ e, d = e + 1 := ⟨d - 1, by omega⟩
  rw [e_232]
  by_cases c1 : I 92 i = -1
  · simp (disch := omega) only [b_232_0, b_232_6, b_232_9, b_232_15, b_232_26, s_230 _ _ _ _ _ _ hi _ h9, nat_i, semK, Option.bind_some, mpush, wr_if, wr_tdiv, if_pos, if_neg, ↓reduceIte, b2_t, b2_f, Bool.false_eq_true, up2_ne, up2_sne, up2_s, true_or, or_true, true_and, and_true, false_and, and_false, false_or, or_false]
  · by_cases c2 : 0 ≤ I 92 i
    · simp (disch := omega) only [b_232_0, b_232_6, b_232_9, b_232_15, b_232_26, s_230 _ _ _ _ _ _ hi _ h9, nat_i, semK, Option.bind_some, mpush, wr_if, wr_tdiv, if_pos, if_neg, ↓reduceIte, b2_t, b2_f, Bool.false_eq_true, up2_ne, up2_sne, up2_s, true_or, or_true, true_and, and_true, false_and, and_false, false_or, or_false]
    · have h := h9 (by omega)
      by_cases c3 : 0 ≤ x ∧ x < I 93 i
      · have e1 : (60 * (i : Int) + x).toNat = 60 * i + x.toNat := by omega
        simp (disch := omega) only [b_232_0, b_232_6, b_232_9, b_232_15, b_232_26, s_230 _ _ _ _ _ _ hi _ h9, nat_i, e1, semK, Option.bind_some, mpush, wr_if, wr_tdiv, if_pos, if_neg, ↓reduceIte, b2_t, b2_f, Bool.false_eq_true, up2_ne, up2_sne, up2_s, true_or, or_true, true_and, and_true, false_and, and_false, false_or, or_false]
      · simp (disch := omega) only [b_232_0, b_232_6, b_232_9, b_232_15, b_232_26, s_230 _ _ _ _ _ _ hi _ h9, nat_i, semK, Option.bind_some, mpush, wr_if, wr_tdiv, if_pos, if_neg, ↓reduceIte, b2_t, b2_f, Bool.false_eq_true, up2_ne, up2_sne, up2_s, true_or, or_true, true_and, and_true, false_and, and_false, false_or, or_false]
theorem s_232n (d : Nat) (w : Nat × Bool) (I J : Nat → Nat → Int) (s x : Int) (hs : ¬ (0 ≤ s ∧ s < 6)) (hd : 4 ≤ d) : semC d 232 [vr 58, vi s, vi x] (mk w I J) = some (some (vl (-9223372036854775808)), mk w I J) := by
  obtain ⟨e, rfl⟩ : ∃ e, d = e + 1 := ⟨d - 1, by omega⟩
  rw [e_232]
  simp (disch := omega) only [b_232_0, b_232_6, b_232_9, b_232_15, b_232_26, s_230n _ _ _ _ _ _ hs _, semK, Option.bind_some, mpush, wr_if, wr_tdiv, if_pos, if_neg, ↓reduceIte, b2_t, b2_f, Bool.false_eq_true, up2_ne, up2_sne, up2_s, true_or, or_true, true_and, and_true, false_and, and_false, false_or, or_false]
