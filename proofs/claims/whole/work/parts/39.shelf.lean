/-! shelves: shelf i is the cell 46 + 2 i, its row of longs the next -/
theorem six {i : Nat} (h : i < 6) : i = 0 ∨ i = 1 ∨ i = 2 ∨ i = 3 ∨ i = 4 ∨ i = 5 := by omega
theorem sh_R (w : Nat × Bool) (I J : Nat → Nat → Int) {i : Nat} (h : i < 6) : gR (mk w I J) 45 i = some (46 + 2 * i) := by
  rcases six h with rfl | rfl | rfl | rfl | rfl | rfl <;> rfl
theorem sh_T (w : Nat × Bool) (I J : Nat → Nat → Int) {i : Nat} (h : i < 6) : mtg (mk w I J) (46 + 2 * i) = (7, 4) := by
  rcases six h with rfl | rfl | rfl | rfl | rfl | rfl <;> rfl
theorem sh_C (w : Nat × Bool) (I J : Nat → Nat → Int) {i : Nat} (h : i < 6) : gR (mk w I J) (46 + 2 * i) 3 = some (47 + 2 * i) := by
  rcases six h with rfl | rfl | rfl | rfl | rfl | rfl <;> rfl
theorem sh_A (w : Nat × Bool) (I J : Nat → Nat → Int) {i : Nat} (h : i < 6) : mtg (mk w I J) (47 + 2 * i) = (23, 60) := by
  rcases six h with rfl | rfl | rfl | rfl | rfl | rfl <;> rfl
theorem lc1 (a b : Int) : (lcmpI a b < 0) = (a < b) := by
  apply propext; unfold lcmpI; repeat' split
  all_goals omega
theorem lc2 (a b : Int) : (lcmpI a b = 0) = (a = b) := by
  apply propext; unfold lcmpI; repeat' split
  all_goals omega
theorem lc3 (a b : Int) : (0 < lcmpI a b) = (b < a) := by
  apply propext; unfold lcmpI; repeat' split
  all_goals omega
theorem wl_if {a : Int} (h : -9223372036854775808 ≤ a ∧ a < 9223372036854775808) : wl a = a := wl_of h
theorem s_60 (d : Nat) (w : Nat × Bool) (I J : Nat → Nat → Int) (i : Nat) (hi : i < 6) (hd : 1 ≤ d) : semC d 60 [vr (46 + 2 * i)] (mk w I J) = some (some (vi (if I (46 + 2 * i) 0 = -1 then 1 else 0)), mk w I J) := by
  obtain ⟨e, rfl⟩ : ∃ e, d = e + 1 := ⟨d - 1, by omega⟩
  rw [e_60]
  by_cases c : I (46 + 2 * i) 0 = -1
  · simp (disch := omega) only [b_60_0, b_60_8, b_60_12, b_60_13, sh_T _ _ _ hi, semK, Option.bind_some, mpush, wr_if, wr_tdiv, if_pos, if_neg, ↓reduceIte, b2_t, b2_f, Bool.false_eq_true, up2_ne, up2_sne, up2_s, true_or, or_true, true_and, and_true, false_and, and_false, false_or, or_false]
  · simp (disch := omega) only [b_60_0, b_60_8, b_60_12, b_60_13, sh_T _ _ _ hi, semK, Option.bind_some, mpush, wr_if, wr_tdiv, if_pos, if_neg, ↓reduceIte, b2_t, b2_f, Bool.false_eq_true, up2_ne, up2_sne, up2_s, true_or, or_true, true_and, and_true, false_and, and_false, false_or, or_false]
theorem s_61 (d : Nat) (w : Nat × Bool) (I J : Nat → Nat → Int) (i : Nat) (hi : i < 6) (hd : 1 ≤ d) : semC d 61 [vr (46 + 2 * i)] (mk w I J) = some (some (vi (if I (46 + 2 * i) 0 ≠ -1 ∧ I (46 + 2 * i) 0 ≠ 5 then 1 else 0)), mk w I J) := by
  obtain ⟨e, rfl⟩ : ∃ e, d = e + 1 := ⟨d - 1, by omega⟩
  rw [e_61]
  by_cases c : I (46 + 2 * i) 0 = -1
  · simp (disch := omega) only [b_61_0, b_61_8, b_61_16, b_61_20, b_61_21, sh_T _ _ _ hi, semK, Option.bind_some, mpush, wr_if, wr_tdiv, if_pos, if_neg, ↓reduceIte, b2_t, b2_f, Bool.false_eq_true, up2_ne, up2_sne, up2_s, true_or, or_true, true_and, and_true, false_and, and_false, false_or, or_false]
  · by_cases c2 : I (46 + 2 * i) 0 = 5
    · simp (disch := omega) only [b_61_0, b_61_8, b_61_16, b_61_20, b_61_21, sh_T _ _ _ hi, semK, Option.bind_some, mpush, wr_if, wr_tdiv, if_pos, if_neg, ↓reduceIte, b2_t, b2_f, Bool.false_eq_true, up2_ne, up2_sne, up2_s, true_or, or_true, true_and, and_true, false_and, and_false, false_or, or_false]
    · simp (disch := omega) only [b_61_0, b_61_8, b_61_16, b_61_20, b_61_21, sh_T _ _ _ hi, semK, Option.bind_some, mpush, wr_if, wr_tdiv, if_pos, if_neg, ↓reduceIte, b2_t, b2_f, Bool.false_eq_true, up2_ne, up2_sne, up2_s, true_or, or_true, true_and, and_true, false_and, and_false, false_or, or_false]
theorem s_62 (d : Nat) (w : Nat × Bool) (I J : Nat → Nat → Int) (i : Nat) (x : Int) (hi : i < 6) (hd : 1 ≤ d) : semC d 62 [vr (46 + 2 * i), vl x] (mk w I J) = some (some (vi (if 0 ≤ x ∧ x < I (46 + 2 * i) 2 then 1 else 0)), mk w I J) := by
  obtain ⟨e, rfl⟩ : ∃ e, d = e + 1 := ⟨d - 1, by omega⟩
  rw [e_62]
  by_cases c : x < 0
  · simp (disch := omega) only [b_62_0, b_62_6, b_62_16, b_62_20, b_62_21, sh_T _ _ _ hi, lc1, semK, Option.bind_some, mpush, wr_if, wr_tdiv, if_pos, if_neg, ↓reduceIte, b2_t, b2_f, Bool.false_eq_true, up2_ne, up2_sne, up2_s, true_or, or_true, true_and, and_true, false_and, and_false, false_or, or_false]
  · by_cases c2 : x < I (46 + 2 * i) 2
    · simp (disch := omega) only [b_62_0, b_62_6, b_62_16, b_62_20, b_62_21, sh_T _ _ _ hi, lc1, semK, Option.bind_some, mpush, wr_if, wr_tdiv, if_pos, if_neg, ↓reduceIte, b2_t, b2_f, Bool.false_eq_true, up2_ne, up2_sne, up2_s, true_or, or_true, true_and, and_true, false_and, and_false, false_or, or_false]
    · simp (disch := omega) only [b_62_0, b_62_6, b_62_16, b_62_20, b_62_21, sh_T _ _ _ hi, lc1, semK, Option.bind_some, mpush, wr_if, wr_tdiv, if_pos, if_neg, ↓reduceIte, b2_t, b2_f, Bool.false_eq_true, up2_ne, up2_sne, up2_s, true_or, or_true, true_and, and_true, false_and, and_false, false_or, or_false]
theorem s_63 (d : Nat) (w : Nat × Bool) (I J : Nat → Nat → Int) (i : Nat) (x n : Int) (hx : iR x) (hn : iR n) (hi : i < 6) (hd : 1 ≤ d) : semC d 63 [vr (46 + 2 * i), vi x, vi n] (mk w I J) = some (some (vi (if 0 ≤ x ∧ 0 ≤ n ∧ x + n ≤ I (46 + 2 * i) 2 then 1 else 0)), mk w I J) := by
  obtain ⟨e, rfl⟩ : ∃ e, d = e + 1 := ⟨d - 1, by omega⟩
  rw [e_63]
  obtain ⟨v1, v2⟩ := id hx
  obtain ⟨v3, v4⟩ := id hn
  by_cases c : x < 0
  · simp (disch := omega) only [b_63_0, b_63_4, b_63_8, b_63_22, b_63_26, b_63_27, semK, Option.bind_some, mpush, wr_if, wr_tdiv, if_pos, if_neg, ↓reduceIte, b2_t, b2_f, Bool.false_eq_true, up2_ne, up2_sne, up2_s, true_or, or_true, true_and, and_true, false_and, and_false, false_or, or_false]
  · by_cases c1 : n < 0
    · simp (disch := omega) only [b_63_0, b_63_4, b_63_8, b_63_22, b_63_26, b_63_27, semK, Option.bind_some, mpush, wr_if, wr_tdiv, if_pos, if_neg, ↓reduceIte, b2_t, b2_f, Bool.false_eq_true, up2_ne, up2_sne, up2_s, true_or, or_true, true_and, and_true, false_and, and_false, false_or, or_false]
    · by_cases c2 : x + n ≤ I (46 + 2 * i) 2
      · simp (disch := omega) only [b_63_0, b_63_4, b_63_8, b_63_22, b_63_26, b_63_27, sh_T _ _ _ hi, lc3, wl_if, semK, Option.bind_some, mpush, wr_if, wr_tdiv, if_pos, if_neg, ↓reduceIte, b2_t, b2_f, Bool.false_eq_true, up2_ne, up2_sne, up2_s, true_or, or_true, true_and, and_true, false_and, and_false, false_or, or_false]
      · simp (disch := omega) only [b_63_0, b_63_4, b_63_8, b_63_22, b_63_26, b_63_27, sh_T _ _ _ hi, lc3, wl_if, semK, Option.bind_some, mpush, wr_if, wr_tdiv, if_pos, if_neg, ↓reduceIte, b2_t, b2_f, Bool.false_eq_true, up2_ne, up2_sne, up2_s, true_or, or_true, true_and, and_true, false_and, and_false, false_or, or_false]
theorem s_64 (d : Nat) (w : Nat × Bool) (I J : Nat → Nat → Int) (i : Nat) (hi : i < 6) (hd : 1 ≤ d) : semC d 64 [vr (46 + 2 * i)] (mk w I J) = some (none, mk w (up2 (up2 I (46 + 2 * i) 0 (-1)) (46 + 2 * i) 2 0) J) := by
  obtain ⟨e, rfl⟩ : ∃ e, d = e + 1 := ⟨d - 1, by omega⟩
  rw [e_64]
  simp (disch := omega) only [b_64_0, sh_T _ _ _ hi, semK, Option.bind_some, mpush, wr_if, wr_tdiv, if_pos, if_neg, ↓reduceIte, b2_t, b2_f, Bool.false_eq_true, up2_ne, up2_sne, up2_s, true_or, or_true, true_and, and_true, false_and, and_false, false_or, or_false]
theorem s_65 (d : Nat) (w : Nat × Bool) (I J : Nat → Nat → Int) (i : Nat) (x : Int) (hi : i < 6) (hd : 1 ≤ d) : semC d 65 [vr (46 + 2 * i), vi x] (mk w I J) = some (none, mk w (up2 (up2 (up2 I (46 + 2 * i) 0 5) (46 + 2 * i) 1 x) (46 + 2 * i) 2 0) J) := by
  obtain ⟨e, rfl⟩ : ∃ e, d = e + 1 := ⟨d - 1, by omega⟩
  rw [e_65]
  simp (disch := omega) only [b_65_0, sh_T _ _ _ hi, semK, Option.bind_some, mpush, wr_if, wr_tdiv, if_pos, if_neg, ↓reduceIte, b2_t, b2_f, Bool.false_eq_true, up2_ne, up2_sne, up2_s, true_or, or_true, true_and, and_true, false_and, and_false, false_or, or_false]
/-- what a value becomes in a row of a sort -/
def cutQ (k x : Int) : Int := if k = 0 then i2b (wr x) else if k = 1 then i2s (wr x) else if k = 2 then wr x else if k = 3 then x else if x = 0 then 0 else 1
theorem s_68 (d : Nat) (w : Nat × Bool) (I J : Nat → Nat → Int) (i : Nat) (x : Int) (hi : i < 6) (hd : 1 ≤ d) : semC d 68 [vr (46 + 2 * i), vl x] (mk w I J) = some (some (vl (cutQ (I (46 + 2 * i) 0) x)), mk w I J) := by
  obtain ⟨e, rfl⟩ : ∃ e, d = e + 1 := ⟨d - 1, by omega⟩
  rw [e_68]
  unfold cutQ
  by_cases c0 : I (46 + 2 * i) 0 = 0
  · simp (disch := omega) only [b_68_0, b_68_36, b_68_41, b_68_46, b_68_50, b_68_52, b_68_58, b_68_62, b_68_63, sh_T _ _ _ hi, semK, Option.bind_some, mpush, wr_if, wr_tdiv, if_pos, if_neg, ↓reduceIte, b2_t, b2_f, Bool.false_eq_true, up2_ne, up2_sne, up2_s, true_or, or_true, true_and, and_true, false_and, and_false, false_or, or_false]
  · by_cases c1 : I (46 + 2 * i) 0 = 1
    · simp (disch := omega) only [b_68_0, b_68_36, b_68_41, b_68_46, b_68_50, b_68_52, b_68_58, b_68_62, b_68_63, sh_T _ _ _ hi, semK, Option.bind_some, mpush, wr_if, wr_tdiv, if_pos, if_neg, ↓reduceIte, b2_t, b2_f, Bool.false_eq_true, up2_ne, up2_sne, up2_s, true_or, or_true, true_and, and_true, false_and, and_false, false_or, or_false]
    · by_cases c2 : I (46 + 2 * i) 0 = 2
      · simp (disch := omega) only [b_68_0, b_68_36, b_68_41, b_68_46, b_68_50, b_68_52, b_68_58, b_68_62, b_68_63, sh_T _ _ _ hi, semK, Option.bind_some, mpush, wr_if, wr_tdiv, if_pos, if_neg, ↓reduceIte, b2_t, b2_f, Bool.false_eq_true, up2_ne, up2_sne, up2_s, true_or, or_true, true_and, and_true, false_and, and_false, false_or, or_false]
      · by_cases c3 : I (46 + 2 * i) 0 = 3
        · simp (disch := omega) only [b_68_0, b_68_36, b_68_41, b_68_46, b_68_50, b_68_52, b_68_58, b_68_62, b_68_63, sh_T _ _ _ hi, semK, Option.bind_some, mpush, wr_if, wr_tdiv, if_pos, if_neg, ↓reduceIte, b2_t, b2_f, Bool.false_eq_true, up2_ne, up2_sne, up2_s, true_or, or_true, true_and, and_true, false_and, and_false, false_or, or_false]
        · by_cases c4 : x = 0
          · simp (disch := omega) only [b_68_0, b_68_36, b_68_41, b_68_46, b_68_50, b_68_52, b_68_58, b_68_62, b_68_63, sh_T _ _ _ hi, lc2, semK, Option.bind_some, mpush, wr_if, wr_tdiv, if_pos, if_neg, ↓reduceIte, b2_t, b2_f, Bool.false_eq_true, up2_ne, up2_sne, up2_s, true_or, or_true, true_and, and_true, false_and, and_false, false_or, or_false]
          · simp (disch := omega) only [b_68_0, b_68_36, b_68_41, b_68_46, b_68_50, b_68_52, b_68_58, b_68_62, b_68_63, sh_T _ _ _ hi, lc2, semK, Option.bind_some, mpush, wr_if, wr_tdiv, if_pos, if_neg, ↓reduceIte, b2_t, b2_f, Bool.false_eq_true, up2_ne, up2_sne, up2_s, true_or, or_true, true_and, and_true, false_and, and_false, false_or, or_false]
theorem s_67 (d : Nat) (w : Nat × Bool) (I J : Nat → Nat → Int) (i : Nat) (k x : Int) (hi : i < 6) (hk : 0 ≤ k ∧ k < 60) (hd : 2 ≤ d) : semC d 67 [vr (46 + 2 * i), vi k, vl x] (mk w I J) = some (none, mk w I (up2 J (47 + 2 * i) k.toNat (cutQ (I (46 + 2 * i) 0) x))) := by
  obtain ⟨e, rfl⟩ : ∃ e, d = e + 1 := ⟨d - 1, by omega⟩
  rw [e_67]
  simp (disch := omega) only [b_67_0, b_67_10, sh_T _ _ _ hi, sh_C _ _ _ hi, sh_A _ _ _ hi, s_68 _ _ _ _ _ _ hi, semK, Option.bind_some, mpush, wr_if, wr_tdiv, if_pos, if_neg, ↓reduceIte, b2_t, b2_f, Bool.false_eq_true, up2_ne, up2_sne, up2_s, true_or, or_true, true_and, and_true, false_and, and_false, false_or, or_false]
