/-- kinds: those above -/
def abv (k : Nat) : Int := if k = 0 then -1 else if k = 1 then 0 else if k = 2 then 0 else if k = 3 then 2 else if k = 4 then 1 else if k = 5 then 4 else if k = 6 then 0 else if k = 7 then 6 else 0
def undr (k a : Int) : Bool := decide (a = 0 ∨ k = a ∨ (a = 1 ∧ (k = 4 ∨ k = 5)) ∨ (a = 2 ∧ k = 3) ∨ (a = 4 ∧ k = 5) ∨ (a = 6 ∧ k = 7))
theorem eight {k : Int} (h : 0 ≤ k ∧ k ≤ 7) : k = 0 ∨ k = 1 ∨ k = 2 ∨ k = 3 ∨ k = 4 ∨ k = 5 ∨ k = 6 ∨ k = 7 := by omega
theorem s_213 (d : Nat) (w : Nat × Bool) (I J : Nat → Nat → Int) (k a : Int) (hd : 1 ≤ d) : semC d 213 [vi k, vi a] (mk w I J) = some (some (vi (b2 (undr k a))), mk w I J) := by
  obtain ⟨e, rfl⟩ : ∃ e, d = e + 1 := ⟨d - 1, by omega⟩
  rw [e_213]
  unfold undr
  by_cases c0 : a = 0
  · rw [decide_eq_true (Or.inl c0)]
    simp (disch := omega) only [b_213_0, b_213_4, b_213_9, b_213_14, b_213_19, b_213_24, b_213_29, b_213_34, b_213_39, b_213_44, b_213_50, b_213_56, b_213_60, b_213_61, semK, Option.bind_some, mpush, wr_if, wr_tdiv, if_pos, if_neg, ↓reduceIte, b2_t, b2_f, Bool.false_eq_true, up2_ne, up2_sne, up2_s, true_or, or_true, true_and, and_true, false_and, and_false, false_or, or_false]
  · by_cases c1 : k = a
    · rw [decide_eq_true (Or.inr (Or.inl c1))]
      simp (disch := omega) only [b_213_0, b_213_4, b_213_9, b_213_14, b_213_19, b_213_24, b_213_29, b_213_34, b_213_39, b_213_44, b_213_50, b_213_56, b_213_60, b_213_61, semK, Option.bind_some, mpush, wr_if, wr_tdiv, if_pos, if_neg, ↓reduceIte, b2_t, b2_f, Bool.false_eq_true, up2_ne, up2_sne, up2_s, true_or, or_true, true_and, and_true, false_and, and_false, false_or, or_false]
    · have e1 : (a = 0 ∨ k = a ∨ (a = 1 ∧ (k = 4 ∨ k = 5)) ∨ (a = 2 ∧ k = 3) ∨ (a = 4 ∧ k = 5) ∨ (a = 6 ∧ k = 7)) ↔ ((a = 1 ∧ (k = 4 ∨ k = 5)) ∨ (a = 2 ∧ k = 3) ∨ (a = 4 ∧ k = 5) ∨ (a = 6 ∧ k = 7)) := by omega
      by_cases c2 : (a = 1 ∧ (k = 4 ∨ k = 5)) ∨ (a = 2 ∧ k = 3) ∨ (a = 4 ∧ k = 5) ∨ (a = 6 ∧ k = 7)
      · rw [decide_eq_true (e1.mpr c2)]
        rcases c2 with ⟨a1, a2 | a2⟩ | ⟨a1, a2⟩ | ⟨a1, a2⟩ | ⟨a1, a2⟩ <;> subst a1 <;> subst a2 <;> simp (disch := omega) only [b_213_0, b_213_4, b_213_9, b_213_14, b_213_19, b_213_24, b_213_29, b_213_34, b_213_39, b_213_44, b_213_50, b_213_56, b_213_60, b_213_61, semK, Option.bind_some, mpush, wr_if, wr_tdiv, if_pos, if_neg, ↓reduceIte, b2_t, b2_f, Bool.false_eq_true, up2_ne, up2_sne, up2_s, true_or, or_true, true_and, and_true, false_and, and_false, false_or, or_false]
      · rw [decide_eq_false (fun h => c2 (e1.mp h))]
        simp only [b_213_0, b_213_4, b_213_9, b_213_14, b_213_19, b_213_24, b_213_29, b_213_34, b_213_39, b_213_44, b_213_50, b_213_56, b_213_60, b_213_61, if_neg c0, if_neg c1, semK, Option.bind_some, mpush, wr_if, wr_tdiv, if_pos, if_neg, ↓reduceIte, b2_t, b2_f, Bool.false_eq_true, up2_ne, up2_sne, up2_s, true_or, or_true, true_and, and_true, false_and, and_false, false_or, or_false]
        repeat' split
        all_goals first | rfl | (exfalso; omega) | (simp_all; done)
theorem s_3 (d : Nat) (w : Nat × Bool) (I J : Nat → Nat → Int) (k a : Int) (hk : 0 ≤ k ∧ k ≤ 7) (ha : 0 ≤ a ∧ a ≤ 7) (h2 : I 2 = abv) (hd : 1 ≤ d) : semC d 3 [vi k, vi a] (mk w I J) = some (some (vi (b2 (undr k a))), mk w I J) := by
  obtain ⟨e, rfl⟩ : ∃ e, d = e + 1 := ⟨d - 1, by omega⟩
  rw [e_3]
  rcases eight hk with rfl | rfl | rfl | rfl | rfl | rfl | rfl | rfl <;> rcases eight ha with rfl | rfl | rfl | rfl | rfl | rfl | rfl | rfl
  all_goals (simp only [b_3_0]; iterate 6 (try (rw [b_3_4]; simp (disch := omega) only [b_3_10, b_3_14, b_3_19, b_3_21, b_3_33, h2, abv, semK, Option.bind_some, mpush, wr_if, wr_tdiv, if_pos, if_neg, ↓reduceIte, b2_t, b2_f, Bool.false_eq_true, up2_ne, up2_sne, up2_s, true_or, or_true, true_and, and_true, false_and, and_false, false_or, or_false])))
  all_goals rfl
theorem s_129 (d : Nat) (w : Nat × Bool) (I J : Nat → Nat → Int) (i : Nat) (a : Int) (hi : i < 6) (hd : 2 ≤ d) (h2 : I 2 = abv) (hk : ∀ k, 0 ≤ I 43 k ∧ I 43 k ≤ 7) (hb : 0 ≤ I 42 1 ∧ I 42 1 ≤ 50) : semC d 129 [vr 3, vi (i : Int), vi a] (mk w I J) =
    some (some (vi (if 0 ≤ a ∧ a ≤ 7 then (if I (46 + 2 * i) 0 = -1 then -11 else if I (46 + 2 * i) 0 = 5 ∧ (0 ≤ I (46 + 2 * i) 1 ∧ I (46 + 2 * i) 1 < I 42 1) ∧ undr (I 43 (I (46 + 2 * i) 1).toNat) a = true then I 43 (I (46 + 2 * i) 1).toNat else -12) else -1)), mk w I J) := by
  obtain ⟨e, rfl⟩ : ∃ e, d = e + 1 := ⟨d - 1, by omega⟩
  rw [e_129]
  by_cases c1 : 0 ≤ a ∧ a ≤ 7
  · by_cases c2 : I (46 + 2 * i) 0 = -1
    · simp (disch := omega) only [b_129_0, b_129_5, b_129_8, b_129_15, b_129_18, b_129_20, b_129_31, b_129_34, b_129_37, b_129_41, b_129_44, b_129_55, b_129_58, b_129_61, b_129_81, b_129_84, b_129_89, b_129_91, sh_R _ _ _ hi, sh_T _ _ _ hi, s_131 _ _ _ _ _ _, s_133 _ _ _ _ _ _ _ _, s_60 _ _ _ _ _ hi _, nat_i, semK, Option.bind_some, mpush, wr_if, wr_tdiv, if_pos, if_neg, ↓reduceIte, b2_t, b2_f, Bool.false_eq_true, up2_ne, up2_sne, up2_s, true_or, or_true, true_and, and_true, false_and, and_false, false_or, or_false]
    · by_cases c3 : I (46 + 2 * i) 0 = 5
      · by_cases c4 : 0 ≤ I (46 + 2 * i) 1 ∧ I (46 + 2 * i) 1 < I 42 1
        · cases c5 : undr (I 43 (I (46 + 2 * i) 1).toNat) a
          · simp (disch := omega) only [b_129_0, b_129_5, b_129_8, b_129_15, b_129_18, b_129_20, b_129_31, b_129_34, b_129_37, b_129_41, b_129_44, b_129_55, b_129_58, b_129_61, b_129_81, b_129_84, b_129_89, b_129_91, sh_R _ _ _ hi, sh_T _ _ _ hi, s_131 _ _ _ _ _ _, s_133 _ _ _ _ _ _ _ _, s_60 _ _ _ _ _ hi _, s_61 _ _ _ _ _ hi _, s_1 _ _ _ _ _ _, s_3 _ _ _ _ _ _ (hk _) c1 h2 _, c5, nat_i, semK, Option.bind_some, mpush, wr_if, wr_tdiv, if_pos, if_neg, ↓reduceIte, b2_t, b2_f, Bool.false_eq_true, up2_ne, up2_sne, up2_s, true_or, or_true, true_and, and_true, false_and, and_false, false_or, or_false]
          · simp (disch := omega) only [b_129_0, b_129_5, b_129_8, b_129_15, b_129_18, b_129_20, b_129_31, b_129_34, b_129_37, b_129_41, b_129_44, b_129_55, b_129_58, b_129_61, b_129_81, b_129_84, b_129_89, b_129_91, sh_R _ _ _ hi, sh_T _ _ _ hi, s_131 _ _ _ _ _ _, s_133 _ _ _ _ _ _ _ _, s_60 _ _ _ _ _ hi _, s_61 _ _ _ _ _ hi _, s_1 _ _ _ _ _ _, s_3 _ _ _ _ _ _ (hk _) c1 h2 _, c5, nat_i, semK, Option.bind_some, mpush, wr_if, wr_tdiv, if_pos, if_neg, ↓reduceIte, b2_t, b2_f, Bool.false_eq_true, up2_ne, up2_sne, up2_s, true_or, or_true, true_and, and_true, false_and, and_false, false_or, or_false]
        · simp (disch := omega) only [b_129_0, b_129_5, b_129_8, b_129_15, b_129_18, b_129_20, b_129_31, b_129_34, b_129_37, b_129_41, b_129_44, b_129_55, b_129_58, b_129_61, b_129_81, b_129_84, b_129_89, b_129_91, sh_R _ _ _ hi, sh_T _ _ _ hi, s_131 _ _ _ _ _ _, s_133 _ _ _ _ _ _ _ _, s_60 _ _ _ _ _ hi _, s_61 _ _ _ _ _ hi _, s_1 _ _ _ _ _ _, nat_i, semK, Option.bind_some, mpush, wr_if, wr_tdiv, if_pos, if_neg, ↓reduceIte, b2_t, b2_f, Bool.false_eq_true, up2_ne, up2_sne, up2_s, true_or, or_true, true_and, and_true, false_and, and_false, false_or, or_false]
      · simp (disch := omega) only [b_129_0, b_129_5, b_129_8, b_129_15, b_129_18, b_129_20, b_129_31, b_129_34, b_129_37, b_129_41, b_129_44, b_129_55, b_129_58, b_129_61, b_129_81, b_129_84, b_129_89, b_129_91, sh_R _ _ _ hi, sh_T _ _ _ hi, s_131 _ _ _ _ _ _, s_133 _ _ _ _ _ _ _ _, s_60 _ _ _ _ _ hi _, s_61 _ _ _ _ _ hi _, nat_i, semK, Option.bind_some, mpush, wr_if, wr_tdiv, if_pos, if_neg, ↓reduceIte, b2_t, b2_f, Bool.false_eq_true, up2_ne, up2_sne, up2_s, true_or, or_true, true_and, and_true, false_and, and_false, false_or, or_false]
  · simp (disch := omega) only [b_129_0, b_129_5, b_129_8, b_129_15, b_129_18, b_129_20, b_129_31, b_129_34, b_129_37, b_129_41, b_129_44, b_129_55, b_129_58, b_129_61, b_129_81, b_129_84, b_129_89, b_129_91, s_131 _ _ _ _ _ _, s_133 _ _ _ _ _ _ _ _, semK, Option.bind_some, mpush, wr_if, wr_tdiv, if_pos, if_neg, ↓reduceIte, b2_t, b2_f, Bool.false_eq_true, up2_ne, up2_sne, up2_s, true_or, or_true, true_and, and_true, false_and, and_false, false_or, or_false]
theorem s_129n (d : Nat) (w : Nat × Bool) (I J : Nat → Nat → Int) (s a : Int) (hs : ¬ (0 ≤ s ∧ s < 6)) (hd : 2 ≤ d) : semC d 129 [vr 3, vi s, vi a] (mk w I J) = some (some (vi (-1)), mk w I J) := by
  obtain ⟨e, rfl⟩ : ∃ e, d = e + 1 := ⟨d - 1, by omega⟩
  rw [e_129]
  simp (disch := omega) only [b_129_0, b_129_5, b_129_8, b_129_15, b_129_18, b_129_20, b_129_31, b_129_34, b_129_37, b_129_41, b_129_44, b_129_55, b_129_58, b_129_61, b_129_81, b_129_84, b_129_89, b_129_91, s_131 _ _ _ _ _ _, semK, Option.bind_some, mpush, wr_if, wr_tdiv, if_pos, if_neg, ↓reduceIte, b2_t, b2_f, Bool.false_eq_true, up2_ne, up2_sne, up2_s, true_or, or_true, true_and, and_true, false_and, and_false, false_or, or_false]
theorem s_234 (d : Nat) (w : Nat × Bool) (I J : Nat → Nat → Int) (i : Nat) (a : Int) (hi : i < 6) (hd : 3 ≤ d) (hb : I 92 i < 50) : semC d 234 [vr 58, vi (i : Int), vi a] (mk w I J) =
    some (some (vi (if 0 ≤ a ∧ a ≤ 7 then (if I 92 i = -1 then -11 else if 0 ≤ I 92 i ∧ undr (I 90 (I 92 i).toNat) a = true then I 90 (I 92 i).toNat else -12) else -1)), mk w I J) := by
  obtain ⟨e, rfl⟩ : ∃ e, d = e + 1 := ⟨d - 1, by omega⟩
  rw [e_234]
  by_cases c1 : 0 ≤ a ∧ a ≤ 7
  · by_cases c2 : I 92 i = -1
    · simp (disch := omega) only [b_234_0, b_234_4, b_234_7, b_234_14, b_234_17, b_234_19, b_234_29, b_234_32, b_234_41, b_234_56, b_234_59, b_234_73, b_234_75, s_227 _ _ _ _ _ _, s_135 _ _ _ _ _ _ _ _, nat_i, semK, Option.bind_some, mpush, wr_if, wr_tdiv, if_pos, if_neg, ↓reduceIte, b2_t, b2_f, Bool.false_eq_true, up2_ne, up2_sne, up2_s, true_or, or_true, true_and, and_true, false_and, and_false, false_or, or_false]
    · by_cases c3 : 0 ≤ I 92 i
      · cases c5 : undr (I 90 (I 92 i).toNat) a
        · simp (disch := omega) only [b_234_0, b_234_4, b_234_7, b_234_14, b_234_17, b_234_19, b_234_29, b_234_32, b_234_41, b_234_56, b_234_59, b_234_73, b_234_75, s_227 _ _ _ _ _ _, s_135 _ _ _ _ _ _ _ _, s_213 _ _ _ _ _ _, c5, nat_i, semK, Option.bind_some, mpush, wr_if, wr_tdiv, if_pos, if_neg, ↓reduceIte, b2_t, b2_f, Bool.false_eq_true, up2_ne, up2_sne, up2_s, true_or, or_true, true_and, and_true, false_and, and_false, false_or, or_false]
        · simp (disch := omega) only [b_234_0, b_234_4, b_234_7, b_234_14, b_234_17, b_234_19, b_234_29, b_234_32, b_234_41, b_234_56, b_234_59, b_234_73, b_234_75, s_227 _ _ _ _ _ _, s_135 _ _ _ _ _ _ _ _, s_213 _ _ _ _ _ _, c5, nat_i, semK, Option.bind_some, mpush, wr_if, wr_tdiv, if_pos, if_neg, ↓reduceIte, b2_t, b2_f, Bool.false_eq_true, up2_ne, up2_sne, up2_s, true_or, or_true, true_and, and_true, false_and, and_false, false_or, or_false]
      · simp (disch := omega) only [b_234_0, b_234_4, b_234_7, b_234_14, b_234_17, b_234_19, b_234_29, b_234_32, b_234_41, b_234_56, b_234_59, b_234_73, b_234_75, s_227 _ _ _ _ _ _, s_135 _ _ _ _ _ _ _ _, nat_i, semK, Option.bind_some, mpush, wr_if, wr_tdiv, if_pos, if_neg, ↓reduceIte, b2_t, b2_f, Bool.false_eq_true, up2_ne, up2_sne, up2_s, true_or, or_true, true_and, and_true, false_and, and_false, false_or, or_false]
  · simp (disch := omega) only [b_234_0, b_234_4, b_234_7, b_234_14, b_234_17, b_234_19, b_234_29, b_234_32, b_234_41, b_234_56, b_234_59, b_234_73, b_234_75, s_227 _ _ _ _ _ _, s_135 _ _ _ _ _ _ _ _, semK, Option.bind_some, mpush, wr_if, wr_tdiv, if_pos, if_neg, ↓reduceIte, b2_t, b2_f, Bool.false_eq_true, up2_ne, up2_sne, up2_s, true_or, or_true, true_and, and_true, false_and, and_false, false_or, or_false]
theorem s_234n (d : Nat) (w : Nat × Bool) (I J : Nat → Nat → Int) (s a : Int) (hs : ¬ (0 ≤ s ∧ s < 6)) (hd : 3 ≤ d) : semC d 234 [vr 58, vi s, vi a] (mk w I J) = some (some (vi (-1)), mk w I J) := by
  obtain ⟨e, rfl⟩ : ∃ e, d = e + 1 := ⟨d - 1, by omega⟩
  rw [e_234]
  simp (disch := omega) only [b_234_0, b_234_4, b_234_7, b_234_14, b_234_17, b_234_19, b_234_29, b_234_32, b_234_41, b_234_56, b_234_59, b_234_73, b_234_75, s_227 _ _ _ _ _ _, semK, Option.bind_some, mpush, wr_if, wr_tdiv, if_pos, if_neg, ↓reduceIte, b2_t, b2_f, Bool.false_eq_true, up2_ne, up2_sne, up2_s, true_or, or_true, true_and, and_true, false_and, and_false, false_or, or_false]
/-- shift -/
theorem cp_m (w : Nat × Bool) (I J : Nat → Nat → Int) (b a : Nat) (x y n : Int) (q : Nat) (hq : q = 23) : (match q with
    | 20 => some (some (vi n), mk w (cpy I a b x.toNat y.toNat n.toNat) J)
    | 23 => some (some (vi n), mk w I (cpy J a b x.toNat y.toNat n.toNat))
    | _ => none) = some (some (vi n), mk w I (cpy J a b x.toNat y.toNat n.toNat)) := by subst hq; rfl
theorem s_128 (d : Nat) (w : Nat × Bool) (I J : Nat → Nat → Int) (i j : Nat) (x y n : Int) (hi : i < 6) (hj : j < 6) (hx : iR x) (hy : iR y) (hn : iR n) (hd : 2 ≤ d) (hzi : I (46 + 2 * i) 2 ≤ 60) (hzj : I (46 + 2 * j) 2 ≤ 60) : semC d 128 [vr 3, vi (i : Int), vi x, vi (j : Int), vi y, vi n] (mk w I J) =
    if I (46 + 2 * i) 0 = -1 ∨ I (46 + 2 * j) 0 = -1 then some (some (vi (-11)), mk w I J)
    else if I (46 + 2 * i) 0 = 5 ∨ I (46 + 2 * i) 0 ≠ I (46 + 2 * j) 0 then some (some (vi (-12)), mk w I J)
    else if (0 ≤ x ∧ 0 ≤ n ∧ x + n ≤ I (46 + 2 * i) 2) ∧ 0 ≤ y ∧ y + n ≤ I (46 + 2 * j) 2 then some (some (vi n), mk w I (cpy J (47 + 2 * i) (47 + 2 * j) x.toNat y.toNat n.toNat))
    else some (some (vi (-13)), mk w I J) := by
  obtain ⟨e, rfl⟩ : ∃ e, d = e + 1 := ⟨d - 1, by omega⟩
  rw [e_128]
  by_cases c1 : I (46 + 2 * i) 0 = -1
  · simp (disch := omega) only [b_128_0, b_128_5, b_128_8, b_128_13, b_128_16, b_128_18, b_128_39, b_128_42, b_128_47, b_128_50, b_128_53, b_128_58, b_128_61, b_128_74, b_128_77, b_128_85, b_128_88, b_128_97, b_128_100, b_128_103, sh_R _ _ _ hi, sh_T _ _ _ hi, sh_R _ _ _ hj, sh_T _ _ _ hj, s_131 _ _ _ _ _ _, s_60 _ _ _ _ _ hi _, nat_i, semK, Option.bind_some, mpush, wr_if, wr_tdiv, if_pos, if_neg, ↓reduceIte, b2_t, b2_f, Bool.false_eq_true, up2_ne, up2_sne, up2_s, true_or, or_true, true_and, and_true, false_and, and_false, false_or, or_false]
  · by_cases c2 : I (46 + 2 * j) 0 = -1
    · simp (disch := omega) only [b_128_0, b_128_5, b_128_8, b_128_13, b_128_16, b_128_18, b_128_39, b_128_42, b_128_47, b_128_50, b_128_53, b_128_58, b_128_61, b_128_74, b_128_77, b_128_85, b_128_88, b_128_97, b_128_100, b_128_103, sh_R _ _ _ hi, sh_T _ _ _ hi, sh_R _ _ _ hj, sh_T _ _ _ hj, s_131 _ _ _ _ _ _, s_60 _ _ _ _ _ hi _, s_60 _ _ _ _ _ hj _, nat_i, semK, Option.bind_some, mpush, wr_if, wr_tdiv, if_pos, if_neg, ↓reduceIte, b2_t, b2_f, Bool.false_eq_true, up2_ne, up2_sne, up2_s, true_or, or_true, true_and, and_true, false_and, and_false, false_or, or_false]
    · by_cases c3 : I (46 + 2 * i) 0 = 5
      · simp (disch := omega) only [b_128_0, b_128_5, b_128_8, b_128_13, b_128_16, b_128_18, b_128_39, b_128_42, b_128_47, b_128_50, b_128_53, b_128_58, b_128_61, b_128_74, b_128_77, b_128_85, b_128_88, b_128_97, b_128_100, b_128_103, sh_R _ _ _ hi, sh_T _ _ _ hi, sh_R _ _ _ hj, sh_T _ _ _ hj, s_131 _ _ _ _ _ _, s_60 _ _ _ _ _ hi _, s_60 _ _ _ _ _ hj _, s_61 _ _ _ _ _ hi _, nat_i, semK, Option.bind_some, mpush, wr_if, wr_tdiv, if_pos, if_neg, ↓reduceIte, b2_t, b2_f, Bool.false_eq_true, up2_ne, up2_sne, up2_s, true_or, or_true, true_and, and_true, false_and, and_false, false_or, or_false]
      · by_cases c4 : I (46 + 2 * i) 0 = I (46 + 2 * j) 0
        · by_cases c5 : 0 ≤ x ∧ 0 ≤ n ∧ x + n ≤ I (46 + 2 * i) 2
          · by_cases c6 : 0 ≤ y ∧ y + n ≤ I (46 + 2 * j) 2
            · have m1 : mcats [] ≤ 8 := by decide
              simp (disch := omega) only [b_128_0, b_128_5, b_128_8, b_128_13, b_128_16, b_128_18, b_128_39, b_128_42, b_128_47, b_128_50, b_128_53, b_128_58, b_128_61, b_128_74, b_128_77, b_128_85, b_128_88, b_128_97, b_128_100, b_128_103, sh_R _ _ _ hi, sh_T _ _ _ hi, sh_C _ _ _ hi, sh_A _ _ _ hi, sh_C _ _ _ hj, sh_A _ _ _ hj, sh_R _ _ _ hj, sh_T _ _ _ hj, s_131 _ _ _ _ _ _, s_60 _ _ _ _ _ hi _, s_60 _ _ _ _ _ hj _, s_61 _ _ _ _ _ hi _, s_63 _ _ _ _ _ _ _ hx hn hi _, s_63 _ _ _ _ _ _ _ hy hn hj _, nat_i, m1, semK, Option.bind_some, mpush, wr_if, wr_tdiv, if_pos, if_neg, ↓reduceIte, b2_t, b2_f, Bool.false_eq_true, up2_ne, up2_sne, up2_s, true_or, or_true, true_and, and_true, false_and, and_false, false_or, or_false]
            · simp (disch := omega) only [b_128_0, b_128_5, b_128_8, b_128_13, b_128_16, b_128_18, b_128_39, b_128_42, b_128_47, b_128_50, b_128_53, b_128_58, b_128_61, b_128_74, b_128_77, b_128_85, b_128_88, b_128_97, b_128_100, sh_R _ _ _ hi, sh_T _ _ _ hi, sh_R _ _ _ hj, sh_T _ _ _ hj, s_131 _ _ _ _ _ _, s_60 _ _ _ _ _ hi _, s_60 _ _ _ _ _ hj _, s_61 _ _ _ _ _ hi _, s_63 _ _ _ _ _ _ _ hx hn hi _, s_63 _ _ _ _ _ _ _ hy hn hj _, nat_i, semK, Option.bind_some, mpush, wr_if, wr_tdiv, if_pos, if_neg, ↓reduceIte, b2_t, b2_f, Bool.false_eq_true, up2_ne, up2_sne, up2_s, true_or, or_true, true_and, and_true, false_and, and_false, false_or, or_false]
          · simp (disch := omega) only [b_128_0, b_128_5, b_128_8, b_128_13, b_128_16, b_128_18, b_128_39, b_128_42, b_128_47, b_128_50, b_128_53, b_128_58, b_128_61, b_128_74, b_128_77, b_128_85, b_128_88, b_128_97, b_128_100, sh_R _ _ _ hi, sh_T _ _ _ hi, sh_R _ _ _ hj, sh_T _ _ _ hj, s_131 _ _ _ _ _ _, s_60 _ _ _ _ _ hi _, s_60 _ _ _ _ _ hj _, s_61 _ _ _ _ _ hi _, s_63 _ _ _ _ _ _ _ hx hn hi _, nat_i, semK, Option.bind_some, mpush, wr_if, wr_tdiv, if_pos, if_neg, ↓reduceIte, b2_t, b2_f, Bool.false_eq_true, up2_ne, up2_sne, up2_s, true_or, or_true, true_and, and_true, false_and, and_false, false_or, or_false]
        · simp (disch := omega) only [b_128_0, b_128_5, b_128_8, b_128_13, b_128_16, b_128_18, b_128_39, b_128_42, b_128_47, b_128_50, b_128_53, b_128_58, b_128_61, b_128_74, b_128_77, b_128_85, b_128_88, b_128_97, b_128_100, sh_R _ _ _ hi, sh_T _ _ _ hi, sh_R _ _ _ hj, sh_T _ _ _ hj, s_131 _ _ _ _ _ _, s_60 _ _ _ _ _ hi _, s_60 _ _ _ _ _ hj _, s_61 _ _ _ _ _ hi _, nat_i, semK, Option.bind_some, mpush, wr_if, wr_tdiv, if_pos, if_neg, ↓reduceIte, b2_t, b2_f, Bool.false_eq_true, up2_ne, up2_sne, up2_s, true_or, or_true, true_and, and_true, false_and, and_false, false_or, or_false]
theorem s_128n (d : Nat) (w : Nat × Bool) (I J : Nat → Nat → Int) (s t x y n : Int) (hs : ¬ ((0 ≤ s ∧ s < 6) ∧ 0 ≤ t ∧ t < 6)) (hd : 2 ≤ d) : semC d 128 [vr 3, vi s, vi x, vi t, vi y, vi n] (mk w I J) = some (some (vi (-1)), mk w I J) := by
  obtain ⟨e, rfl⟩ : ∃ e, d = e + 1 := ⟨d - 1, by omega⟩
  rw [e_128]
  by_cases c1 : 0 ≤ s ∧ s < 6
  · simp (disch := omega) only [b_128_0, b_128_5, b_128_8, b_128_13, b_128_16, b_128_18, b_128_39, b_128_42, b_128_47, b_128_50, b_128_53, b_128_58, b_128_61, b_128_74, b_128_77, b_128_85, b_128_88, b_128_97, b_128_100, s_131 _ _ _ _ _ _, semK, Option.bind_some, mpush, wr_if, wr_tdiv, if_pos, if_neg, ↓reduceIte, b2_t, b2_f, Bool.false_eq_true, up2_ne, up2_sne, up2_s, true_or, or_true, true_and, and_true, false_and, and_false, false_or, or_false]
  · simp (disch := omega) only [b_128_0, b_128_5, b_128_8, b_128_13, b_128_16, b_128_18, b_128_39, b_128_42, b_128_47, b_128_50, b_128_53, b_128_58, b_128_61, b_128_74, b_128_77, b_128_85, b_128_88, b_128_97, b_128_100, s_131 _ _ _ _ _ _, semK, Option.bind_some, mpush, wr_if, wr_tdiv, if_pos, if_neg, ↓reduceIte, b2_t, b2_f, Bool.false_eq_true, up2_ne, up2_sne, up2_s, true_or, or_true, true_and, and_true, false_and, and_false, false_or, or_false]
theorem cpy_itr (J : Nat → Nat → Int) (c0 c1 sp dp n : Nat) (hc : c0 ≠ c1) : itr (fun u J' => up2 J' c1 (dp + u) (J' c0 (sp + u))) n J = cpy J c0 c1 sp dp n := by
  induction n with
  | zero => funext c' k; unfold itr cpy; rw [if_neg (by omega)]
  | succ n ih =>
    unfold itr
    rw [ih]
    have e0 : cpy J c0 c1 sp dp n c0 (sp + n) = J c0 (sp + n) := by unfold cpy; rw [if_neg (fun h => hc h.1)]
    rw [e0]
    funext c' k
    unfold up2 cpy
    by_cases h1 : c' = c1 <;> by_cases h2 : k = dp + n
    · rw [if_pos ⟨h1, h2⟩, if_pos ⟨h1, by omega, by omega⟩, h2, show dp + n - dp = n by omega]
    · rw [if_neg (by omega)]
      by_cases h3 : dp ≤ k ∧ k < dp + n
      · rw [if_pos ⟨h1, h3⟩, if_pos ⟨h1, by omega, by omega⟩]
      · rw [if_neg (by omega), if_neg (by omega)]
    · rw [if_neg (by omega), if_neg (by omega), if_neg (by omega)]
    · rw [if_neg (by omega), if_neg (by omega), if_neg (by omega)]
theorem s_233 (d : Nat) (w : Nat × Bool) (I J : Nat → Nat → Int) (i j : Nat) (x y n : Int) (hi : i < 6) (hj : j < 6) (hx : iR x) (hy : iR y) (hn : iR n) (hd : 3 ≤ d) (hzi : I 92 i < -1 → 0 ≤ I 93 i ∧ I 93 i ≤ 60) (hzj : I 92 j < -1 → 0 ≤ I 93 j ∧ I 93 j ≤ 60) : semC d 233 [vr 58, vi (i : Int), vi x, vi (j : Int), vi y, vi n] (mk w I J) =
    if I 92 i = -1 ∨ I 92 j = -1 then some (some (vi (-11)), mk w I J)
    else if 0 ≤ I 92 i ∨ I 92 i ≠ I 92 j then some (some (vi (-12)), mk w I J)
    else if (0 ≤ x ∧ 0 ≤ n ∧ x + n ≤ I 93 i) ∧ 0 ≤ y ∧ y + n ≤ I 93 j then some (some (vi n), mk w I (cpy (cpy J 94 95 (60 * i + x.toNat) 0 n.toNat) 95 94 0 (60 * j + y.toNat) n.toNat))
    else some (some (vi (-13)), mk w I J) := by
  obtain ⟨e, rfl⟩ : ∃ e, d = e + 1 := ⟨d - 1, by omega⟩
  rw [e_233]
  obtain ⟨hx1, hx2⟩ := id hx
  obtain ⟨hy1, hy2⟩ := id hy
  obtain ⟨hn1, hn2⟩ := id hn
  by_cases c1 : I 92 i = -1
  · simp (disch := omega) only [b_233_0, b_233_4, b_233_7, b_233_11, b_233_14, b_233_16, b_233_26, b_233_36, b_233_39, b_233_48, b_233_63, b_233_66, b_233_71, b_233_75, b_233_80, b_233_93, b_233_107, b_233_110, b_233_120, b_233_147, b_233_157, b_233_185, s_227 _ _ _ _ _ _, nat_i, semK, Option.bind_some, mpush, wr_if, wr_tdiv, if_pos, if_neg, ↓reduceIte, b2_t, b2_f, Bool.false_eq_true, up2_ne, up2_sne, up2_s, true_or, or_true, true_and, and_true, false_and, and_false, false_or, or_false]
  · by_cases c2 : I 92 j = -1
    · simp (disch := omega) only [b_233_0, b_233_4, b_233_7, b_233_11, b_233_14, b_233_16, b_233_26, b_233_36, b_233_39, b_233_48, b_233_63, b_233_66, b_233_71, b_233_75, b_233_80, b_233_93, b_233_107, b_233_110, b_233_120, b_233_147, b_233_157, b_233_185, s_227 _ _ _ _ _ _, nat_i, semK, Option.bind_some, mpush, wr_if, wr_tdiv, if_pos, if_neg, ↓reduceIte, b2_t, b2_f, Bool.false_eq_true, up2_ne, up2_sne, up2_s, true_or, or_true, true_and, and_true, false_and, and_false, false_or, or_false]
    · by_cases c3 : 0 ≤ I 92 i
      · simp (disch := omega) only [b_233_0, b_233_4, b_233_7, b_233_11, b_233_14, b_233_16, b_233_26, b_233_36, b_233_39, b_233_48, b_233_63, b_233_66, b_233_71, b_233_75, b_233_80, b_233_93, b_233_107, b_233_110, b_233_120, b_233_147, b_233_157, b_233_185, s_227 _ _ _ _ _ _, nat_i, semK, Option.bind_some, mpush, wr_if, wr_tdiv, if_pos, if_neg, ↓reduceIte, b2_t, b2_f, Bool.false_eq_true, up2_ne, up2_sne, up2_s, true_or, or_true, true_and, and_true, false_and, and_false, false_or, or_false]
      · by_cases c4 : I 92 i = I 92 j
        · have zi := hzi (by omega)
          have zj := hzj (by omega)
          by_cases c5 : n < 0
          · simp (disch := omega) only [b_233_0, b_233_4, b_233_7, b_233_11, b_233_14, b_233_16, b_233_26, b_233_36, b_233_39, b_233_48, b_233_63, b_233_66, b_233_71, b_233_75, b_233_80, b_233_93, b_233_107, b_233_110, b_233_120, b_233_147, b_233_157, b_233_185, s_227 _ _ _ _ _ _, nat_i, semK, Option.bind_some, mpush, wr_if, wr_tdiv, if_pos, if_neg, ↓reduceIte, b2_t, b2_f, Bool.false_eq_true, up2_ne, up2_sne, up2_s, true_or, or_true, true_and, and_true, false_and, and_false, false_or, or_false]
          · by_cases c6 : x < 0
            · simp (disch := omega) only [b_233_0, b_233_4, b_233_7, b_233_11, b_233_14, b_233_16, b_233_26, b_233_36, b_233_39, b_233_48, b_233_63, b_233_66, b_233_71, b_233_75, b_233_80, b_233_93, b_233_107, b_233_110, b_233_120, b_233_147, b_233_157, b_233_185, s_227 _ _ _ _ _ _, nat_i, semK, Option.bind_some, mpush, wr_if, wr_tdiv, if_pos, if_neg, ↓reduceIte, b2_t, b2_f, Bool.false_eq_true, up2_ne, up2_sne, up2_s, true_or, or_true, true_and, and_true, false_and, and_false, false_or, or_false]
            · by_cases c7 : y < 0
              · simp (disch := omega) only [b_233_0, b_233_4, b_233_7, b_233_11, b_233_14, b_233_16, b_233_26, b_233_36, b_233_39, b_233_48, b_233_63, b_233_66, b_233_71, b_233_75, b_233_80, b_233_93, b_233_107, b_233_110, b_233_120, b_233_147, b_233_157, b_233_185, s_227 _ _ _ _ _ _, nat_i, semK, Option.bind_some, mpush, wr_if, wr_tdiv, if_pos, if_neg, ↓reduceIte, b2_t, b2_f, Bool.false_eq_true, up2_ne, up2_sne, up2_s, true_or, or_true, true_and, and_true, false_and, and_false, false_or, or_false]
              · by_cases c8 : I 93 i - n < x
                · simp (disch := omega) only [b_233_0, b_233_4, b_233_7, b_233_11, b_233_14, b_233_16, b_233_26, b_233_36, b_233_39, b_233_48, b_233_63, b_233_66, b_233_71, b_233_75, b_233_80, b_233_93, b_233_107, b_233_110, b_233_120, b_233_147, b_233_157, b_233_185, s_227 _ _ _ _ _ _, nat_i, semK, Option.bind_some, mpush, wr_if, wr_tdiv, if_pos, if_neg, ↓reduceIte, b2_t, b2_f, Bool.false_eq_true, up2_ne, up2_sne, up2_s, true_or, or_true, true_and, and_true, false_and, and_false, false_or, or_false]
                · by_cases c9 : I 93 j - n < y
                  · simp (disch := omega) only [b_233_0, b_233_4, b_233_7, b_233_11, b_233_14, b_233_16, b_233_26, b_233_36, b_233_39, b_233_48, b_233_63, b_233_66, b_233_71, b_233_75, b_233_80, b_233_93, b_233_107, b_233_110, b_233_120, b_233_147, b_233_157, b_233_185, s_227 _ _ _ _ _ _, nat_i, semK, Option.bind_some, mpush, wr_if, wr_tdiv, if_pos, if_neg, ↓reduceIte, b2_t, b2_f, Bool.false_eq_true, up2_ne, up2_sne, up2_s, true_or, or_true, true_and, and_true, false_and, and_false, false_or, or_false]
                  · have l := loop (fun (u : Nat) (J' : Nat → Nat → Int) => Sem e 233 113 [some (vr 58), some (vi (i : Int)), some (vi x), some (vi (j : Int)), some (vi y), some (vi n), some (vi (u : Int))] [] (mk w I J'))
                      (fun u J' => up2 J' 95 (0 + u) (J' 94 ((60 * i + x.toNat) + u))) (fun _ _ => True) n.toNat J trivial (by
                      intro u J' hu _
                      refine ⟨?_, trivial⟩
                      have e1 : (60 * (i : Int) + x + u).toNat = 60 * i + x.toNat + u := by omega
                      rw [b_233_113]
                      simp (disch := omega) only [b_233_120, e1, nat_i, Nat.zero_add, semK, Option.bind_some, mpush, wr_if, wr_tdiv, if_pos, if_neg, ↓reduceIte, b2_t, b2_f, Bool.false_eq_true, up2_ne, up2_sne, up2_s, true_or, or_true, true_and, and_true, false_and, and_false, false_or, or_false]
                      rfl)
                    have l1 := l.1
                    have l' := loop (fun (u : Nat) (J' : Nat → Nat → Int) => Sem e 233 150 [some (vr 58), some (vi (i : Int)), some (vi x), some (vi (j : Int)), some (vi y), some (vi n), some (vi (u : Int))] [] (mk w I J'))
                      (fun u J' => up2 J' 94 ((60 * j + y.toNat) + u) (J' 95 (0 + u))) (fun _ _ => True) n.toNat (cpy J 94 95 (60 * i + x.toNat) 0 n.toNat) trivial (by
                      intro u J' hu _
                      refine ⟨?_, trivial⟩
                      have e1 : (60 * (j : Int) + y + u).toNat = 60 * j + y.toNat + u := by omega
                      rw [b_233_150]
                      simp (disch := omega) only [b_233_157, e1, nat_i, Nat.zero_add, semK, Option.bind_some, mpush, wr_if, wr_tdiv, if_pos, if_neg, ↓reduceIte, b2_t, b2_f, Bool.false_eq_true, up2_ne, up2_sne, up2_s, true_or, or_true, true_and, and_true, false_and, and_false, false_or, or_false]
                      rfl)
                    have l2 := l'.1
                    rw [cpy_itr _ _ _ _ _ _ (by omega), show ((0 : Nat) : Int) = 0 from rfl, show ((n.toNat : Nat) : Int) = n by omega] at l1
                    rw [cpy_itr _ _ _ _ _ _ (by omega), show ((0 : Nat) : Int) = 0 from rfl, show ((n.toNat : Nat) : Int) = n by omega] at l2
                    simp (disch := omega) only [b_233_0, b_233_4, b_233_7, b_233_11, b_233_14, b_233_16, b_233_26, b_233_36, b_233_39, b_233_48, b_233_63, b_233_66, b_233_71, b_233_75, b_233_80, b_233_93, b_233_107, b_233_110, b_233_120, b_233_157, b_233_185, s_227 _ _ _ _ _ _, nat_i, semK, Option.bind_some, mpush, wr_if, wr_tdiv, if_pos, if_neg, ↓reduceIte, b2_t, b2_f, Bool.false_eq_true, up2_ne, up2_sne, up2_s, true_or, or_true, true_and, and_true, false_and, and_false, false_or, or_false]
                    rw [l1, b_233_113, if_neg (by omega), b_233_147, l2, b_233_150, if_neg (by omega), b_233_185]
        · simp (disch := omega) only [b_233_0, b_233_4, b_233_7, b_233_11, b_233_14, b_233_16, b_233_26, b_233_36, b_233_39, b_233_48, b_233_63, b_233_66, b_233_71, b_233_75, b_233_80, b_233_93, b_233_107, b_233_110, b_233_120, b_233_147, b_233_157, b_233_185, s_227 _ _ _ _ _ _, nat_i, semK, Option.bind_some, mpush, wr_if, wr_tdiv, if_pos, if_neg, ↓reduceIte, b2_t, b2_f, Bool.false_eq_true, up2_ne, up2_sne, up2_s, true_or, or_true, true_and, and_true, false_and, and_false, false_or, or_false]
theorem s_233n (d : Nat) (w : Nat × Bool) (I J : Nat → Nat → Int) (s t x y n : Int) (hs : ¬ ((0 ≤ s ∧ s < 6) ∧ 0 ≤ t ∧ t < 6)) (hd : 3 ≤ d) : semC d 233 [vr 58, vi s, vi x, vi t, vi y, vi n] (mk w I J) = some (some (vi (-1)), mk w I J) := by
  obtain ⟨e, rfl⟩ : ∃ e, d = e + 1 := ⟨d - 1, by omega⟩
  rw [e_233]
  by_cases c1 : 0 ≤ s ∧ s < 6
  · simp (disch := omega) only [b_233_0, b_233_4, b_233_7, b_233_11, b_233_14, b_233_16, b_233_26, b_233_36, b_233_39, b_233_48, b_233_63, b_233_66, b_233_71, b_233_75, b_233_80, b_233_93, b_233_107, b_233_110, b_233_120, b_233_147, b_233_157, b_233_185, s_227 _ _ _ _ _ _, semK, Option.bind_some, mpush, wr_if, wr_tdiv, if_pos, if_neg, ↓reduceIte, b2_t, b2_f, Bool.false_eq_true, up2_ne, up2_sne, up2_s, true_or, or_true, true_and, and_true, false_and, and_false, false_or, or_false]
  · simp (disch := omega) only [b_233_0, b_233_4, b_233_7, b_233_11, b_233_14, b_233_16, b_233_26, b_233_36, b_233_39, b_233_48, b_233_63, b_233_66, b_233_71, b_233_75, b_233_80, b_233_93, b_233_107, b_233_110, b_233_120, b_233_147, b_233_157, b_233_185, s_227 _ _ _ _ _ _, semK, Option.bind_some, mpush, wr_if, wr_tdiv, if_pos, if_neg, ↓reduceIte, b2_t, b2_f, Bool.false_eq_true, up2_ne, up2_sne, up2_s, true_or, or_true, true_and, and_true, false_and, and_false, false_or, or_false]
