theorem tdiv_R {x c : Int} (h : -2147483648 ≤ x ∧ x < 2147483648) (hc : 1 ≤ c) : -2147483648 ≤ x.tdiv c ∧ x.tdiv c < 2147483648 := by
  rcases Int.le_total 0 x with h0 | h0
  · rw [Int.tdiv_eq_ediv_of_nonneg h0]
    have h1 : 0 ≤ x / c := Int.ediv_nonneg h0 (by omega)
    have h2 : x / c ≤ x := Int.ediv_le_self c h0
    omega
  · have e : x.tdiv c = -((-x).tdiv c) := by rw [Int.neg_tdiv, Int.neg_neg]
    rw [e, Int.tdiv_eq_ediv_of_nonneg (by omega)]
    have h1 : 0 ≤ (-x) / c := Int.ediv_nonneg (by omega) (by omega)
    have h2 : (-x) / c ≤ (-x) := Int.ediv_le_self c (by omega)
    omega
theorem tdiv_neg {x c : Int} (h : x ≤ 0) (hc : 1 ≤ c) : x.tdiv c ≤ 0 := by
  have e : x.tdiv c = -((-x).tdiv c) := by rw [Int.neg_tdiv, Int.neg_neg]
  rw [e, Int.tdiv_eq_ediv_of_nonneg (by omega)]
  have h1 : 0 ≤ (-x) / c := Int.ediv_nonneg (by omega) (by omega)
  omega
theorem tdiv_e {x c : Int} (h : 0 ≤ x) : x.tdiv c = x / c := Int.tdiv_eq_ediv_of_nonneg h
theorem tmod_e {x c : Int} (h : 0 ≤ x) : x.tmod c = x % c := Int.tmod_eq_emod_of_nonneg h
theorem wr_tdiv {x c : Int} (h : -2147483648 ≤ x ∧ x < 2147483648) (hc : 1 ≤ c) : wr (x.tdiv c) = x.tdiv c := wr_of (tdiv_R h hc)
theorem s_93 (d : Nat) (w : Nat × Bool) (I J : Nat → Nat → Int) (x : Int) (hd : 2 ≤ d) (hx : iR x) (h1 : 0 ≤ I 4 0 ∧ I 4 0 ≤ 20) (h2 : 0 ≤ I 4 1 ∧ I 4 1 ≤ 20) : semC d 93 [vr 3, vi x] (mk w I J) =
    if (4 ≤ x.tdiv 100 ∧ x.tdiv 100 ≤ 20) ∧ 4 ≤ x.tmod 100 ∧ x.tmod 100 ≤ 20 then
      (if 0 < I 4 4 ∨ 0 < I 4 8 then some (some (vi (-5)), mk w I J) else some (some (vi (100 * I 4 0 + I 4 1)), mk w (up2 (up2 I 4 0 (x.tdiv 100)) 4 1 (x.tmod 100)) J))
    else some (some (vi (-1)), mk w I J) := by
  obtain ⟨e, rfl⟩ : ∃ e, d = e + 1 := ⟨d - 1, by omega⟩
  rw [e_93]
  simp (disch := omega) only [b_93_0, b_93_17, b_93_20, b_93_27, b_93_30, b_93_32, b_93_42, b_93_52, b_93_55, semK_of (s_133 _ _ _ _ _ _ _ _), mpush, wr_if, wr_tdiv]
  repeat' split
  all_goals first | rfl | (exfalso; omega) | (simp_all; done)
theorem s_140 (d : Nat) (w : Nat × Bool) (I J : Nat → Nat → Int) (x : Int) (hd : 2 ≤ d) (hx : iR x) (h1 : 0 ≤ I 58 1 ∧ I 58 1 ≤ 20) (h2 : 0 ≤ I 58 2 ∧ I 58 2 ≤ 20) (h3 : 0 ≤ I 58 3 ∧ I 58 3 ≤ 10) (h4 : 0 ≤ I 58 6 ∧ I 58 6 ≤ 10) : semC d 140 [vr 58, vi x] (mk w I J) =
    if 0 ≤ x ∧ (4 ≤ x.tdiv 100 ∧ x.tdiv 100 ≤ 20) ∧ 4 ≤ x.tmod 100 ∧ x.tmod 100 ≤ 20 then
      (if 0 < I 58 3 + I 58 6 then some (some (vi (-5)), mk w I J) else some (some (vi (100 * I 58 1 + I 58 2)), mk w (up2 (up2 I 58 1 (x.tdiv 100)) 58 2 (x.tmod 100)) J))
    else some (some (vi (-1)), mk w I J) := by
  obtain ⟨e, rfl⟩ : ∃ e, d = e + 1 := ⟨d - 1, by omega⟩
  rw [e_140]
  simp (disch := omega) only [b_140_0, b_140_4, b_140_14, b_140_17, b_140_27, b_140_30, b_140_32, b_140_44, b_140_47, semK_of (s_135 _ _ _ _ _ _ _ _), mpush, wr_if, wr_tdiv]
  repeat' split
  all_goals first | rfl | (exfalso; omega) | (simp_all; done)
theorem s_130 (d : Nat) (w : Nat × Bool) (I J : Nat → Nat → Int) (x : Int) (hd : 1 ≤ d) : semC d 130 [vr 3, vi x] (mk w I J) = some (some (vi (if x = 0 then I 4 4 else if x = 1 then I 4 8 else if x = 2 then I 10 6 else if x = 3 then I 17 1 else if x = 4 then I 37 7 else if x = 5 then I 42 1 else if x = 6 then I 42 3 else -1)), mk w I J) := by
  obtain ⟨e, rfl⟩ : ∃ e, d = e + 1 := ⟨d - 1, by omega⟩
  rw [e_130]
  simp only [b_130_0, b_130_44, b_130_52, b_130_60, b_130_68, b_130_76, b_130_84, b_130_92, b_130_100]
  repeat' split
  all_goals first | rfl | (exfalso; omega) | (simp_all; done)
theorem s_226 (d : Nat) (w : Nat × Bool) (I J : Nat → Nat → Int) (x : Int) (hd : 1 ≤ d) : semC d 226 [vr 58, vi x] (mk w I J) = some (some (vi (if x = 0 then I 58 3 else if x = 1 then I 58 6 else if x = 2 then I 58 10 else if x = 3 then I 58 27 else if x = 4 then I 58 20 else if x = 5 then I 58 48 else if x = 6 then I 58 50 else -1)), mk w I J) := by
  obtain ⟨e, rfl⟩ : ∃ e, d = e + 1 := ⟨d - 1, by omega⟩
  rw [e_226]
  simp only [b_226_0, b_226_44, b_226_49, b_226_54, b_226_59, b_226_64, b_226_69, b_226_74, b_226_79]
  repeat' split
  all_goals first | rfl | (exfalso; omega) | (simp_all; done)
theorem s_70 (d : Nat) (w : Nat × Bool) (I J : Nat → Nat → Int) (x : Int) (hd : 1 ≤ d) : semC d 70 [vr 23, vi x] (mk w I J) = some (some (vi (I 23 3)), mk w (up2 I 23 3 x) J) := by
  obtain ⟨e, rfl⟩ : ∃ e, d = e + 1 := ⟨d - 1, by omega⟩
  rw [e_70]
  simp only [b_70_0]
theorem s_71 (d : Nat) (w : Nat × Bool) (I J : Nat → Nat → Int) (x : Int) (hd : 1 ≤ d) (h : 0 ≤ I 23 5 ∧ I 23 5 ≤ 1000000) : semC d 71 [vr 23, vi x] (mk w I J) = some (some (vi (I 23 4)), mk w (up2 (up2 I 23 4 x) 23 5 (I 23 5 + 1)) J) := by
  obtain ⟨e, rfl⟩ : ∃ e, d = e + 1 := ⟨d - 1, by omega⟩
  rw [e_71]
  simp (disch := omega) only [b_71_0, wr_if]
theorem s_17 (d : Nat) (w : Nat × Bool) (I J : Nat → Nat → Int) (x : Int) (hd : 1 ≤ d) : semC d 17 [vr 32, vi x] (mk w I J) = some (some (vi (I 32 2)), mk w (up2 I 32 2 x) J) := by
  obtain ⟨e, rfl⟩ : ∃ e, d = e + 1 := ⟨d - 1, by omega⟩
  rw [e_17]
  simp only [b_17_0]
theorem s_99 (d : Nat) (w : Nat × Bool) (I J : Nat → Nat → Int) (a x : Int) (hd : 2 ≤ d) (h : 0 ≤ I 23 5 ∧ I 23 5 ≤ 1000000) : semC d 99 [vr 3, vi a, vi x] (mk w I J) =
    if a = 0 ∧ 0 ≤ x ∧ x ≤ 60 then some (some (vi (I 23 3)), mk w (up2 I 23 3 x) J)
    else if a = 1 ∧ 0 ≤ x ∧ x ≤ 9 then some (some (vi (I 23 4)), mk w (up2 (up2 I 23 4 x) 23 5 (I 23 5 + 1)) J)
    else if a = 2 ∧ 0 ≤ x ∧ x ≤ 9 then some (some (vi (I 32 2)), mk w (up2 I 32 2 x) J)
    else some (some (vi (-1)), mk w I J) := by
  obtain ⟨e, rfl⟩ : ∃ e, d = e + 1 := ⟨d - 1, by omega⟩
  rw [e_99]
  simp (disch := omega) only [b_99_0, b_99_4, b_99_6, b_99_10, b_99_16, b_99_24, b_99_25, b_99_30, b_99_36, b_99_44, b_99_45, b_99_50, b_99_56, b_99_64, b_99_65, semK_of (s_70 _ _ _ _ _ _), semK_of (s_71 _ _ _ _ _ _ h), semK_of (s_17 _ _ _ _ _ _), mpush]
  repeat' split
  all_goals first | rfl | (exfalso; omega) | (simp_all; done)
theorem s_149 (d : Nat) (w : Nat × Bool) (I J : Nat → Nat → Int) (a x : Int) (hd : 2 ≤ d) : semC d 149 [vr 58, vi a, vi x] (mk w I J) =
    if a = 0 ∧ 0 ≤ x ∧ x ≤ 60 then some (some (vi (I 58 17)), mk w (up2 I 58 17 x) J)
    else if a = 1 ∧ 0 ≤ x ∧ x ≤ 9 then some (some (vi (I 58 18)), mk w (up2 I 58 18 x) J)
    else if a = 2 ∧ 0 ≤ x ∧ x ≤ 9 then some (some (vi (I 58 19)), mk w (up2 I 58 19 x) J)
    else some (some (vi (-1)), mk w I J) := by
  obtain ⟨e, rfl⟩ : ∃ e, d = e + 1 := ⟨d - 1, by omega⟩
  rw [e_149]
  simp (disch := omega) only [b_149_0, b_149_28, b_149_35, b_149_38, b_149_40, b_149_52, b_149_59, b_149_62, b_149_64, b_149_76, b_149_83, b_149_86, b_149_88, b_149_100, semK_of (s_135 _ _ _ _ _ _ _ _), mpush]
  repeat' split
  all_goals first | rfl | (exfalso; omega) | (simp_all; done)
theorem s_35 (d : Nat) (w : Nat × Bool) (I J : Nat → Nat → Int) (x : Int) (hd : 1 ≤ d) (h : 0 ≤ I 17 1 ∧ I 17 1 ≤ 120) : semC d 35 [vr 17, vi x] (mk w I J) =
    if I 17 1 = 120 then some (some (vi (-3)), mk w I J) else some (some (vi (I 17 1 + 1)), mk w (up2 (up2 I 18 (I 17 1).toNat x) 17 1 (I 17 1 + 1)) J) := by
  obtain ⟨e, rfl⟩ : ∃ e, d = e + 1 := ⟨d - 1, by omega⟩
  rw [e_35]
  by_cases h9 : I 17 1 = 120
  · simp (disch := omega) only [b_35_0, b_35_9, b_35_12, if_pos, if_neg]
  · simp (disch := omega) only [b_35_0, b_35_9, b_35_12, if_pos, if_neg, wr_if]
