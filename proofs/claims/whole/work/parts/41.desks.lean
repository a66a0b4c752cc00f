/-- desks from a row: how many came, and the floor then -/
def dkX (R : Nat → Int) (sz x : Int) : Nat → Nat → (Nat → Nat → Int) → Nat × (Nat → Nat → Int)
  | 0, k, I => (k, I)
  | m + 1, k, I => if 0 ≤ x + 2 * k ∧ x + 2 * k + 1 < sz ∧ frX I (wr (R (x + 2 * k).toNat)) (wr (R ((x + 2 * k).toNat + 1))) = true ∧ I 4 4 ≠ 10 then dkX R sz x m (k + 1) (aDX I (wr (R (x + 2 * k).toNat)) (wr (R ((x + 2 * k).toNat + 1)))) else (k, I)
def dkM (R : Nat → Int) (sz x : Int) : Nat → Nat → (Nat → Nat → Int) → Nat × (Nat → Nat → Int)
  | 0, k, I => (k, I)
  | m + 1, k, I => if 0 ≤ x + 2 * k ∧ x + 2 * k + 1 < sz ∧ frM I (wr (R (x + 2 * k).toNat)) (wr (R ((x + 2 * k).toNat + 1))) = true ∧ I 58 3 ≠ 10 then dkM R sz x m (k + 1) (aDM I (wr (R (x + 2 * k).toNat)) (wr (R ((x + 2 * k).toNat + 1)))) else (k, I)
theorem aDX_r {I : Nat → Nat → Int} {x y : Int} (h : rFX I) (h1 : I 4 4 ≠ 10) (h2 : I 4 9 < 1000000) : rFX (aDX I x y) := by
  obtain ⟨a1, a2, a3, a4, a5⟩ := h
  unfold rFX aDX
  simp only [up2_row, ↓reduceIte, rs_at, Nat.reduceEqDiff]
  omega
theorem aDX_9 {I : Nat → Nat → Int} {x y : Int} : aDX I x y 4 9 = I 4 9 + 1 := by
  unfold aDX
  simp only [up2_row, ↓reduceIte, rs_at, Nat.reduceEqDiff]
theorem aDX_s {I : Nat → Nat → Int} {x y : Int} {c : Nat} (h : c ≠ 4) (h5 : c ≠ 5) (h6 : c ≠ 6) : aDX I x y c = I c := by
  unfold aDX
  simp only [up2_row, if_neg h, if_neg h5, if_neg h6]
theorem aDM_r {I : Nat → Nat → Int} {x y : Int} (h : rFM I) (h1 : I 58 3 ≠ 10) : rFM (aDM I x y) := by
  obtain ⟨a1, a2, a3, a4⟩ := h
  unfold rFM aDM
  simp only [up2_row, ↓reduceIte, rs_at, Nat.reduceEqDiff]
  omega
theorem aDM_s {I : Nat → Nat → Int} {x y : Int} {c : Nat} (h : c ≠ 58) (h5 : c ≠ 59) (h6 : c ≠ 60) : aDM I x y c = I c := by
  unfold aDM
  simp only [up2_row, if_neg h, if_neg h5, if_neg h6]
theorem l_95 (e : Nat) (w : Nat × Bool) (J : Nat → Nat → Int) (i : Nat) (x : Int) (n : Nat) (sz : Int) (hi : i < 6) (hx : iR x) (hn : n ≤ 10) (hz : 0 ≤ sz ∧ sz ≤ 60) (he : 3 ≤ e) : ∀ (m k : Nat) (I : Nat → Nat → Int) (u6 u8 u9 : Option mVal), k + m = n → rFX I → I 4 9 + m ≤ 1000000 → I (46 + 2 * i) 2 = sz →
    Sem e 95 52 [some (vr 3), some (vi (i : Int)), some (vi x), some (vi (n : Int)), some (vr (46 + 2 * i)), some (vi (k : Int)), u6, none, u8, u9] [] (mk w I J) = some (some (vi ((dkX (J (47 + 2 * i)) sz x m k I).1 : Nat)), mk w (dkX (J (47 + 2 * i)) sz x m k I).2 J)
  | 0, k, I, u6, u8, u9, hk, hr, h9, hs => by
    rw [b_95_52, if_neg (by omega), b_95_144]
    rfl
  | m + 1, k, I, u6, u8, u9, hk, hr, h9, hs => by
    obtain ⟨hx1, hx2⟩ := id hx
    rw [b_95_52, if_pos (by omega)]
    unfold dkX
    by_cases c1 : 0 ≤ x + 2 * k ∧ x + 2 * k < sz
    · by_cases c2 : x + 2 * k + 1 < sz
      · have e1 : (x + 2 * k + 1).toNat = (x + 2 * k).toNat + 1 := by omega
        cases c3 : frX I (wr (J (47 + 2 * i) (x + 2 * k).toNat)) (wr (J (47 + 2 * i) ((x + 2 * k).toNat + 1)))
        · rw [if_neg (by simp)]
          simp (disch := omega) only [b_95_0, b_95_5, b_95_8, b_95_15, b_95_18, b_95_20, b_95_33, b_95_36, b_95_38, b_95_46, b_95_49, b_95_58, b_95_77, b_95_80, b_95_89, b_95_92, b_95_95, b_95_132, b_95_135, b_95_138, b_95_144, sh_T _ _ _ hi, sh_C _ _ _ hi, sh_A _ _ _ hi, s_62 _ _ _ _ _ _ hi _, hs, wl_if, e1, s_24 _ _ _ _ _ _ _ hr, c3, semK, Option.bind_some, mpush, wr_if, wr_tdiv, if_pos, if_neg, ↓reduceIte, b2_t, b2_f, Bool.false_eq_true, up2_ne, up2_sne, up2_s, true_or, or_true, true_and, and_true, false_and, and_false, false_or, or_false]
        · by_cases c4 : I 4 4 = 10
          · rw [if_neg (by simp [c4])]
            simp (disch := omega) only [b_95_0, b_95_5, b_95_8, b_95_15, b_95_18, b_95_20, b_95_33, b_95_36, b_95_38, b_95_46, b_95_49, b_95_58, b_95_77, b_95_80, b_95_89, b_95_92, b_95_95, b_95_132, b_95_135, b_95_138, b_95_144, sh_T _ _ _ hi, sh_C _ _ _ hi, sh_A _ _ _ hi, s_62 _ _ _ _ _ _ hi _, hs, wl_if, e1, s_24 _ _ _ _ _ _ _ hr, c3, semK, Option.bind_some, mpush, wr_if, wr_tdiv, if_pos, if_neg, ↓reduceIte, b2_t, b2_f, Bool.false_eq_true, up2_ne, up2_sne, up2_s, true_or, or_true, true_and, and_true, false_and, and_false, false_or, or_false]
          · rw [if_pos ⟨c1.1, c2, rfl, c4⟩]
            have h4 := hr.2.2.1
            simp (disch := omega) only [b_95_0, b_95_5, b_95_8, b_95_15, b_95_18, b_95_20, b_95_33, b_95_36, b_95_38, b_95_46, b_95_49, b_95_58, b_95_77, b_95_80, b_95_89, b_95_92, b_95_95, b_95_132, b_95_135, b_95_138, b_95_144, sh_T _ _ _ hi, sh_C _ _ _ hi, sh_A _ _ _ hi, s_62 _ _ _ _ _ _ hi _, hs, wl_if, e1, s_24 _ _ _ _ _ _ _ hr, c3, semK, Option.bind_some, mpush, wr_if, wr_tdiv, if_pos, if_neg, ↓reduceIte, b2_t, b2_f, Bool.false_eq_true, up2_ne, up2_sne, up2_s, true_or, or_true, true_and, and_true, false_and, and_false, false_or, or_false]
            exact l_95 e w J i x n sz hi hx hn hz he m (k + 1) _ _ _ _ (by omega) (aDX_r hr c4 (by omega)) (by rw [aDX_9]; omega) (by rw [aDX_s (by omega) (by omega) (by omega)]; exact hs)
      · rw [if_neg (by omega)]
        simp (disch := omega) only [b_95_0, b_95_5, b_95_8, b_95_15, b_95_18, b_95_20, b_95_33, b_95_36, b_95_38, b_95_46, b_95_49, b_95_58, b_95_77, b_95_80, b_95_89, b_95_92, b_95_95, b_95_132, b_95_135, b_95_138, b_95_144, sh_T _ _ _ hi, s_62 _ _ _ _ _ _ hi _, hs, wl_if, semK, Option.bind_some, mpush, wr_if, wr_tdiv, if_pos, if_neg, ↓reduceIte, b2_t, b2_f, Bool.false_eq_true, up2_ne, up2_sne, up2_s, true_or, or_true, true_and, and_true, false_and, and_false, false_or, or_false]
    · rw [if_neg (by omega)]
      simp (disch := omega) only [b_95_0, b_95_5, b_95_8, b_95_15, b_95_18, b_95_20, b_95_33, b_95_36, b_95_38, b_95_46, b_95_49, b_95_58, b_95_77, b_95_80, b_95_89, b_95_92, b_95_95, b_95_132, b_95_135, b_95_138, b_95_144, sh_T _ _ _ hi, s_62 _ _ _ _ _ _ hi _, hs, wl_if, semK, Option.bind_some, mpush, wr_if, wr_tdiv, if_pos, if_neg, ↓reduceIte, b2_t, b2_f, Bool.false_eq_true, up2_ne, up2_sne, up2_s, true_or, or_true, true_and, and_true, false_and, and_false, false_or, or_false]
theorem l_144 (e : Nat) (w : Nat × Bool) (J : Nat → Nat → Int) (i : Nat) (x : Int) (n : Nat) (sz : Int) (hi : i < 6) (hx : iR x) (hn : n ≤ 10) (hz : 0 ≤ sz ∧ sz ≤ 60) (he : 2 ≤ e) : ∀ (m k : Nat) (I : Nat → Nat → Int) (u5 u7 : Option mVal), k + m = n → rFM I → I 93 i = sz →
    Sem e 144 58 [some (vr 58), some (vi (i : Int)), some (vi x), some (vi (n : Int)), some (vi (k : Int)), u5, none, u7] [] (mk w I J) = some (some (vi ((dkM (fun j => J 94 (60 * i + j)) sz x m k I).1 : Nat)), mk w (dkM (fun j => J 94 (60 * i + j)) sz x m k I).2 J)
  | 0, k, I, u5, u7, hk, hr, hs => by
    rw [b_144_58, if_neg (by omega), b_144_175]
    unfold dkM
    have : k = n := by omega
    rw [this]
  | m + 1, k, I, u5, u7, hk, hr, hs => by
    obtain ⟨hx1, hx2⟩ := id hx
    rw [b_144_58, if_pos (by omega)]
    unfold dkM
    by_cases c1 : 0 ≤ x + 2 * k
    · by_cases c2 : x + 2 * k + 1 < sz
      · have e1 : (60 * (i : Int) + (x + 2 * k)).toNat = 60 * i + (x + 2 * k).toNat := by omega
        have e2 : (60 * (i : Int) + (x + 2 * k) + 1).toNat = 60 * i + ((x + 2 * k).toNat + 1) := by omega
        have h4 := hr.2.2.1
        by_cases c4 : I 58 3 = 10
        · rw [if_neg (by simp [c4])]
          simp (disch := omega) only [b_144_0, b_144_4, b_144_7, b_144_14, b_144_17, b_144_19, b_144_29, b_144_40, b_144_43, b_144_53, b_144_55, b_144_64, b_144_81, b_144_96, b_144_105, b_144_108, b_144_140, b_144_143, b_144_146, b_144_168, b_144_175, lc1, nat_i, hs, wl_if, semK, Option.bind_some, mpush, wr_if, wr_tdiv, if_pos, if_neg, ↓reduceIte, b2_t, b2_f, Bool.false_eq_true, up2_ne, up2_sne, up2_s, true_or, or_true, true_and, and_true, false_and, and_false, false_or, or_false]
        · cases c3 : frM I (wr (J 94 (60 * i + (x + 2 * k).toNat))) (wr (J 94 (60 * i + ((x + 2 * k).toNat + 1))))
          · rw [if_neg (by simp)]
            simp (disch := omega) only [b_144_0, b_144_4, b_144_7, b_144_14, b_144_17, b_144_19, b_144_29, b_144_40, b_144_43, b_144_53, b_144_55, b_144_64, b_144_81, b_144_96, b_144_105, b_144_108, b_144_140, b_144_143, b_144_146, b_144_168, b_144_175, lc1, nat_i, hs, wl_if, e1, e2, t_141 _ _ _ _ _ _ _ hr, c3, semK, Option.bind_some, mpush, wr_if, wr_tdiv, if_pos, if_neg, ↓reduceIte, b2_t, b2_f, Bool.false_eq_true, up2_ne, up2_sne, up2_s, true_or, or_true, true_and, and_true, false_and, and_false, false_or, or_false]
          · rw [if_pos ⟨c1, c2, rfl, c4⟩]
            simp (disch := omega) only [b_144_0, b_144_4, b_144_7, b_144_14, b_144_17, b_144_19, b_144_29, b_144_40, b_144_43, b_144_53, b_144_55, b_144_64, b_144_81, b_144_96, b_144_105, b_144_108, b_144_140, b_144_143, b_144_146, b_144_168, b_144_175, lc1, nat_i, hs, wl_if, e1, e2, t_141 _ _ _ _ _ _ _ hr, s_142 _ _ _ _ _ _ _ _, c3, semK, Option.bind_some, mpush, wr_if, wr_tdiv, if_pos, if_neg, ↓reduceIte, b2_t, b2_f, Bool.false_eq_true, up2_ne, up2_sne, up2_s, true_or, or_true, true_and, and_true, false_and, and_false, false_or, or_false]
            exact l_144 e w J i x n sz hi hx hn hz he m (k + 1) _ _ _ (by omega) (aDM_r hr c4) (by rw [aDM_s (by omega) (by omega) (by omega)]; exact hs)
      · rw [if_neg (by omega)]
        simp (disch := omega) only [b_144_0, b_144_4, b_144_7, b_144_14, b_144_17, b_144_19, b_144_29, b_144_40, b_144_43, b_144_53, b_144_55, b_144_64, b_144_81, b_144_96, b_144_105, b_144_108, b_144_140, b_144_143, b_144_146, b_144_168, b_144_175, lc1, nat_i, hs, wl_if, semK, Option.bind_some, mpush, wr_if, wr_tdiv, if_pos, if_neg, ↓reduceIte, b2_t, b2_f, Bool.false_eq_true, up2_ne, up2_sne, up2_s, true_or, or_true, true_and, and_true, false_and, and_false, false_or, or_false]
    · rw [if_neg (by omega)]
      simp (disch := omega) only [b_144_0, b_144_4, b_144_7, b_144_14, b_144_17, b_144_19, b_144_29, b_144_40, b_144_43, b_144_53, b_144_55, b_144_64, b_144_81, b_144_96, b_144_105, b_144_108, b_144_140, b_144_143, b_144_146, b_144_168, b_144_175, lc1, nat_i, hs, wl_if, semK, Option.bind_some, mpush, wr_if, wr_tdiv, if_pos, if_neg, ↓reduceIte, b2_t, b2_f, Bool.false_eq_true, up2_ne, up2_sne, up2_s, true_or, or_true, true_and, and_true, false_and, and_false, false_or, or_false]
theorem s_95 (d : Nat) (w : Nat × Bool) (I J : Nat → Nat → Int) (i : Nat) (x n : Int) (hi : i < 6) (hx : iR x) (hd : 4 ≤ d) (hr : rFX I) (h9 : I 4 9 + 10 ≤ 1000000) (hz : 0 ≤ I (46 + 2 * i) 2 ∧ I (46 + 2 * i) 2 ≤ 60) : semC d 95 [vr 3, vi (i : Int), vi x, vi n] (mk w I J) =
    if 1 ≤ n ∧ n ≤ 10 then (if I (46 + 2 * i) 0 = -1 then some (some (vi 0), mk w I J) else if I (46 + 2 * i) 0 = 0 then some (some (vi ((dkX (J (47 + 2 * i)) (I (46 + 2 * i) 2) x n.toNat 0 I).1 : Nat)), mk w (dkX (J (47 + 2 * i)) (I (46 + 2 * i) 2) x n.toNat 0 I).2 J)
      else some (some (vi (-12)), mk w I J)) else some (some (vi (-1)), mk w I J) := by
  obtain ⟨e, rfl⟩ : ∃ e, d = e + 1 := ⟨d - 1, by omega⟩
  rw [e_95]
  by_cases c1 : 1 ≤ n ∧ n ≤ 10
  · by_cases c2 : I (46 + 2 * i) 0 = -1
    · simp (disch := omega) only [b_95_0, b_95_5, b_95_8, b_95_15, b_95_18, b_95_20, b_95_33, b_95_36, b_95_38, b_95_46, b_95_49, b_95_58, b_95_77, b_95_80, b_95_89, b_95_92, b_95_95, b_95_132, b_95_135, b_95_138, b_95_144, sh_R _ _ _ hi, sh_T _ _ _ hi, s_131 _ _ _ _ _ _, s_133 _ _ _ _ _ _ _ _, s_60 _ _ _ _ _ hi _, nat_i, semK, Option.bind_some, mpush, wr_if, wr_tdiv, if_pos, if_neg, ↓reduceIte, b2_t, b2_f, Bool.false_eq_true, up2_ne, up2_sne, up2_s, true_or, or_true, true_and, and_true, false_and, and_false, false_or, or_false]
    · by_cases c3 : I (46 + 2 * i) 0 = 0
      · obtain ⟨m, hm, rfl⟩ := to_n (n := 11) (x := n) (by omega)
        have l := l_95 e w J i x m (I (46 + 2 * i) 2) hi hx (by omega) hz (by omega) m 0 I none none none (by omega) hr (by omega) rfl
        rw [show ((0 : Nat) : Int) = 0 from rfl] at l
        simp (disch := omega) only [b_95_0, b_95_5, b_95_8, b_95_15, b_95_18, b_95_20, b_95_33, b_95_36, b_95_38, b_95_46, b_95_49, b_95_58, b_95_77, b_95_80, b_95_89, b_95_92, b_95_95, b_95_132, b_95_135, b_95_138, b_95_144, sh_R _ _ _ hi, sh_T _ _ _ hi, s_131 _ _ _ _ _ _, s_133 _ _ _ _ _ _ _ _, s_60 _ _ _ _ _ hi _, nat_i, semK, Option.bind_some, mpush, wr_if, wr_tdiv, if_pos, if_neg, ↓reduceIte, b2_t, b2_f, Bool.false_eq_true, up2_ne, up2_sne, up2_s, true_or, or_true, true_and, and_true, false_and, and_false, false_or, or_false]
        exact l
      · simp (disch := omega) only [b_95_0, b_95_5, b_95_8, b_95_15, b_95_18, b_95_20, b_95_33, b_95_36, b_95_38, b_95_46, b_95_49, b_95_58, b_95_77, b_95_80, b_95_89, b_95_92, b_95_95, b_95_132, b_95_135, b_95_138, b_95_144, sh_R _ _ _ hi, sh_T _ _ _ hi, s_131 _ _ _ _ _ _, s_133 _ _ _ _ _ _ _ _, s_60 _ _ _ _ _ hi _, nat_i, semK, Option.bind_some, mpush, wr_if, wr_tdiv, if_pos, if_neg, ↓reduceIte, b2_t, b2_f, Bool.false_eq_true, up2_ne, up2_sne, up2_s, true_or, or_true, true_and, and_true, false_and, and_false, false_or, or_false]
  · simp (disch := omega) only [b_95_0, b_95_5, b_95_8, b_95_15, b_95_18, b_95_20, b_95_33, b_95_36, b_95_38, b_95_46, b_95_49, b_95_58, b_95_77, b_95_80, b_95_89, b_95_92, b_95_95, b_95_132, b_95_135, b_95_138, b_95_144, s_131 _ _ _ _ _ _, s_133 _ _ _ _ _ _ _ _, semK, Option.bind_some, mpush, wr_if, wr_tdiv, if_pos, if_neg, ↓reduceIte, b2_t, b2_f, Bool.false_eq_true, up2_ne, up2_sne, up2_s, true_or, or_true, true_and, and_true, false_and, and_false, false_or, or_false]
theorem s_95n (d : Nat) (w : Nat × Bool) (I J : Nat → Nat → Int) (s x n : Int) (hs : ¬ (0 ≤ s ∧ s < 6)) (hd : 4 ≤ d) : semC d 95 [vr 3, vi s, vi x, vi n] (mk w I J) = some (some (vi (-1)), mk w I J) := by
  obtain ⟨e, rfl⟩ : ∃ e, d = e + 1 := ⟨d - 1, by omega⟩
  rw [e_95]
  simp (disch := omega) only [b_95_0, b_95_5, b_95_8, b_95_15, b_95_18, b_95_20, b_95_33, b_95_36, b_95_38, b_95_46, b_95_49, b_95_58, b_95_77, b_95_80, b_95_89, b_95_92, b_95_95, b_95_132, b_95_135, b_95_138, b_95_144, s_131 _ _ _ _ _ _, semK, Option.bind_some, mpush, wr_if, wr_tdiv, if_pos, if_neg, ↓reduceIte, b2_t, b2_f, Bool.false_eq_true, up2_ne, up2_sne, up2_s, true_or, or_true, true_and, and_true, false_and, and_false, false_or, or_false]
theorem s_144 (d : Nat) (w : Nat × Bool) (I J : Nat → Nat → Int) (i : Nat) (x n : Int) (hi : i < 6) (hx : iR x) (hd : 3 ≤ d) (hr : rFM I) (hz : I 92 i = -2 → 0 ≤ I 93 i ∧ I 93 i ≤ 60) : semC d 144 [vr 58, vi (i : Int), vi x, vi n] (mk w I J) =
    if 1 ≤ n ∧ n ≤ 10 then (if I 92 i = -1 then some (some (vi 0), mk w I J) else if I 92 i = -2 then some (some (vi ((dkM (fun j => J 94 (60 * i + j)) (I 93 i) x n.toNat 0 I).1 : Nat)), mk w (dkM (fun j => J 94 (60 * i + j)) (I 93 i) x n.toNat 0 I).2 J)
      else some (some (vi (-12)), mk w I J)) else some (some (vi (-1)), mk w I J) := by
  obtain ⟨e, rfl⟩ : ∃ e, d = e + 1 := ⟨d - 1, by omega⟩
  rw [e_144]
  by_cases c1 : 1 ≤ n ∧ n ≤ 10
  · by_cases c2 : I 92 i = -1
    · simp (disch := omega) only [b_144_0, b_144_4, b_144_7, b_144_14, b_144_17, b_144_19, b_144_29, b_144_40, b_144_43, b_144_53, b_144_55, b_144_64, b_144_81, b_144_96, b_144_105, b_144_108, b_144_140, b_144_143, b_144_146, b_144_168, b_144_175, s_227 _ _ _ _ _ _, s_135 _ _ _ _ _ _ _ _, nat_i, semK, Option.bind_some, mpush, wr_if, wr_tdiv, if_pos, if_neg, ↓reduceIte, b2_t, b2_f, Bool.false_eq_true, up2_ne, up2_sne, up2_s, true_or, or_true, true_and, and_true, false_and, and_false, false_or, or_false]
    · by_cases c3 : I 92 i = -2
      · obtain ⟨m, hm, rfl⟩ := to_n (n := 11) (x := n) (by omega)
        have l := l_144 e w J i x m (I 93 i) hi hx (by omega) (hz c3) (by omega) m 0 I none none (by omega) hr rfl
        rw [show ((0 : Nat) : Int) = 0 from rfl] at l
        simp (disch := omega) only [b_144_0, b_144_4, b_144_7, b_144_14, b_144_17, b_144_19, b_144_29, b_144_40, b_144_43, b_144_53, b_144_55, b_144_64, b_144_81, b_144_96, b_144_105, b_144_108, b_144_140, b_144_143, b_144_146, b_144_168, b_144_175, s_227 _ _ _ _ _ _, s_135 _ _ _ _ _ _ _ _, nat_i, semK, Option.bind_some, mpush, wr_if, wr_tdiv, if_pos, if_neg, ↓reduceIte, b2_t, b2_f, Bool.false_eq_true, up2_ne, up2_sne, up2_s, true_or, or_true, true_and, and_true, false_and, and_false, false_or, or_false]
        exact l
      · simp (disch := omega) only [b_144_0, b_144_4, b_144_7, b_144_14, b_144_17, b_144_19, b_144_29, b_144_40, b_144_43, b_144_53, b_144_55, b_144_64, b_144_81, b_144_96, b_144_105, b_144_108, b_144_140, b_144_143, b_144_146, b_144_168, b_144_175, s_227 _ _ _ _ _ _, s_135 _ _ _ _ _ _ _ _, nat_i, semK, Option.bind_some, mpush, wr_if, wr_tdiv, if_pos, if_neg, ↓reduceIte, b2_t, b2_f, Bool.false_eq_true, up2_ne, up2_sne, up2_s, true_or, or_true, true_and, and_true, false_and, and_false, false_or, or_false]
  · simp (disch := omega) only [b_144_0, b_144_4, b_144_7, b_144_14, b_144_17, b_144_19, b_144_29, b_144_40, b_144_43, b_144_53, b_144_55, b_144_64, b_144_81, b_144_96, b_144_105, b_144_108, b_144_140, b_144_143, b_144_146, b_144_168, b_144_175, s_227 _ _ _ _ _ _, s_135 _ _ _ _ _ _ _ _, semK, Option.bind_some, mpush, wr_if, wr_tdiv, if_pos, if_neg, ↓reduceIte, b2_t, b2_f, Bool.false_eq_true, up2_ne, up2_sne, up2_s, true_or, or_true, true_and, and_true, false_and, and_false, false_or, or_false]
theorem s_144n (d : Nat) (w : Nat × Bool) (I J : Nat → Nat → Int) (s x n : Int) (hs : ¬ (0 ≤ s ∧ s < 6)) (hd : 3 ≤ d) : semC d 144 [vr 58, vi s, vi x, vi n] (mk w I J) = some (some (vi (-1)), mk w I J) := by
  obtain ⟨e, rfl⟩ : ∃ e, d = e + 1 := ⟨d - 1, by omega⟩
  rw [e_144]
  simp (disch := omega) only [b_144_0, b_144_4, b_144_7, b_144_14, b_144_17, b_144_19, b_144_29, b_144_40, b_144_43, b_144_53, b_144_55, b_144_64, b_144_81, b_144_96, b_144_105, b_144_108, b_144_140, b_144_143, b_144_146, b_144_168, b_144_175, s_227 _ _ _ _ _ _, semK, Option.bind_some, mpush, wr_if, wr_tdiv, if_pos, if_neg, ↓reduceIte, b2_t, b2_f, Bool.false_eq_true, up2_ne, up2_sne, up2_s, true_or, or_true, true_and, and_true, false_and, and_false, false_or, or_false]
