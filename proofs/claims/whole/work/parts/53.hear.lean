/-! level, hears, net, quiet, higher -/
def levelR (n : Int) (L : Int → Int → Int → Int) (voice q : Nat → Int) (x : Int) : Int :=
  if 0 ≤ x ∧ (0 ≤ x.tdiv 10 ∧ x.tdiv 10 < n) ∧ (0 ≤ x.tmod 10 ∧ x.tmod 10 < n) ∧ x.tdiv 10 ≠ x.tmod 10 then
    (if q (x.tdiv 10).toNat < 0 ∨ q (x.tmod 10).toNat < 0 then -2 else L (voice (x.tmod 10).toNat) (q (x.tdiv 10).toNat) (q (x.tmod 10).toNat)) else -1
theorem s_105 (d : Nat) (w : Nat × Bool) (I J : Nat → Nat → Int) (f : Int → Int → Int → Int → Int) (x : Int) (hd : 13 ≤ d) (hx : iR x) (hK : KC f w I) (hS : SC I) (hs : seR (I 16) (I 10 6).toNat) :
    ∃ I', semC d 105 [vr 3, vi x] (mk w I J) = some (some (vi (levelR (I 10 6) (Lc f I) (I 11) (I 16) x)), mk w I' J) ∧ eC I I' ∧ KC f w I' := by
  obtain ⟨e, rfl⟩ : ∃ e, d = e + 1 := ⟨d - 1, by omega⟩
  obtain ⟨hn, h11, h12, h23⟩ := id hS
  obtain ⟨hx1, hx2⟩ := id hx
  rw [e_105]
  unfold levelR
  by_cases c0 : 0 ≤ x
  · by_cases c1 : 0 ≤ x.tdiv 10 ∧ x.tdiv 10 < I 10 6
    · by_cases c2 : 0 ≤ x.tmod 10 ∧ x.tmod 10 < I 10 6
      · by_cases c3 : x.tdiv 10 = x.tmod 10
        · refine ⟨I, ?_, eC_r I, hK⟩
          simp (disch := omega) only [b_105_0, b_105_4, b_105_6, b_105_24, b_105_27, b_105_35, b_105_38, b_105_43, b_105_45, b_105_73, b_105_79, b_105_82, b_105_102, s_80 _ _ _ _ _ _, semK, Option.bind_some, mpush, wr_if, wr_tdiv, if_pos, if_neg, ↓reduceIte, b2_t, b2_f, Bool.false_eq_true, up2_ne, up2_sne, up2_s, true_or, or_true, true_and, and_true, false_and, and_false, false_or, or_false]
        · have q1 := hs (x.tdiv 10).toNat (by omega)
          have q2 := hs (x.tmod 10).toNat (by omega)
          rw [if_pos ⟨c0, c1, c2, c3⟩]
          by_cases c4 : I 16 (x.tdiv 10).toNat = -1
          · refine ⟨I, ?_, eC_r I, hK⟩
            simp (disch := omega) only [b_105_0, b_105_4, b_105_6, b_105_24, b_105_27, b_105_35, b_105_38, b_105_43, b_105_45, b_105_73, b_105_79, b_105_82, b_105_102, s_80 _ _ _ _ _ _, semK, Option.bind_some, mpush, wr_if, wr_tdiv, if_pos, if_neg, ↓reduceIte, b2_t, b2_f, Bool.false_eq_true, up2_ne, up2_sne, up2_s, true_or, or_true, true_and, and_true, false_and, and_false, false_or, or_false]
          · by_cases c5 : I 16 (x.tmod 10).toNat = -1
            · refine ⟨I, ?_, eC_r I, hK⟩
              simp (disch := omega) only [b_105_0, b_105_4, b_105_6, b_105_24, b_105_27, b_105_35, b_105_38, b_105_43, b_105_45, b_105_73, b_105_79, b_105_82, b_105_102, s_80 _ _ _ _ _ _, semK, Option.bind_some, mpush, wr_if, wr_tdiv, if_pos, if_neg, ↓reduceIte, b2_t, b2_f, Bool.false_eq_true, up2_ne, up2_sne, up2_s, true_or, or_true, true_and, and_true, false_and, and_false, false_or, or_false]
            · obtain ⟨I3, k1, k2, k3⟩ := s_72 e w I J f (I 11 (x.tmod 10).toNat) (I 16 (x.tdiv 10).toNat) (I 16 (x.tmod 10).toNat) (by omega) hK (h11 _) q1 q2
              refine ⟨I3, ?_, k2, k3⟩
              simp (disch := omega) only [b_105_0, b_105_4, b_105_6, b_105_24, b_105_27, b_105_35, b_105_38, b_105_43, b_105_45, b_105_73, b_105_79, b_105_82, b_105_102, s_80 _ _ _ _ _ _, semK, Option.bind_some, mpush, wr_if, wr_tdiv, if_pos, if_neg, ↓reduceIte, b2_t, b2_f, Bool.false_eq_true, up2_ne, up2_sne, up2_s, true_or, or_true, true_and, and_true, false_and, and_false, false_or, or_false, k1]
      · refine ⟨I, ?_, eC_r I, hK⟩
        simp (disch := omega) only [b_105_0, b_105_4, b_105_6, b_105_24, b_105_27, b_105_35, b_105_38, b_105_43, b_105_45, b_105_73, b_105_79, b_105_82, b_105_102, s_80 _ _ _ _ _ _, semK, Option.bind_some, mpush, wr_if, wr_tdiv, if_pos, if_neg, ↓reduceIte, b2_t, b2_f, Bool.false_eq_true, up2_ne, up2_sne, up2_s, true_or, or_true, true_and, and_true, false_and, and_false, false_or, or_false]
    · refine ⟨I, ?_, eC_r I, hK⟩
      simp (disch := omega) only [b_105_0, b_105_4, b_105_6, b_105_24, b_105_27, b_105_35, b_105_38, b_105_43, b_105_45, b_105_73, b_105_79, b_105_82, b_105_102, s_80 _ _ _ _ _ _, semK, Option.bind_some, mpush, wr_if, wr_tdiv, if_pos, if_neg, ↓reduceIte, b2_t, b2_f, Bool.false_eq_true, up2_ne, up2_sne, up2_s, true_or, or_true, true_and, and_true, false_and, and_false, false_or, or_false]
  · refine ⟨I, ?_, eC_r I, hK⟩
    simp (disch := omega) only [b_105_0, b_105_4, b_105_6, b_105_24, b_105_27, b_105_35, b_105_38, b_105_43, b_105_45, b_105_73, b_105_79, b_105_82, b_105_102, semK, Option.bind_some, mpush, wr_if, wr_tdiv, if_pos, if_neg, ↓reduceIte, b2_t, b2_f, Bool.false_eq_true, up2_ne, up2_sne, up2_s, true_or, or_true, true_and, and_true, false_and, and_false, false_or, or_false]
theorem s_182 (d : Nat) (w : Nat × Bool) (I J : Nat → Nat → Int) (f : Int → Int → Int → Int → Int) (x : Int) (hd : 13 ≤ d) (hx : iR x) (hK : KM f w I) (hS : SM I) :
    ∃ I', semC d 182 [vr 58, vi x] (mk w I J) = some (some (vi (levelR (I 58 10) (Lm f I) (I 64) (I 69) x)), mk w I' J) ∧ eM I I' := by
  obtain ⟨e, rfl⟩ : ∃ e, d = e + 1 := ⟨d - 1, by omega⟩
  obtain ⟨hn, h64, h65, hM, hs, hds⟩ := id hS
  obtain ⟨hx1, hx2⟩ := id hx
  rw [e_182]
  unfold levelR
  by_cases c0 : 0 ≤ x
  · by_cases c1 : 0 ≤ x.tdiv 10 ∧ x.tdiv 10 < I 58 10
    · by_cases c2 : 0 ≤ x.tmod 10 ∧ x.tmod 10 < I 58 10
      · by_cases c3 : x.tdiv 10 = x.tmod 10
        · refine ⟨I, ?_, eM_r I⟩
          simp (disch := omega) only [b_182_0, b_182_4, b_182_12, b_182_15, b_182_23, b_182_26, b_182_37, b_182_39, b_182_51, b_182_63, b_182_66, b_182_97, s_139 _ _ _ _ _ _ hn, semK, Option.bind_some, mpush, wr_if, wr_tdiv, if_pos, if_neg, ↓reduceIte, b2_t, b2_f, Bool.false_eq_true, up2_ne, up2_sne, up2_s, true_or, or_true, true_and, and_true, false_and, and_false, false_or, or_false]
        · have q1 := hs (x.tdiv 10).toNat (by omega)
          have q2 := hs (x.tmod 10).toNat (by omega)
          rw [if_pos ⟨c0, c1, c2, c3⟩]
          by_cases c4 : I 69 (x.tdiv 10).toNat < 0
          · refine ⟨I, ?_, eM_r I⟩
            simp (disch := omega) only [b_182_0, b_182_4, b_182_12, b_182_15, b_182_23, b_182_26, b_182_37, b_182_39, b_182_51, b_182_63, b_182_66, b_182_97, s_139 _ _ _ _ _ _ hn, semK, Option.bind_some, mpush, wr_if, wr_tdiv, if_pos, if_neg, ↓reduceIte, b2_t, b2_f, Bool.false_eq_true, up2_ne, up2_sne, up2_s, true_or, or_true, true_and, and_true, false_and, and_false, false_or, or_false]
          · by_cases c5 : I 69 (x.tmod 10).toNat < 0
            · refine ⟨I, ?_, eM_r I⟩
              simp (disch := omega) only [b_182_0, b_182_4, b_182_12, b_182_15, b_182_23, b_182_26, b_182_37, b_182_39, b_182_51, b_182_63, b_182_66, b_182_97, s_139 _ _ _ _ _ _ hn, semK, Option.bind_some, mpush, wr_if, wr_tdiv, if_pos, if_neg, ↓reduceIte, b2_t, b2_f, Bool.false_eq_true, up2_ne, up2_sne, up2_s, true_or, or_true, true_and, and_true, false_and, and_false, false_or, or_false]
            · have hne : I 69 (x.tmod 10).toNat ≠ I 69 (x.tdiv 10).toNat := fun h => by
                have := hds (x.tmod 10).toNat (x.tdiv 10).toNat (by omega) (by omega) (by omega) h
                omega
              obtain ⟨I3, k1, k2⟩ := s_180 e w I J f (I 64 (x.tmod 10).toNat) (I 69 (x.tmod 10).toNat) (I 69 (x.tdiv 10).toNat) (by omega) hK (h64 _) (by omega) (by omega) hne
              refine ⟨I3, ?_, k2⟩
              rw [if_neg (by omega), show Lm f I (I 64 (x.tmod 10).toNat) (I 69 (x.tdiv 10).toNat) (I 69 (x.tmod 10).toNat) = Lm f I (I 64 (x.tmod 10).toNat) (I 69 (x.tmod 10).toNat) (I 69 (x.tdiv 10).toNat) from LV_comm _ _ _ _ _ _ _ _ _ _ _]
              simp (disch := omega) only [b_182_0, b_182_4, b_182_12, b_182_15, b_182_23, b_182_26, b_182_37, b_182_39, b_182_51, b_182_63, b_182_66, b_182_97, s_139 _ _ _ _ _ _ hn, semK, Option.bind_some, mpush, wr_if, wr_tdiv, if_pos, if_neg, ↓reduceIte, b2_t, b2_f, Bool.false_eq_true, up2_ne, up2_sne, up2_s, true_or, or_true, true_and, and_true, false_and, and_false, false_or, or_false, k1]
      · refine ⟨I, ?_, eM_r I⟩
        simp (disch := omega) only [b_182_0, b_182_4, b_182_12, b_182_15, b_182_23, b_182_26, b_182_37, b_182_39, b_182_51, b_182_63, b_182_66, b_182_97, s_139 _ _ _ _ _ _ hn, semK, Option.bind_some, mpush, wr_if, wr_tdiv, if_pos, if_neg, ↓reduceIte, b2_t, b2_f, Bool.false_eq_true, up2_ne, up2_sne, up2_s, true_or, or_true, true_and, and_true, false_and, and_false, false_or, or_false]
    · refine ⟨I, ?_, eM_r I⟩
      simp (disch := omega) only [b_182_0, b_182_4, b_182_12, b_182_15, b_182_23, b_182_26, b_182_37, b_182_39, b_182_51, b_182_63, b_182_66, b_182_97, s_139 _ _ _ _ _ _ hn, semK, Option.bind_some, mpush, wr_if, wr_tdiv, if_pos, if_neg, ↓reduceIte, b2_t, b2_f, Bool.false_eq_true, up2_ne, up2_sne, up2_s, true_or, or_true, true_and, and_true, false_and, and_false, false_or, or_false]
  · refine ⟨I, ?_, eM_r I⟩
    simp (disch := omega) only [b_182_0, b_182_4, b_182_12, b_182_15, b_182_23, b_182_26, b_182_37, b_182_39, b_182_51, b_182_63, b_182_66, b_182_97, semK, Option.bind_some, mpush, wr_if, wr_tdiv, if_pos, if_neg, ↓reduceIte, b2_t, b2_f, Bool.false_eq_true, up2_ne, up2_sne, up2_s, true_or, or_true, true_and, and_true, false_and, and_false, false_or, or_false]
def hearsR (n : Int) (L : Int → Int → Int → Int) (M : Int) (needs mind voice q : Nat → Int) (i y : Int) : Int :=
  if (0 ≤ i ∧ i < n) ∧ 0 ≤ y ∧ y ≤ 2 then (if y = 0 then cb (clr L M voice q i.toNat) n.toNat else if y = 1 then mind i.toNat * lsum L M voice q (fun j => !nd needs i.toNat j) i.toNat n.toNat else 3 * lsum L M voice q (fun j => nd needs i.toNat j) i.toNat n.toNat) else -1
theorem mul_R2 {m s : Int} (hm : 0 ≤ m ∧ m ≤ 9) (hs : 0 ≤ s ∧ s ≤ 990) : 0 ≤ m * s ∧ m * s ≤ 8910 := by
  have g1 : 0 ≤ m * s := Int.mul_nonneg hm.1 hs.1
  have g2 : m * s ≤ 9 * s := Int.mul_le_mul_of_nonneg_right hm.2 hs.1
  omega
theorem s_106 (d : Nat) (w : Nat × Bool) (I J : Nat → Nat → Int) (f : Int → Int → Int → Int → Int) (i y : Int) (hd : 13 ≤ d) (hK : KC f w I) (hS : SC I) (hs : seR (I 16) (I 10 6).toNat) :
    ∃ I', semC d 106 [vr 3, vi i, vi y] (mk w I J) = some (some (vi (hearsR (I 10 6) (Lc f I) (I 23 3) (I 13) (I 12) (I 11) (I 16) i y)), mk w I' J) ∧ eC I I' ∧ KC f w I' := by
  obtain ⟨e, rfl⟩ : ∃ e, d = e + 1 := ⟨d - 1, by omega⟩
  obtain ⟨hn, h11, h12, h23⟩ := id hS
  rw [e_106]
  unfold hearsR
  by_cases c1 : 0 ≤ i ∧ i < I 10 6
  · obtain ⟨k, rfl⟩ : ∃ k : Nat, i = k := ⟨i.toNat, by omega⟩
    by_cases c2 : 0 ≤ y ∧ y ≤ 2
    · rw [if_pos ⟨c1, c2⟩, nat_i]
      have hk : k < (I 10 6).toNat := by omega
      by_cases c3 : y = 0
      · obtain ⟨I3, k1, k2, k3⟩ := s_75 e w I J f k (by omega) hK hS hk hs
        refine ⟨I3, ?_, k2, k3⟩
        simp (disch := omega) only [b_106_0, b_106_8, b_106_11, b_106_17, b_106_20, b_106_22, b_106_26, b_106_34, b_106_35, b_106_50, b_106_70, b_106_72, b_106_82, s_80 _ _ _ _ _ _, s_133 _ _ _ _ _ _ _ _, semK, Option.bind_some, mpush, wr_if, wr_tdiv, if_pos, if_neg, ↓reduceIte, b2_t, b2_f, Bool.false_eq_true, up2_ne, up2_sne, up2_s, true_or, or_true, true_and, and_true, false_and, and_false, false_or, or_false, k1, c3]
      · by_cases c4 : y = 1
        · obtain ⟨I3, k1, k2, k3⟩ := s_76 e w I J f k (ixor (I 13 k) (-1)) (by omega) hK hS hk hs
          refine ⟨I3, ?_, k2, k3⟩
          rw [lsum_ext (p' := fun j => !nd (I 13) k j) _ _ (by
            intro j
            unfold nd
            have := bit_not (I 13 k) j
            by_cases c : iand (ishr (I 13 k) j) 1 = 1
            · simp [c, this.2 c]
            · simp [c, this])] at k1
          have hR := lsum_R (voice := I 11) (q := I 16) (p := fun j => !nd (I 13) k j) (Lc_R f I) h23.1 k (I 10 6).toNat
          have hm := mul_R2 (h12 k) (s := lsum (Lc f I) (I 23 3) (I 11) (I 16) (fun j => !nd (I 13) k j) k (I 10 6).toNat) (by omega)
          subst c4
          simp (disch := omega) only [b_106_0, b_106_8, b_106_11, b_106_17, b_106_22, b_106_35, b_106_50, s_80 _ _ _ _ _ _, s_133 _ _ _ _ _ _ _ _, semK, Option.bind_some, mpush, if_pos, if_neg, ↓reduceIte, nat_i, k1, b_106_70, wr_if]
        · obtain ⟨I3, k1, k2, k3⟩ := s_76 e w I J f k (I 13 k) (by omega) hK hS hk hs
          refine ⟨I3, ?_, k2, k3⟩
          rw [lsum_ext (p' := fun j => nd (I 13) k j) _ _ (by
            intro j
            unfold nd
            rcases bit_or (I 13 k) j with c | c <;> simp [c])] at k1
          have hR := lsum_R (voice := I 11) (q := I 16) (p := fun j => nd (I 13) k j) (Lc_R f I) h23.1 k (I 10 6).toNat
          simp (disch := omega) only [b_106_0, b_106_8, b_106_11, b_106_17, b_106_22, b_106_35, b_106_72, s_80 _ _ _ _ _ _, s_133 _ _ _ _ _ _ _ _, semK, Option.bind_some, mpush, if_pos, if_neg, ↓reduceIte, nat_i, k1, b_106_82, wr_if]
    · refine ⟨I, ?_, eC_r I, hK⟩
      simp (disch := omega) only [b_106_0, b_106_8, b_106_11, b_106_17, b_106_20, b_106_22, b_106_26, b_106_34, b_106_35, b_106_50, b_106_70, b_106_72, b_106_82, s_80 _ _ _ _ _ _, s_133 _ _ _ _ _ _ _ _, semK, Option.bind_some, mpush, wr_if, wr_tdiv, if_pos, if_neg, ↓reduceIte, b2_t, b2_f, Bool.false_eq_true, up2_ne, up2_sne, up2_s, true_or, or_true, true_and, and_true, false_and, and_false, false_or, or_false]
  · refine ⟨I, ?_, eC_r I, hK⟩
    simp (disch := omega) only [b_106_0, b_106_8, b_106_11, b_106_17, b_106_20, b_106_22, b_106_26, b_106_34, b_106_35, b_106_50, b_106_70, b_106_72, b_106_82, s_80 _ _ _ _ _ _, semK, Option.bind_some, mpush, wr_if, wr_tdiv, if_pos, if_neg, ↓reduceIte, b2_t, b2_f, Bool.false_eq_true, up2_ne, up2_sne, up2_s, true_or, or_true, true_and, and_true, false_and, and_false, false_or, or_false]
theorem s_187 (d : Nat) (w : Nat × Bool) (I J : Nat → Nat → Int) (f : Int → Int → Int → Int → Int) (i y : Int) (hd : 14 ≤ d) (hK : KM f w I) (hS : SM I) :
    ∃ I', semC d 187 [vr 58, vi i, vi y] (mk w I J) = some (some (vi (hearsR (I 58 10) (Lm f I) (I 58 17) (I 66) (I 65) (I 64) (I 69) i y)), mk w I' J) ∧ eM I I' := by
  obtain ⟨e, rfl⟩ : ∃ e, d = e + 1 := ⟨d - 1, by omega⟩
  obtain ⟨hn, h64, h65, hM, hs, hds⟩ := id hS
  rw [e_187]
  unfold hearsR
  by_cases c1 : 0 ≤ i ∧ i < I 58 10
  · obtain ⟨k, rfl⟩ : ∃ k : Nat, i = k := ⟨i.toNat, by omega⟩
    by_cases c2 : 0 ≤ y ∧ y ≤ 2
    · rw [if_pos ⟨c1, c2⟩, nat_i]
      have hk : k < (I 58 10).toNat := by omega
      by_cases c3 : y = 0
      · obtain ⟨I3, k1, k2⟩ := s_186 e w I J f k (by omega) hK (SM_i hS hk) hk
        refine ⟨I3, ?_, k2⟩
        simp (disch := omega) only [b_187_0, b_187_5, b_187_8, b_187_14, b_187_17, b_187_19, b_187_23, b_187_28, b_187_31, b_187_36, b_187_41, b_187_44, b_187_49, s_139 _ _ _ _ _ _ hn, s_135 _ _ _ _ _ _ _ _, semK, Option.bind_some, mpush, wr_if, wr_tdiv, if_pos, if_neg, ↓reduceIte, b2_t, b2_f, Bool.false_eq_true, up2_ne, up2_sne, up2_s, true_or, or_true, true_and, and_true, false_and, and_false, false_or, or_false, k1, c3]
      · by_cases c4 : y = 1
        · obtain ⟨I3, k1, k2⟩ := s_184 e w I J f k (by omega) hK (SM_i hS hk) hk
          refine ⟨I3, ?_, k2⟩
          simp (disch := omega) only [b_187_0, b_187_5, b_187_8, b_187_14, b_187_17, b_187_19, b_187_23, b_187_28, b_187_31, b_187_36, b_187_41, b_187_44, b_187_49, s_139 _ _ _ _ _ _ hn, s_135 _ _ _ _ _ _ _ _, semK, Option.bind_some, mpush, wr_if, wr_tdiv, if_pos, if_neg, ↓reduceIte, b2_t, b2_f, Bool.false_eq_true, up2_ne, up2_sne, up2_s, true_or, or_true, true_and, and_true, false_and, and_false, false_or, or_false, k1, c3, c4]
        · obtain ⟨I3, k1, k2⟩ := s_185 e w I J f k (by omega) hK (SM_i hS hk) hk
          refine ⟨I3, ?_, k2⟩
          simp (disch := omega) only [b_187_0, b_187_5, b_187_8, b_187_14, b_187_17, b_187_19, b_187_23, b_187_28, b_187_31, b_187_36, b_187_41, b_187_44, b_187_49, s_139 _ _ _ _ _ _ hn, s_135 _ _ _ _ _ _ _ _, semK, Option.bind_some, mpush, wr_if, wr_tdiv, if_pos, if_neg, ↓reduceIte, b2_t, b2_f, Bool.false_eq_true, up2_ne, up2_sne, up2_s, true_or, or_true, true_and, and_true, false_and, and_false, false_or, or_false, k1, c3, c4]
    · refine ⟨I, ?_, eM_r I⟩
      simp (disch := omega) only [b_187_0, b_187_5, b_187_8, b_187_14, b_187_17, b_187_19, b_187_23, b_187_28, b_187_31, b_187_36, b_187_41, b_187_44, b_187_49, s_139 _ _ _ _ _ _ hn, s_135 _ _ _ _ _ _ _ _, semK, Option.bind_some, mpush, wr_if, wr_tdiv, if_pos, if_neg, ↓reduceIte, b2_t, b2_f, Bool.false_eq_true, up2_ne, up2_sne, up2_s, true_or, or_true, true_and, and_true, false_and, and_false, false_or, or_false]
  · refine ⟨I, ?_, eM_r I⟩
    simp (disch := omega) only [b_187_0, b_187_5, b_187_8, b_187_14, b_187_17, b_187_19, b_187_23, b_187_28, b_187_31, b_187_36, b_187_41, b_187_44, b_187_49, s_139 _ _ _ _ _ _ hn, semK, Option.bind_some, mpush, wr_if, wr_tdiv, if_pos, if_neg, ↓reduceIte, b2_t, b2_f, Bool.false_eq_true, up2_ne, up2_sne, up2_s, true_or, or_true, true_and, and_true, false_and, and_false, false_or, or_false]
theorem s_107 (d : Nat) (w : Nat × Bool) (I J : Nat → Nat → Int) (f : Int → Int → Int → Int → Int) (hd : 14 ≤ d) (hK : KC f w I) (hS : SC I) (hs : seR (I 16) (I 10 6).toNat) :
    ∃ I', semC d 107 [vr 3] (mk w I J) = some (some (vi (nt (Lc f I) (I 23 3) (I 13) (I 12) (I 11) (I 16) (I 10 6).toNat)), mk w I' J) ∧ eC I I' ∧ KC f w I' := by
  obtain ⟨e, rfl⟩ : ∃ e, d = e + 1 := ⟨d - 1, by omega⟩
  obtain ⟨I3, k1, k2, k3⟩ := s_74 e w I J f 16 (by omega) hK hS (Or.inl rfl) hs
  refine ⟨I3, ?_, k2, k3⟩
  rw [e_107, b_107_0, semK_of k1]
  simp only [mpush]
  rw [b_107_14]
theorem s_189 (d : Nat) (w : Nat × Bool) (I J : Nat → Nat → Int) (f : Int → Int → Int → Int → Int) (hd : 15 ≤ d) (hK : KM f w I) (hS : SM I) :
    ∃ I', semC d 189 [vr 58] (mk w I J) = some (some (vi (nt (Lm f I) (I 58 17) (I 66) (I 65) (I 64) (I 69) (I 58 10).toNat)), mk w I' J) ∧ eM I I' := by
  obtain ⟨e, rfl⟩ : ∃ e, d = e + 1 := ⟨d - 1, by omega⟩
  obtain ⟨I3, k1, k2⟩ := s_188 e w I J f (by omega) hK hS
  refine ⟨I3, ?_, k2⟩
  rw [e_189, b_189_0, semK_of k1]
  simp only [mpush]
  rw [b_189_4]
def quietR (ld x : Int) : Int := if 0 ≤ x ∧ x ≤ 40 then (if ld ≤ 60 then ld else -2) else -1
theorem s_108 (d : Nat) (w : Nat × Bool) (I J : Nat → Nat → Int) (f : Int → Int → Int → Int → Int) (x : Int) (hd : 13 ≤ d) (hK : KC f w I) (hS : SC I) (hs : seR (I 16) (I 10 6).toNat) :
    ∃ I', semC d 108 [vr 3, vi x] (mk w I J) = some (some (vi (quietR (ldO (Lc f I) (fun a b => farI (I 5) (I 6) a.toNat b.toNat) (I 11) (I 16) x (I 10 6).toNat (I 10 6).toNat) x)), mk w I' J) ∧ eC I I' ∧ KC f w I' := by
  obtain ⟨e, rfl⟩ : ∃ e, d = e + 1 := ⟨d - 1, by omega⟩
  rw [e_108]
  unfold quietR
  by_cases c : 0 ≤ x ∧ x ≤ 40
  · obtain ⟨I3, k1, k2, k3⟩ := s_77 e w I J f x (by omega) c.1 hK hS hs
    refine ⟨I3, ?_, k2, k3⟩
    generalize ldO (Lc f I) (fun a b => farI (I 5) (I 6) a.toNat b.toNat) (I 11) (I 16) x (I 10 6).toNat (I 10 6).toNat = z at k1
    by_cases c2 : z ≤ 60
    · simp (disch := omega) only [b_108_0, b_108_7, b_108_10, b_108_12, b_108_20, b_108_27, b_108_31, b_108_33, s_133 _ _ _ _ _ _ _ _, semK, Option.bind_some, mpush, wr_if, wr_tdiv, if_pos, if_neg, ↓reduceIte, b2_t, b2_f, Bool.false_eq_true, up2_ne, up2_sne, up2_s, true_or, or_true, true_and, and_true, false_and, and_false, false_or, or_false, k1]
    · simp (disch := omega) only [b_108_0, b_108_7, b_108_10, b_108_12, b_108_20, b_108_27, b_108_31, b_108_33, s_133 _ _ _ _ _ _ _ _, semK, Option.bind_some, mpush, wr_if, wr_tdiv, if_pos, if_neg, ↓reduceIte, b2_t, b2_f, Bool.false_eq_true, up2_ne, up2_sne, up2_s, true_or, or_true, true_and, and_true, false_and, and_false, false_or, or_false, k1]
  · refine ⟨I, ?_, eC_r I, hK⟩
    simp (disch := omega) only [b_108_0, b_108_7, b_108_10, b_108_12, b_108_20, b_108_27, b_108_31, b_108_33, s_133 _ _ _ _ _ _ _ _, semK, Option.bind_some, mpush, wr_if, wr_tdiv, if_pos, if_neg, ↓reduceIte, b2_t, b2_f, Bool.false_eq_true, up2_ne, up2_sne, up2_s, true_or, or_true, true_and, and_true, false_and, and_false, false_or, or_false]
/-- the same heap but for the mask -/
def eMk (I I' : Nat → Nat → Int) : Prop := (∀ c, c ≠ 58 → c ≠ 80 → c ≠ 81 → I' c = I c) ∧ ∀ k, k ≠ 17 → I' 58 k = I 58 k
theorem s_191 (d : Nat) (w : Nat × Bool) (I J : Nat → Nat → Int) (f : Int → Int → Int → Int → Int) (x : Int) (hd : 14 ≤ d) (hK : KM f w I) (hS : SM I) :
    ∃ I', semC d 191 [vr 58, vi x] (mk w I J) = some (some (vi (quietR (ldO (Lm f I) (fun a b => farI (I 59) (I 60) a.toNat b.toNat) (I 64) (I 69) x (I 58 10).toNat (I 58 10).toNat) x)), mk w I' J) ∧ eM I I' := by
  obtain ⟨e, rfl⟩ : ∃ e, d = e + 1 := ⟨d - 1, by omega⟩
  obtain ⟨hn, h64, h65, hM, hs, hds⟩ := id hS
  rw [e_191]
  by_cases c : 0 ≤ x ∧ x ≤ 40
  · rw [b_191_0, semK_of (s_135 _ _ _ _ _ _ _ (by omega)), if_pos c]
    simp only [mpush]
    rw [b_191_7, if_neg (by omega), b_191_12]
    unfold quietR
    rw [if_pos c]
    have hz0 := (ldO_le (Lm f I) (fun a b => farI (I 59) (I 60) a.toNat b.toNat) (I 64) (I 69) x (I 58 10).toNat (-1) (I 58 10).toNat)
    generalize hz : ldO (Lm f I) (fun a b => farI (I 59) (I 60) a.toNat b.toNat) (I 64) (I 69) x (I 58 10).toNat (I 58 10).toNat = z at hz0
    have hz1 : 0 ≤ z := by
      by_cases q : z ≤ -1
      · have := (hz0.1 q).1; omega
      · omega
    have hfin : ∀ (b : Nat → Nat → Int) (y u : Int), eMk I b → ∃ I', Sem e 191 57 [some (vr 58), some (vi x), some (vi (I 58 17)), some (vi y), some (vi u)] [] (mk w b J) = some (some (vi y), mk w I' J) ∧ eM I I' := by
      intro b y u hb
      rw [b_191_57]
      refine ⟨_, rfl, ?_⟩
      intro cc h1 h2
      by_cases q : cc = 58
      · subst q
        funext k
        by_cases q2 : k = 17
        · subst q2; rw [up2_s]
        · rw [up2_sne _ _ _ q2, hb.2 k q2]
      · rw [up2_ne _ _ _ q, hb.1 cc q h1 h2]
    refine lpQ (fun (m : Nat) (b : Nat → Nat → Int) => Sem e 191 23 [some (vr 58), some (vi x), some (vi (I 58 17)), some (vi (-2)), some (vi (m : Int))] [] (mk w b J)) (fun m b => eMk I b ∧ (m : Int) ≤ z) (fun o => ∃ I', o = some (some (vi (if z ≤ 60 then z else -2)), mk w I' J) ∧ eM I I') 61 ?_ ?_ I ⟨⟨fun _ _ _ _ => rfl, fun _ _ => rfl⟩, by omega⟩
    · rintro m b hm ⟨hb, hmz⟩
      try dsimp only at hb hmz ⊢
      rw [b_191_23, if_neg (by omega), b_191_30, if_pos (by omega), b_191_34]
      have h58 : ∀ k, k ≠ 17 → up2 b 58 17 (m : Int) 58 k = I 58 k := fun k hk => by rw [up2_sne _ _ _ hk, hb.2 k hk]
      have hro : ∀ c, c ≠ 58 → c ≠ 80 → c ≠ 81 → up2 b 58 17 (m : Int) c = I c := fun c h1 h2 h3 => by rw [up2_ne _ _ _ h1, hb.1 c h1 h2 h3]
      have hK' : KM f w (up2 b 58 17 (m : Int)) := KM_x hK (h58 3 (by omega)) (h58 6 (by omega)) (h58 18 (by omega)) (h58 39 (by omega)) (hro 59 (by omega) (by omega) (by omega)) (hro 60 (by omega) (by omega) (by omega)) (by rw [hro 63 (by omega) (by omega) (by omega)]; exact hK.1.2.2.2.2.1) (fun c h1 h2 => hro c (by omega) (by omega) (by omega))
      have hS' : SM (up2 b 58 17 (m : Int)) := by
        unfold SM
        rw [h58 10 (by omega), hro 64 (by omega) (by omega) (by omega), hro 65 (by omega) (by omega) (by omega), hro 69 (by omega) (by omega) (by omega), up2_s]
        exact ⟨hn, h64, h65, by omega, hs, hds⟩
      obtain ⟨I3, k1, k2⟩ := s_190 e w (up2 b 58 17 (m : Int)) J f x (by omega) hK' hS'
      have hL : Lm f (up2 b 58 17 (m : Int)) = Lm f I := by
        unfold Lm
        rw [hro 59 (by omega) (by omega) (by omega), hro 60 (by omega) (by omega) (by omega), hro 61 (by omega) (by omega) (by omega), hro 62 (by omega) (by omega) (by omega), hro 63 (by omega) (by omega) (by omega), h58 6 (by omega), h58 18 (by omega)]
      rw [hL, h58 10 (by omega), hro 59 (by omega) (by omega) (by omega), hro 60 (by omega) (by omega) (by omega), hro 64 (by omega) (by omega) (by omega), hro 69 (by omega) (by omega) (by omega), up2_s, hz] at k1
      have hb3 : eMk I I3 := by
        refine ⟨fun c h1 h2 h3 => ?_, fun k hk => ?_⟩
        · rw [k2 c h2 h3, hro c h1 h2 h3]
        · rw [k2 58 (by omega) (by omega), h58 k hk]
      rw [semK_of k1]
      simp only [mpush]
      rw [b_191_45]
      by_cases q : z ≤ m
      · right
        rw [if_pos q, if_neg (by omega), b_191_48, b_191_51, b_191_23]
        obtain ⟨I4, k3, k4⟩ := hfin I3 m (wr ((m : Int) + 1)) hb3
        refine ⟨I4, ?_, k4⟩
        have hzm : z = m := by omega
        by_cases q2 : (60 : Int) < wr ((m : Int) + 1)
        · rw [if_pos q2, k3, if_pos (by omega), hzm]
        · rw [if_neg q2, b_191_30, if_neg (by omega), k3, if_pos (by omega), hzm]
      · left
        rw [if_neg q, if_pos rfl, b_191_51, wr_n1 (by omega)]
        exact ⟨I3, rfl, hb3, by omega⟩
    · rintro b ⟨hb, hmz⟩
      try dsimp only at hb hmz ⊢
      rw [b_191_23, if_pos (by omega)]
      obtain ⟨I4, k3, k4⟩ := hfin b (-2) _ hb
      exact ⟨I4, by rw [k3, if_neg (by omega)], k4⟩
  · refine ⟨I, ?_, eM_r I⟩
    unfold quietR
    simp (disch := omega) only [b_191_0, b_191_7, b_191_10, s_135 _ _ _ _ _ _ _ _, semK, Option.bind_some, mpush, wr_if, wr_tdiv, if_pos, if_neg, ↓reduceIte, b2_t, b2_f, Bool.false_eq_true, up2_ne, up2_sne, up2_s, true_or, or_true, true_and, and_true, false_and, and_false, false_or, or_false]
