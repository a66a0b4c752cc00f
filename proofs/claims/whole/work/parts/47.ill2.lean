/-! ill, second half -/
theorem ab_comm (x y : Int) : ab (x - y) = ab (y - x) := by unfold ab; split <;> split <;> omega
theorem farI_comm (dx dy : Nat → Int) (a b : Nat) : farI dx dy a b = farI dx dy b a := by unfold farI; rw [ab_comm (dx a), ab_comm (dy a)]
theorem cnt_s (f : Nat → Int) (n : Nat) : cnt f (n + 1) = if f n = -1 then cnt f n else cnt f n + 1 := rfl
theorem mx_s (f : Nat → Int) (n : Nat) : mx f (n + 1) = if mx f n < f n then f n else mx f n := rfl
theorem ex_s (p : Nat → Bool) (n : Nat) : ex p (n + 1) = (ex p n || p n) := rfl
theorem FF_s (E : Nat → Nat → Bool) (n who t j : Nat) : FF E n who (t + 1) j = FH E n who t n j := rfl
theorem FH_0 (E : Nat → Nat → Bool) (n who t j : Nat) : FH E n who t 0 j = FF E n who t j := by unfold FH ex; split <;> simp_all
theorem s_31r (d : Nat) (w : Nat × Bool) (I J : Nat → Nat → Int) (r : Nat → Int) (k : Nat) (R t : Int) (hd : 2 ≤ d) (hn : 0 ≤ I 10 6 ∧ I 10 6 ≤ 10) (hk : k < (I 10 6).toNat) (hs : seR (I 16) (I 10 6).toNat) (h5 : pos (I 5)) (h6 : pos (I 6)) (hr : r k = t) (ht : 0 ≤ t ∧ t ≤ 100) :
    ∃ r', semC d 31 [vr 35, vi k, vi R] (mk w (sr I 36 r) J) = some (none, mk w (sr I 36 r') J) ∧ ∀ j, j < (I 10 6).toNat → r' j = if r j = -1 ∧ nbr (I 16) (I 5) (I 6) R k j = true then t + 1 else r j := by
  have h := s_31 d w (sr I 36 r) J k R t hd (by rw [sr_ne _ _ (by omega)]; exact hn) (by rw [sr_ne _ _ (by omega)]; exact hk) (by simp only [sr_ne _ _ (show (10 : Nat) ≠ 36 by omega), sr_ne _ _ (show (16 : Nat) ≠ 36 by omega)]; exact hs) (by rw [sr_ne _ _ (by omega)]; exact h5) (by rw [sr_ne _ _ (by omega)]; exact h6) (by rw [sr_s]; exact hr) ht
  simp only [sr_ne _ _ (show (10 : Nat) ≠ 36 by omega), sr_ne _ _ (show (16 : Nat) ≠ 36 by omega), sr_ne _ _ (show (5 : Nat) ≠ 36 by omega), sr_ne _ _ (show (6 : Nat) ≠ 36 by omega), sr_s, sr_sr] at h
  exact h
theorem s_30 (d : Nat) (w : Nat × Bool) (I J : Nat → Nat → Int) (k : Nat) (R : Int) (hd : 3 ≤ d) (hn : 0 ≤ I 10 6 ∧ I 10 6 ≤ 10) (hk : k < (I 10 6).toNat) (hs : seR (I 16) (I 10 6).toNat) (h5 : pos (I 5)) (h6 : pos (I 6)) :
    ∃ r, semC d 30 [vr 35, vi k, vi R] (mk w I J) = some (none, mk w (sr I 36 r) J) ∧ ∀ j, j < (I 10 6).toNat → r j = FF (nbr (I 16) (I 5) (I 6) R) (I 10 6).toNat k 10 j := by
  obtain ⟨e, rfl⟩ : ∃ e, d = e + 1 := ⟨d - 1, by omega⟩
  rw [e_30, b_30_0]
  have e1 : ((I 10 6).toNat : Int) = I 10 6 := Int.toNat_of_nonneg hn.1
  have s10 : ∀ r, sr I 36 r 10 = I 10 := fun r => sr_ne _ _ (by omega)
  obtain ⟨r0, l1, l2⟩ := lpE (fun (u : Nat) (r : Nat → Int) => Sem e 30 2 [some (vr 35), some (vi k), some (vi R), some (vi (u : Int)), none] [] (mk w (sr I 36 r) J)) (fun u r => ∀ j, j < u → r j = -1) (I 10 6).toNat (by
    intro u r hu hP
    have hu' := nat_lt hu
    refine ⟨rs r u (-1), ?_, ?_⟩
    · try dsimp only
      rw [b_30_2, s10, if_pos (by omega), b_30_13, if_pos (by omega), nat_i, sr_up, wr_n1 (by omega)]
    · intro j hj
      rw [rs_at]
      split
      · rfl
      · exact hP j (by omega)) (I 36) (by intro j hj; omega)
  try dsimp only at l1
  rw [sr_self, e1, show ((0 : Nat) : Int) = 0 from rfl] at l1
  rw [l1.trans (show _ = _ by rw [b_30_2, s10, if_neg (by omega), b_30_26, if_pos (by omega), nat_i, sr_up])]
  obtain ⟨⟨r, v⟩, m1, m2⟩ := lpE (fun (t : Nat) (b : (Nat → Int) × Option mVal) => Sem e 30 35 [some (vr 35), some (vi k), some (vi R), some (vi (t : Int)), b.2] [] (mk w (sr I 36 b.1) J)) (fun t b => ∀ j, j < (I 10 6).toNat → b.1 j = FF (nbr (I 16) (I 5) (I 6) R) (I 10 6).toNat k t j) 10 (by
    rintro t ⟨r, v⟩ ht hP
    try dsimp only at hP ⊢
    rw [b_30_35, if_pos (by omega), b_30_41]
    obtain ⟨r', q1, q2⟩ := lpE (fun (u : Nat) (r : Nat → Int) => Sem e 30 44 [some (vr 35), some (vi k), some (vi R), some (vi (t : Int)), some (vi (u : Int))] [] (mk w (sr I 36 r) J)) (fun u r => ∀ j, j < (I 10 6).toNat → r j = FH (nbr (I 16) (I 5) (I 6) R) (I 10 6).toNat k t u j) (I 10 6).toNat (by
      intro u r hu hP
      have hu' := nat_lt hu
      try dsimp only
      rw [b_30_44, s10, if_pos (by omega), b_30_56, if_pos (by omega), nat_i, sr_s]
      have hF := FF_R (nbr (I 16) (I 5) (I 6) R) (I 10 6).toNat k t u
      have hiff : r u = t ↔ FF (nbr (I 16) (I 5) (I 6) R) (I 10 6).toNat k t u = t := by
        rw [hP u hu]
        unfold FH
        split
        · exact Iff.rfl
        · split <;> constructor <;> intro h <;> omega
      by_cases c : r u = t
      · rw [if_pos c, b_30_67]
        obtain ⟨r', p1, p2⟩ := s_31r e w I J r u R t (by omega) hn hu hs h5 h6 c (by omega)
        rw [semK_of p1]
        simp only [mpush]
        rw [b_30_74, wr_n1 (by omega)]
        refine ⟨r', rfl, ?_⟩
        intro j hj
        have c' := hiff.1 c
        rw [p2 j hj, hP j hj]
        unfold FH
        rw [ex_s, decide_eq_true c', Bool.true_and]
        by_cases d1 : FF (nbr (I 16) (I 5) (I 6) R) (I 10 6).toNat k t j ≠ -1
        · simp only [if_pos d1]
          rw [if_neg (by simp [d1])]
        · simp only [if_neg d1]
          cases d2 : ex (fun k' => decide (FF (nbr (I 16) (I 5) (I 6) R) (I 10 6).toNat k t k' = t) && nbr (I 16) (I 5) (I 6) R k' j) u
          · cases d3 : nbr (I 16) (I 5) (I 6) R u j <;> simp
          · simp
      · rw [if_neg c, b_30_74, wr_n1 (by omega)]
        refine ⟨r, rfl, ?_⟩
        intro j hj
        have c' : ¬ FF (nbr (I 16) (I 5) (I 6) R) (I 10 6).toNat k t u = t := fun h => c (hiff.2 h)
        rw [hP j hj]
        unfold FH
        rw [ex_s, decide_eq_false c', Bool.false_and, Bool.or_false]) r (by intro j hj; rw [FH_0]; exact hP j hj)
    try dsimp only at q1
    rw [e1] at q1
    refine ⟨(r', some (vi (I 10 6))), q1.trans ?_, ?_⟩
    · rw [b_30_44, s10, if_neg (by omega), b_30_80, wr_n1 (by omega)]
    · intro j hj
      exact (q2 j hj).trans rfl) (rs r0 k 0, none) (by
    intro j hj
    try dsimp only
    rw [rs_at]
    unfold FF
    split
    · rfl
    · exact l2 j (by omega))
  refine ⟨r, m1.trans ?_, fun j hj => m2 j hj⟩
  try dsimp only
  rw [b_30_35, if_neg (by omega), b_30_86]
theorem s_32 (d : Nat) (w : Nat × Bool) (I J : Nat → Nat → Int) (hd : 1 ≤ d) (hn : 0 ≤ I 10 6 ∧ I 10 6 ≤ 10) : semC d 32 [vr 35] (mk w I J) = some (some (vi (cnt (I 36) (I 10 6).toNat)), mk w I J) := by
  obtain ⟨e, rfl⟩ : ∃ e, d = e + 1 := ⟨d - 1, by omega⟩
  rw [e_32, b_32_0]
  have e1 : ((I 10 6).toNat : Int) = I 10 6 := Int.toNat_of_nonneg hn.1
  obtain ⟨-, l1, -⟩ := lpE (fun (u : Nat) (r : Unit) => Sem e 32 4 [some (vr 35), some (vi (cnt (I 36) u)), some (vi (u : Int))] [] (mk w I J)) (fun u r => True) (I 10 6).toNat (by
    intro u r hu hP
    have hu' := nat_lt hu
    have g := cnt_R (I 36) u
    refine ⟨(), ?_, trivial⟩
    try dsimp only
    rw [b_32_4, if_pos (by omega), b_32_15, if_pos (by omega), nat_i, cnt_s]
    split
    · rw [b_32_28, wr_n1 (by omega)]
    · rw [b_32_25, b_32_28, wr_n1 (by omega), wr_if (by omega)]) () trivial
  try dsimp only at l1
  rw [e1] at l1
  refine l1.trans ?_
  rw [b_32_4, if_neg (by omega), b_32_34]
theorem s_33 (d : Nat) (w : Nat × Bool) (I J : Nat → Nat → Int) (hd : 1 ≤ d) (hn : 0 ≤ I 10 6 ∧ I 10 6 ≤ 10) : semC d 33 [vr 35] (mk w I J) = some (some (vi (mx (I 36) (I 10 6).toNat)), mk w I J) := by
  obtain ⟨e, rfl⟩ : ∃ e, d = e + 1 := ⟨d - 1, by omega⟩
  rw [e_33, b_33_0]
  have e1 : ((I 10 6).toNat : Int) = I 10 6 := Int.toNat_of_nonneg hn.1
  obtain ⟨-, l1, -⟩ := lpE (fun (u : Nat) (r : Unit) => Sem e 33 4 [some (vr 35), some (vi (mx (I 36) u)), some (vi (u : Int))] [] (mk w I J)) (fun u r => True) (I 10 6).toNat (by
    intro u r hu hP
    have hu' := nat_lt hu
    refine ⟨(), ?_, trivial⟩
    try dsimp only
    rw [b_33_4, if_pos (by omega), b_33_15, if_pos (by omega), nat_i, wr_n1 (by omega)]
    rfl) () trivial
  try dsimp only at l1
  rw [e1] at l1
  refine l1.trans ?_
  rw [b_33_4, if_neg (by omega), b_33_32]
/-- what 'ill' answers -/
def illR (n : Int) (seat dx dy : Nat → Int) (who x y : Int) : Int :=
  if (0 ≤ who ∧ who < n) ∧ 0 ≤ x ∧ (0 ≤ y ∧ y ≤ 1) ∧ x.tdiv 10 ≤ 40 ∧ 1 ≤ x.tmod 10 then
    (if y = 0 then cnt (FF (nbr seat dx dy (x.tdiv 10)) n.toNat who.toNat 10) n.toNat else mx (FF (nbr seat dx dy (x.tdiv 10)) n.toNat who.toNat 10) n.toNat + x.tmod 10 - 1)
  else -1
theorem s_118 (d : Nat) (w : Nat × Bool) (I J : Nat → Nat → Int) (a x y : Int) (hd : 4 ≤ d) (hx : iR x) (hn : 0 ≤ I 10 6 ∧ I 10 6 ≤ 10) (hs : seR (I 16) (I 10 6).toNat) (h5 : pos (I 5)) (h6 : pos (I 6)) :
    ∃ r, semC d 118 [vr 3, vi a, vi x, vi y] (mk w I J) = some (some (vi (illR (I 10 6) (I 16) (I 5) (I 6) a x y)), mk w (sr I 36 r) J) := by
  obtain ⟨e, rfl⟩ : ∃ e, d = e + 1 := ⟨d - 1, by omega⟩
  rw [e_118]
  obtain ⟨hx1, hx2⟩ := id hx
  unfold illR
  by_cases c1 : 0 ≤ a ∧ a < I 10 6
  · by_cases c2 : 0 ≤ x
    · by_cases c3 : 0 ≤ y ∧ y ≤ 1
      · by_cases c4 : x.tdiv 10 ≤ 40
        · by_cases c5 : 1 ≤ x.tmod 10
          · rw [if_pos ⟨c1, c2, c3, c4, c5⟩]
            obtain ⟨r, q1, q2⟩ := s_30 e w I J a.toNat (x.tdiv 10) (by omega) hn (by omega) hs h5 h6
            rw [show ((a.toNat : Nat) : Int) = a by omega] at q1
            have hR := FF_R (nbr (I 16) (I 5) (I 6) (x.tdiv 10)) (I 10 6).toNat a.toNat 10
            have hm := mx_R (FF (nbr (I 16) (I 5) (I 6) (x.tdiv 10)) (I 10 6).toNat a.toNat 10) 10 (by omega) (I 10 6).toNat (fun j _ => (hR j).2)
            have s10 : sr I 36 r 10 = I 10 := sr_ne _ _ (by omega)
            have k1 : semC e 32 [vr 35] (mk w (sr I 36 r) J) = some (some (vi (cnt (FF (nbr (I 16) (I 5) (I 6) (x.tdiv 10)) (I 10 6).toNat a.toNat 10) (I 10 6).toNat)), mk w (sr I 36 r) J) := by
              rw [s_32 _ _ _ _ (by omega) (by rw [s10]; exact hn), s10, sr_s, cnt_ext _ q2]
            have k2 : semC e 33 [vr 35] (mk w (sr I 36 r) J) = some (some (vi (mx (FF (nbr (I 16) (I 5) (I 6) (x.tdiv 10)) (I 10 6).toNat a.toNat 10) (I 10 6).toNat)), mk w (sr I 36 r) J) := by
              rw [s_33 _ _ _ _ (by omega) (by rw [s10]; exact hn), s10, sr_s, mx_ext _ q2]
            have ht9 := Int.tmod_lt_of_pos x (show (0 : Int) < 10 by omega)
            refine ⟨r, ?_⟩
            by_cases c6 : y = 0
            · simp (disch := omega) only [b_118_0, b_118_8, b_118_11, b_118_15, b_118_21, b_118_24, b_118_26, b_118_45, b_118_51, b_118_53, b_118_63, b_118_67, b_118_74, b_118_77, b_118_84, b_118_89, s_80 _ _ _ _ _ _, s_133 _ _ _ _ _ _ _ _, q1, k1, semK, Option.bind_some, mpush, wr_if, wr_tdiv, if_pos, if_neg, ↓reduceIte, b2_t, b2_f, Bool.false_eq_true, up2_ne, up2_sne, up2_s, true_or, or_true, true_and, and_true, false_and, and_false, false_or, or_false, c6]
            · simp (disch := omega) only [b_118_0, b_118_8, b_118_11, b_118_15, b_118_21, b_118_24, b_118_26, b_118_45, b_118_51, b_118_53, b_118_63, b_118_67, b_118_74, b_118_77, b_118_84, b_118_89, s_80 _ _ _ _ _ _, s_133 _ _ _ _ _ _ _ _, q1, k2, semK, Option.bind_some, mpush, wr_if, wr_tdiv, if_pos, if_neg, ↓reduceIte, b2_t, b2_f, Bool.false_eq_true, up2_ne, up2_sne, up2_s, true_or, or_true, true_and, and_true, false_and, and_false, false_or, or_false, c6]
          · refine ⟨I 36, ?_⟩
            rw [sr_self]
            simp (disch := omega) only [b_118_0, b_118_8, b_118_11, b_118_15, b_118_21, b_118_24, b_118_26, b_118_45, b_118_51, b_118_53, b_118_63, b_118_67, b_118_74, b_118_77, b_118_84, b_118_89, s_80 _ _ _ _ _ _, s_133 _ _ _ _ _ _ _ _, semK, Option.bind_some, mpush, wr_if, wr_tdiv, if_pos, if_neg, ↓reduceIte, b2_t, b2_f, Bool.false_eq_true, up2_ne, up2_sne, up2_s, true_or, or_true, true_and, and_true, false_and, and_false, false_or, or_false]
        · refine ⟨I 36, ?_⟩
          rw [sr_self]
          simp (disch := omega) only [b_118_0, b_118_8, b_118_11, b_118_15, b_118_21, b_118_24, b_118_26, b_118_45, b_118_51, b_118_53, b_118_63, b_118_67, b_118_74, b_118_77, b_118_84, b_118_89, s_80 _ _ _ _ _ _, s_133 _ _ _ _ _ _ _ _, semK, Option.bind_some, mpush, wr_if, wr_tdiv, if_pos, if_neg, ↓reduceIte, b2_t, b2_f, Bool.false_eq_true, up2_ne, up2_sne, up2_s, true_or, or_true, true_and, and_true, false_and, and_false, false_or, or_false]
      · refine ⟨I 36, ?_⟩
        rw [sr_self]
        simp (disch := omega) only [b_118_0, b_118_8, b_118_11, b_118_15, b_118_21, b_118_24, b_118_26, b_118_45, b_118_51, b_118_53, b_118_63, b_118_67, b_118_74, b_118_77, b_118_84, b_118_89, s_80 _ _ _ _ _ _, s_133 _ _ _ _ _ _ _ _, semK, Option.bind_some, mpush, wr_if, wr_tdiv, if_pos, if_neg, ↓reduceIte, b2_t, b2_f, Bool.false_eq_true, up2_ne, up2_sne, up2_s, true_or, or_true, true_and, and_true, false_and, and_false, false_or, or_false]
    · refine ⟨I 36, ?_⟩
      rw [sr_self]
      simp (disch := omega) only [b_118_0, b_118_8, b_118_11, b_118_15, b_118_21, b_118_24, b_118_26, b_118_45, b_118_51, b_118_53, b_118_63, b_118_67, b_118_74, b_118_77, b_118_84, b_118_89, s_80 _ _ _ _ _ _, s_133 _ _ _ _ _ _ _ _, semK, Option.bind_some, mpush, wr_if, wr_tdiv, if_pos, if_neg, ↓reduceIte, b2_t, b2_f, Bool.false_eq_true, up2_ne, up2_sne, up2_s, true_or, or_true, true_and, and_true, false_and, and_false, false_or, or_false]
  · refine ⟨I 36, ?_⟩
    rw [sr_self]
    simp (disch := omega) only [b_118_0, b_118_8, b_118_11, b_118_15, b_118_21, b_118_24, b_118_26, b_118_45, b_118_51, b_118_53, b_118_63, b_118_67, b_118_74, b_118_77, b_118_84, b_118_89, s_80 _ _ _ _ _ _, s_133 _ _ _ _ _ _ _ _, semK, Option.bind_some, mpush, wr_if, wr_tdiv, if_pos, if_neg, ↓reduceIte, b2_t, b2_f, Bool.false_eq_true, up2_ne, up2_sne, up2_s, true_or, or_true, true_and, and_true, false_and, and_false, false_or, or_false]
