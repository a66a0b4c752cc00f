/-! days of talk: the reference -/
def eB (I I' : Nat → Nat → Int) : Prop := ∀ c, c ≠ 80 → c ≠ 81 → c ≠ 86 → c ≠ 87 → I' c = I c
theorem eB_r (I : Nat → Nat → Int) : eB I I := fun _ _ _ _ _ => rfl
theorem eB_t {I I' I'' : Nat → Nat → Int} (h : eB I I') (h' : eB I' I'') : eB I I'' := fun c a1 a2 a3 a4 => (h' c a1 a2 a3 a4).trans (h c a1 a2 a3 a4)
theorem eB_M {I I' : Nat → Nat → Int} (h : eM I I') : eB I I' := fun c a1 a2 _ _ => h c a1 a2
theorem eB_u {I I' : Nat → Nat → Int} (h : eB I I') (c k : Nat) (v : Int) (hc : c = 86 ∨ c = 87) : eB I (up2 I' c k v) := fun c' a1 a2 a3 a4 => by rw [up2_ne _ _ _ (by omega), h c' a1 a2 a3 a4]
theorem KM_B {f : Int → Int → Int → Int → Int} {w : Nat × Bool} {I I' : Nat → Nat → Int} (h : KM f w I) (he : eB I I') : KM f w I' := by
  have h58 := he 58 (by omega) (by omega) (by omega) (by omega)
  refine KM_x h (by rw [h58]) (by rw [h58]) (by rw [h58]) (by rw [h58]) (he 59 (by omega) (by omega) (by omega) (by omega)) (he 60 (by omega) (by omega) (by omega) (by omega)) (by rw [he 63 (by omega) (by omega) (by omega) (by omega)]; exact h.1.2.2.2.2.1) (fun c h1 h2 => he c (by omega) (by omega) (by omega) (by omega))
theorem SM_B {I I' : Nat → Nat → Int} (h : SM I) (he : eB I I') : SM I' := by
  unfold SM
  rw [he 58 (by omega) (by omega) (by omega) (by omega), he 64 (by omega) (by omega) (by omega) (by omega), he 65 (by omega) (by omega) (by omega) (by omega), he 69 (by omega) (by omega) (by omega) (by omega)]
  exact h
theorem Lm_B {f : Int → Int → Int → Int → Int} {I I' : Nat → Nat → Int} (h : eB I I') : Lm f I' = Lm f I := by
  unfold Lm
  rw [h 58 (by omega) (by omega) (by omega) (by omega), h 59 (by omega) (by omega) (by omega) (by omega), h 60 (by omega) (by omega) (by omega) (by omega), h 61 (by omega) (by omega) (by omega) (by omega), h 62 (by omega) (by omega) (by omega) (by omega), h 63 (by omega) (by omega) (by omega) (by omega)]
def TM (f : Int → Int → Int → Int → Int) (I : Nat → Nat → Int) (bt s : Int) (m : Nat) : Int := tot (I 68) (dsb (Lm f I) (I 58 17) (I 66) (I 64) (I 69) (I 58 10).toNat) bt (I 58 10).toNat s m
def BM (f : Int → Int → Int → Int → Int) (I : Nat → Nat → Int) (bt s : Int) (i m : Nat) : Int := brk (I 68) (dsb (Lm f I) (I 58 17) (I 66) (I 64) (I 69) (I 58 10).toNat) bt (I 58 10).toNat s i m
/-- the draws of one minute -/
theorem dr_m (d : Nat) (w : Nat × Bool) (I J : Nat → Nat → Int) (e : Nat) (b : Nat → Nat → Int) (x1 x2 bt s x5 x6 : Int) (hn : 0 ≤ I 58 10 ∧ I 58 10 ≤ 10) (hbt : 0 ≤ bt ∧ bt ≤ 100) (hx : eB I b) :
    ∃ y8, Sem e 202 73 [some (vr 58), some (vi x1), some (vi x2), some (vi bt), some (vi s), some (vi x5), some (vi x6), some (vi 0), some (vi 0), some (vi 0)] [] (mk w b J) = Sem e 202 142 [some (vr 58), some (vi x1), some (vi x2), some (vi bt), some (vi (drS s (I 58 10).toNat)), some (vi x5), some (vi x6), some (vi (drB (I 68) bt s (I 58 10).toNat).1), some (vi y8), some (vi (I 58 10))] [] (mk w b J) := by
  have e1 : ((I 58 10).toNat : Int) = I 58 10 := Int.toNat_of_nonneg hn.1
  have g58 := hx 58 (by omega) (by omega) (by omega) (by omega)
  have g68 := hx 68 (by omega) (by omega) (by omega) (by omega)
  obtain ⟨-, l1, -⟩ := lpE (fun (i : Nat) (_ : Unit) => Sem e 202 73 [some (vr 58), some (vi x1), some (vi x2), some (vi bt), some (vi (drS s i)), some (vi x5), some (vi x6), some (vi (drB (I 68) bt s i).1), some (vi (if (drB (I 68) bt s i).2 < bt then (drB (I 68) bt s i).2 else bt)), some (vi (i : Int))] [] (mk w b J)) (fun _ _ => True) (I 58 10).toNat (by
    intro i _ hi _
    have hi' := nat_lt hi
    have hR := drB_R (I 68) bt s i
    refine ⟨(), ?_, trivial⟩
    try dsimp only
    have hl : wr ((wr ((drS s i) * 1103515245)) + 12345) = drS s (i + 1) := rfl
    rw [b_202_73, g58, if_pos (by omega), b_202_82, if_pos (by omega), nat_i, g68, hl, drB_s]
    by_cases c1 : Int.tmod (iushr (drS s (i + 1)) 8) 100 < I 68 i
    · rw [if_pos c1, if_pos c1, b_202_115]
      by_cases c2 : (drB (I 68) bt s i).2 < bt
      · rw [if_pos c2, if_pos c2, if_pos c2, b_202_121, b_202_136, wr_n1 (by omega), wr_if (by omega)]
        have h8 : (drB (I 68) bt s i).2 + 1 = if ((drB (I 68) bt s i).1, (drB (I 68) bt s i).2 + 1).2 < bt then ((drB (I 68) bt s i).1, (drB (I 68) bt s i).2 + 1).2 else bt := by
          show (drB (I 68) bt s i).2 + 1 = if (drB (I 68) bt s i).2 + 1 < bt then (drB (I 68) bt s i).2 + 1 else bt
          split <;> omega
        rw [← h8]
      · rw [if_neg c2, if_neg (by omega), if_neg c2, b_202_127, b_202_136, wr_n1 (by omega)]
        have h8 : bt = if (ior (drB (I 68) bt s i).1 (ishl 1 i), (drB (I 68) bt s i).2 + 1).2 < bt then (ior (drB (I 68) bt s i).1 (ishl 1 i), (drB (I 68) bt s i).2 + 1).2 else bt := by
          show bt = if (drB (I 68) bt s i).2 + 1 < bt then (drB (I 68) bt s i).2 + 1 else bt
          rw [if_neg (by omega)]
        rw [← h8]
    · rw [if_neg c1, if_neg c1, b_202_112, b_202_136, wr_n1 (by omega)]) () trivial
  try dsimp only at l1
  rw [e1] at l1
  have h0 : (if (drB (I 68) bt s 0).2 < bt then (drB (I 68) bt s 0).2 else bt) = 0 := by
    show (if (0 : Int) < bt then 0 else bt) = 0
    split <;> omega
  rw [h0] at l1
  have l1' : Sem e 202 73 [some (vr 58), some (vi x1), some (vi x2), some (vi bt), some (vi s), some (vi x5), some (vi x6), some (vi 0), some (vi 0), some (vi 0)] [] (mk w b J) = _ := l1
  refine ⟨if (drB (I 68) bt s (I 58 10).toNat).2 < bt then (drB (I 68) bt s (I 58 10).toNat).2 else bt, l1'.trans ?_⟩
  rw [b_202_73, g58, if_neg (by omega)]
theorem s_202 (d : Nat) (w : Nat × Bool) (I J : Nat → Nat → Int) (f : Int → Int → Int → Int → Int) (b : Nat → Nat → Int) (s bt : Int) (mn : Nat) (hd : 14 ≤ d) (hK : KM f w I) (hS : SM I) (hx : eB I b) (hm : mn ≤ 100) (hbt : 0 ≤ bt ∧ bt ≤ 100) :
    ∃ b', semC d 202 [vr 58, vi s, vi mn, vi bt] (mk w b J) = some (some (vi (TM f I bt s mn)), mk w b' J) ∧ eB I b' ∧ ∀ i, i < (I 58 10).toNat → b' 86 i = BM f I bt s i mn := by
  obtain ⟨e, rfl⟩ : ∃ e, d = e + 1 := ⟨d - 1, by omega⟩
  obtain ⟨hn, h64, h65, hM, hs, hds⟩ := id hS
  have e1 : ((I 58 10).toNat : Int) = I 58 10 := Int.toNat_of_nonneg hn.1
  rw [e_202, b_202_0]
  obtain ⟨b1, l1, l2, l4, l5⟩ := lpE (fun (i : Nat) (c : Nat → Nat → Int) => Sem e 202 9 [some (vr 58), some (vi s), some (vi (mn : Int)), some (vi bt), some (vi s), some (vi 0), some (vi (i : Int)), none, none, none] [] (mk w c J)) (fun i c => eB I c ∧ (∀ j, j < i → c 86 j = 0) ∧ ∀ j, j < i → c 87 j = dsb (Lm f I) (I 58 17) (I 66) (I 64) (I 69) (I 58 10).toNat j) (I 58 10).toNat (by
    rintro i c hi ⟨p1, p3, p4⟩
    try dsimp only at p1 p3 p4 ⊢
    have hi' := nat_lt hi
    have c58 := p1 58 (by omega) (by omega) (by omega) (by omega)
    have hx1 : eB I (up2 c 86 i 0) := eB_u p1 86 i 0 (by omega)
    have q33 : ∀ j, j < i + 1 → up2 c 86 i 0 86 j = 0 := fun j hj => by
      by_cases cj : j = i
      · rw [cj, up2_s]
      · rw [up2_sne _ _ _ cj]; exact p3 j (by omega)
    have q34 : up2 c 86 i 0 87 = c 87 := up2_ne _ _ _ (by omega)
    rw [b_202_9, c58, if_pos (by omega), b_202_18, if_pos (by omega), nat_i]
    generalize up2 c 86 i 0 = c1 at hx1 q33 q34
    have d58 := hx1 58 (by omega) (by omega) (by omega) (by omega)
    obtain ⟨c2, k1, k2⟩ := s_186 e w c1 J f i (by omega) (KM_B hK hx1) (SM_i (SM_B hS hx1) (by rw [d58]; exact hi)) (by rw [d58]; exact hi)
    rw [Lm_B hx1, d58, hx1 64 (by omega) (by omega) (by omega) (by omega), hx1 69 (by omega) (by omega) (by omega) (by omega)] at k1
    rw [semK_of k1]
    simp only [mpush]
    rw [b_202_38, if_pos (by omega), if_pos (by omega), nat_i, wr_n1 (by omega), k2 66 (by omega) (by omega), hx1 66 (by omega) (by omega) (by omega) (by omega)]
    refine ⟨_, rfl, eB_u (eB_t hx1 (eB_M k2)) 87 i _ (by omega), ?_, ?_⟩
    · intro j hj
      rw [up2_ne _ _ _ (by omega), k2 86 (by omega) (by omega)]; exact q33 j hj
    · intro j hj
      by_cases cj : j = i
      · subst cj; rw [up2_s]; rfl
      · rw [up2_sne _ _ _ cj, k2 87 (by omega) (by omega), q34]; exact p4 j (by omega)) b ⟨hx, fun j hj => absurd hj (by omega), fun j hj => absurd hj (by omega)⟩
  try dsimp only at l1 l2 l4 l5
  rw [e1] at l1
  have l1' : Sem e 202 9 [some (vr 58), some (vi s), some (vi (mn : Int)), some (vi bt), some (vi s), some (vi 0), some (vi 0), none, none, none] [] (mk w b J) = _ := l1
  rw [l1', b_202_9, l2 58 (by omega) (by omega) (by omega) (by omega), if_neg (by omega), b_202_55]
  obtain ⟨⟨b2, z7, z8, z9⟩, m1, m2, m5, m6⟩ := lpE (fun (m : Nat) (c : (Nat → Nat → Int) × Option mVal × Option mVal × Option mVal) => Sem e 202 58 [some (vr 58), some (vi s), some (vi (mn : Int)), some (vi bt), some (vi (dyS (I 58 10).toNat s m)), some (vi (TM f I bt s m)), some (vi (m : Int)), c.2.1, c.2.2.1, c.2.2.2] [] (mk w c.1 J)) (fun m c => eB I c.1 ∧ agr (I 58 10).toNat (c.1 87) (dsb (Lm f I) (I 58 17) (I 66) (I 64) (I 69) (I 58 10).toNat) ∧ ∀ i, i < (I 58 10).toNat → c.1 86 i = BM f I bt s i m) mn (by
    rintro m ⟨c, z7, z8, z9⟩ hm' ⟨p1, p4, p5⟩
    try dsimp only at p1 p4 p5 ⊢
    obtain ⟨y8, k1⟩ := dr_m e w I J e c s mn bt (dyS (I 58 10).toNat s m) (TM f I bt s m) m hn hbt p1
    rw [b_202_58, if_pos (by omega), b_202_64, k1, b_202_142]
    obtain ⟨c1, n1, n2, n3, n4⟩ := lpE (fun (i : Nat) (c' : Nat → Nat → Int) => Sem e 202 145 [some (vr 58), some (vi s), some (vi (mn : Int)), some (vi bt), some (vi (drS (dyS (I 58 10).toNat s m) (I 58 10).toNat)), some (vi (TM f I bt s m + sm (fun i => hit (I 68) (dsb (Lm f I) (I 58 17) (I 66) (I 64) (I 69) (I 58 10).toNat) bt (I 58 10).toNat s m i) i)), some (vi (m : Int)), some (vi (drB (I 68) bt (dyS (I 58 10).toNat s m) (I 58 10).toNat).1), some (vi y8), some (vi (i : Int))] [] (mk w c' J)) (fun i c' => eB I c' ∧ c' 87 = c 87 ∧ ∀ j, j < (I 58 10).toNat → c' 86 j = if j < i then BM f I bt s j (m + 1) else BM f I bt s j m) (I 58 10).toNat (by
      rintro i c' hi ⟨q1, q2, q3⟩
      try dsimp only at q1 q2 q3 ⊢
      have hi' := nat_lt hi
      have d58 := q1 58 (by omega) (by omega) (by omega) (by omega)
      have hR1 := tot_R (I 68) (dsb (Lm f I) (I 58 17) (I 66) (I 64) (I 69) (I 58 10).toNat) bt (n := (I 58 10).toNat) (by omega) s m
      have hR2 := hits_R (I 68) (dsb (Lm f I) (I 58 17) (I 66) (I 64) (I 69) (I 58 10).toNat) bt (I 58 10).toNat s m i
      have hR3 := brk_R (I 68) (dsb (Lm f I) (I 58 17) (I 66) (I 64) (I 69) (I 58 10).toNat) bt (I 58 10).toNat s i m
      have q3i := q3 i hi
      rw [if_neg (by omega)] at q3i
      rw [b_202_145, d58, if_pos (by omega), b_202_154, if_pos (by omega), nat_i, q2, p4 i hi, sm_s]
      by_cases cc : iand (dsb (Lm f I) (I 58 17) (I 66) (I 64) (I 69) (I 58 10).toNat i) (drB (I 68) bt (dyS (I 58 10).toNat s m) (I 58 10).toNat).1 = 0
      · have hz : hit (I 68) (dsb (Lm f I) (I 58 17) (I 66) (I 64) (I 69) (I 58 10).toNat) bt (I 58 10).toNat s m i = 0 := by unfold hit; rw [if_pos cc]
        rw [if_pos cc, b_202_167, b_202_184, wr_n1 (by omega), hz, Int.add_zero]
        refine ⟨c', rfl, q1, q2, ?_⟩
        intro j hj
        rw [q3 j hj]
        by_cases cj : j = i
        · subst cj
          rw [if_neg (by omega), if_pos (by omega)]
          unfold BM
          rw [brk_s, hz, Int.add_zero]
        · by_cases cl : j < i
          · rw [if_pos cl, if_pos (by omega)]
          · rw [if_neg cl, if_neg (by omega)]
      · have hz : hit (I 68) (dsb (Lm f I) (I 58 17) (I 66) (I 64) (I 69) (I 58 10).toNat) bt (I 58 10).toNat s m i = 1 := by unfold hit; rw [if_neg cc]
        have w1 : wr (TM f I bt s m + sm (fun i => hit (I 68) (dsb (Lm f I) (I 58 17) (I 66) (I 64) (I 69) (I 58 10).toNat) bt (I 58 10).toNat s m i) i + 1) = TM f I bt s m + (sm (fun i => hit (I 68) (dsb (Lm f I) (I 58 17) (I 66) (I 64) (I 69) (I 58 10).toNat) bt (I 58 10).toNat s m i) i + 1) := by
          rw [wr_if (by unfold TM; omega), Int.add_assoc]
        have w2 : wr (BM f I bt s i m + 1) = BM f I bt s i m + 1 := wr_if (by unfold BM; omega)
        rw [if_neg cc, b_202_170, if_pos (by omega), if_pos (by omega), nat_i, q3i, b_202_184, wr_n1 (by omega), hz, w1, w2]
        refine ⟨up2 c' 86 i (BM f I bt s i m + 1), rfl, eB_u q1 86 i _ (by omega), ?_, ?_⟩
        · rw [up2_ne _ _ _ (by omega), q2]
        · intro j hj
          by_cases cj : j = i
          · subst cj
            rw [up2_s, if_pos (by omega)]
            unfold BM
            rw [brk_s, hz]
          · rw [up2_sne _ _ _ cj, q3 j hj]
            by_cases cl : j < i
            · rw [if_pos cl, if_pos (by omega)]
            · rw [if_neg cl, if_neg (by omega)]) c ⟨p1, rfl, fun j hj => by rw [if_neg (by omega)]; exact p5 j hj⟩
    try dsimp only at n1 n2 n3 n4
    rw [e1] at n1
    have n1' : Sem e 202 145 [some (vr 58), some (vi s), some (vi (mn : Int)), some (vi bt), some (vi (drS (dyS (I 58 10).toNat s m) (I 58 10).toNat)), some (vi (TM f I bt s m + 0)), some (vi (m : Int)), some (vi (drB (I 68) bt (dyS (I 58 10).toNat s m) (I 58 10).toNat).1), some (vi y8), some (vi 0)] [] (mk w c J) = _ := n1
    rw [Int.add_zero] at n1'
    rw [n1', b_202_145, n2 58 (by omega) (by omega) (by omega) (by omega), if_neg (by omega), b_202_190, wr_n1 (by omega)]
    refine ⟨(c1, _, _, _), rfl, n2, ?_, ?_⟩
    · show agr _ (c1 87) _
      rw [n3]; exact p4
    · intro i hi
      show c1 86 i = _
      rw [n4 i hi, if_pos hi]) (b1, none, none, none) ⟨l2, l5, l4⟩
  try dsimp only at m1 m2 m5 m6
  have m1' : Sem e 202 58 [some (vr 58), some (vi s), some (vi (mn : Int)), some (vi bt), some (vi s), some (vi 0), some (vi 0), none, none, none] [] (mk w b1 J) = _ := m1
  refine ⟨b2, ?_, m2, m6⟩
  rw [m1', b_202_58, if_neg (by omega), b_202_196]
theorem s_203 (d : Nat) (w : Nat × Bool) (I J : Nat → Nat → Int) (f : Int → Int → Int → Int → Int) (s x y : Int) (hd : 15 ≤ d) (hK : KM f w I) (hS : SM I) (hb : 0 ≤ I 58 19 ∧ I 58 19 ≤ 100) :
    ∃ I', semC d 203 [vr 58, vi s, vi x, vi y] (mk w I J) = some (some (vi (brokR (I 58 10) (TM f I (I 58 19) s x.toNat) (fun i => BM f I (I 58 19) s i x.toNat) x y)), mk w I' J) ∧ eB I I' := by
  obtain ⟨e, rfl⟩ : ∃ e, d = e + 1 := ⟨d - 1, by omega⟩
  have hn := hS.1
  rw [e_203]
  unfold brokR
  by_cases c1 : 1 ≤ x ∧ x ≤ 100
  · by_cases c2 : y = -1 ∨ (0 ≤ y ∧ y < I 58 10)
    · rw [if_pos ⟨c1, c2⟩]
      obtain ⟨b, k1, k2, k4⟩ := s_202 e w I J f I s (I 58 19) x.toNat (by omega) hK hS (eB_r I) (by omega) hb
      rw [show ((x.toNat : Nat) : Int) = x by omega] at k1
      refine ⟨b, ?_, k2⟩
      by_cases c3 : y = -1
      · rw [if_pos c3]
        simp (disch := omega) only [b_203_0, b_203_7, b_203_10, b_203_25, b_203_35, b_203_41, b_203_52, s_135 _ _ _ _ _ _ _ _, semK, Option.bind_some, mpush, wr_if, wr_tdiv, if_pos, if_neg, ↓reduceIte, b2_t, b2_f, Bool.false_eq_true, up2_ne, up2_sne, up2_s, true_or, or_true, true_and, and_true, false_and, and_false, false_or, or_false, k1]
      · rw [if_neg c3]
        simp (disch := omega) only [b_203_0, b_203_7, b_203_10, b_203_15, b_203_20, b_203_25, b_203_35, b_203_46, b_203_52, s_135 _ _ _ _ _ _ _ _, s_139 _ _ _ _ _ _ hn, semK, Option.bind_some, mpush, wr_if, wr_tdiv, if_pos, if_neg, ↓reduceIte, b2_t, b2_f, Bool.false_eq_true, up2_ne, up2_sne, up2_s, true_or, or_true, true_and, and_true, false_and, and_false, false_or, or_false, k1]
        rw [k4 _ (by omega)]
    · refine ⟨I, ?_, eB_r I⟩
      simp (disch := omega) only [b_203_0, b_203_7, b_203_10, b_203_15, b_203_20, b_203_23, s_135 _ _ _ _ _ _ _ _, s_139 _ _ _ _ _ _ hn, semK, Option.bind_some, mpush, wr_if, wr_tdiv, if_pos, if_neg, ↓reduceIte, b2_t, b2_f, Bool.false_eq_true, up2_ne, up2_sne, up2_s, true_or, or_true, true_and, and_true, false_and, and_false, false_or, or_false]
  · refine ⟨I, ?_, eB_r I⟩
    simp (disch := omega) only [b_203_0, b_203_7, b_203_23, s_135 _ _ _ _ _ _ _ _, semK, Option.bind_some, mpush, wr_if, wr_tdiv, if_pos, if_neg, ↓reduceIte, b2_t, b2_f, Bool.false_eq_true, up2_ne, up2_sne, up2_s, true_or, or_true, true_and, and_true, false_and, and_false, false_or, or_false]
theorem s_204 (d : Nat) (w : Nat × Bool) (I J : Nat → Nat → Int) (f : Int → Int → Int → Int → Int) (s x y : Int) (hd : 15 ≤ d) (hK : KM f w I) (hS : SM I) :
    ∃ I', semC d 204 [vr 58, vi s, vi x, vi y] (mk w I J) = some (some (vi (boothR (fun k => TM f I k s x.toNat) x y)), mk w I' J) ∧ eB I I' := by
  obtain ⟨e, rfl⟩ : ∃ e, d = e + 1 := ⟨d - 1, by omega⟩
  have hn := hS.1
  rw [e_204]
  unfold boothR
  by_cases c1 : 1 ≤ x ∧ x ≤ 100
  · by_cases c2 : 0 ≤ y ∧ y ≤ 1000
    · rw [if_pos ⟨c1, c2⟩, b_204_0, semK_of (s_135 _ _ _ _ _ _ _ (by omega)), if_pos c1]
      simp only [mpush]
      rw [b_204_7, if_neg (by omega), b_204_10, semK_of (s_135 _ _ _ _ _ _ _ (by omega)), if_pos c2]
      simp only [mpush]
      rw [b_204_18, if_neg (by omega), b_204_23]
      refine lpQ (fun (k : Nat) (b : Nat → Nat → Int) => Sem e 204 26 [some (vr 58), some (vi s), some (vi x), some (vi y), some (vi (k : Int))] [] (mk w b J)) (fun k b => eB I b ∧ ∀ j, j < k → decide (TM f I (j : Int) s x.toNat ≤ y) = false) (fun o => ∃ I', o = some (some (vi (match fnd (fun k => decide (TM f I (k : Int) s x.toNat ≤ y)) 10 with | some k => (k : Int) | none => -2)), mk w I' J) ∧ eB I I') 10 ?_ ?_ I ⟨eB_r I, fun j hj => absurd hj (by omega)⟩
      · rintro k b hk ⟨p1, p3⟩
        try dsimp only at p1 p3 ⊢
        obtain ⟨b', k1, k2, -⟩ := s_202 e w I J f b s k x.toNat (by omega) hK hS p1 (by omega) (by omega)
        rw [show ((x.toNat : Nat) : Int) = x by omega] at k1
        rw [b_204_26, if_neg (by omega), b_204_33, semK_of k1]
        simp only [mpush]
        rw [b_204_41]
        by_cases c : y < TM f I (k : Int) s x.toNat
        · left
          rw [if_pos c, b_204_48, wr_n1 (by omega)]
          refine ⟨b', rfl, k2, ?_⟩
          intro j hj
          by_cases cj : j = k
          · subst cj; exact decide_eq_false (by omega)
          · exact p3 j (by omega)
        · right
          rw [if_neg c, b_204_45, fnd_eq (p := fun k => decide (TM f I (k : Int) s x.toNat ≤ y)) (decide_eq_true (by omega)) p3 10 hk]
          exact ⟨b', rfl, k2⟩
      · rintro b ⟨p1, p3⟩
        try dsimp only at p1 p3 ⊢
        rw [b_204_26, if_pos (by omega), b_204_54, fnd_no (p := fun k => decide (TM f I (k : Int) s x.toNat ≤ y)) p3]
        exact ⟨b, rfl, p1⟩
    · refine ⟨I, ?_, eB_r I⟩
      simp (disch := omega) only [b_204_0, b_204_7, b_204_10, b_204_18, b_204_21, s_135 _ _ _ _ _ _ _ _, semK, Option.bind_some, mpush, wr_if, wr_tdiv, if_pos, if_neg, ↓reduceIte, b2_t, b2_f, Bool.false_eq_true, up2_ne, up2_sne, up2_s, true_or, or_true, true_and, and_true, false_and, and_false, false_or, or_false]
  · refine ⟨I, ?_, eB_r I⟩
    simp (disch := omega) only [b_204_0, b_204_7, b_204_21, s_135 _ _ _ _ _ _ _ _, semK, Option.bind_some, mpush, wr_if, wr_tdiv, if_pos, if_neg, ↓reduceIte, b2_t, b2_f, Bool.false_eq_true, up2_ne, up2_sne, up2_s, true_or, or_true, true_and, and_true, false_and, and_false, false_or, or_false]
