/-! the reference's lines -/
/-- what a reading of lines leaves -/
def EN (I b : Nat → Nat → Int) : Prop := (∀ c, c ≠ 58 → c ≠ 75 → c ≠ 76 → c ≠ 77 → c ≠ 78 → c ≠ 79 → b c = I c) ∧ (∀ k, k ≠ 28 → k ≠ 29 → k ≠ 30 → k ≠ 31 → b 58 k = I 58 k) ∧ (∀ k, k < 130 → b 75 k = I 75 k ∧ b 76 k = I 76 k) ∧ b 77 0 = I 77 0 ∧ ∀ k, k < 61 → b 78 k = I 78 k ∧ b 79 k = I 79 k
theorem EL_r (b : Nat → Nat → Int) : EL b b := ⟨fun _ _ _ _ => rfl, fun _ _ _ _ _ => rfl, fun _ _ => ⟨rfl, rfl⟩⟩
theorem EN_L {I b b' : Nat → Nat → Int} (h : EN I b) (h' : EL b b') : EN I b' := by
  obtain ⟨h1, h2, h3, h4, h5⟩ := h
  obtain ⟨k1, k2, k3⟩ := h'
  have e77 := k1 77 (by omega) (by omega) (by omega)
  have e78 := k1 78 (by omega) (by omega) (by omega)
  have e79 := k1 79 (by omega) (by omega) (by omega)
  refine ⟨fun c a1 a2 a3 a4 a5 a6 => (k1 c a1 a2 a3).trans (h1 c a1 a2 a3 a4 a5 a6), fun k a1 a2 a3 a4 => (k2 k a1 a2 a3 a4).trans (h2 k a1 a2 a3 a4), fun k hk => ⟨(k3 k hk).1.trans (h3 k hk).1, (k3 k hk).2.trans (h3 k hk).2⟩, ?_, ?_⟩
  · rw [e77]; exact h4
  · rw [e78, e79]; exact h5
theorem EN_78 {I b : Nat → Nat → Int} (h : EN I b) (k : Nat) (v : Int) (hk : 61 ≤ k) : EN I (up2 b 78 k v) := by
  obtain ⟨h1, h2, h3, h4, h5⟩ := h
  refine ⟨fun c a1 a2 a3 a4 a5 a6 => by rw [up2_ne _ _ _ a5]; exact h1 c a1 a2 a3 a4 a5 a6, fun k a1 a2 a3 a4 => by rw [up2_ne _ _ _ (by omega)]; exact h2 k a1 a2 a3 a4, fun k hk => by rw [up2_ne _ _ _ (by omega), up2_ne _ _ _ (by omega)]; exact h3 k hk, by rw [up2_ne _ _ _ (by omega)]; exact h4, fun k' hk' => ?_⟩
  rw [up2_sne _ _ _ (by omega), up2_ne _ _ _ (by omega)]; exact h5 k' hk'
theorem EN_79 {I b : Nat → Nat → Int} (h : EN I b) (k : Nat) (v : Int) (hk : 61 ≤ k) : EN I (up2 b 79 k v) := by
  obtain ⟨h1, h2, h3, h4, h5⟩ := h
  refine ⟨fun c a1 a2 a3 a4 a5 a6 => by rw [up2_ne _ _ _ a6]; exact h1 c a1 a2 a3 a4 a5 a6, fun k a1 a2 a3 a4 => by rw [up2_ne _ _ _ (by omega)]; exact h2 k a1 a2 a3 a4, fun k hk => by rw [up2_ne _ _ _ (by omega), up2_ne _ _ _ (by omega)]; exact h3 k hk, by rw [up2_ne _ _ _ (by omega)]; exact h4, fun k' hk' => ?_⟩
  rw [up2_ne _ _ _ (by omega), up2_sne _ _ _ (by omega)]; exact h5 k' hk'
theorem EN_77 {I b : Nat → Nat → Int} (h : EN I b) (v : Int) : EN I (up2 b 77 1 v) := by
  obtain ⟨h1, h2, h3, h4, h5⟩ := h
  refine ⟨fun c a1 a2 a3 a4 a5 a6 => by rw [up2_ne _ _ _ a4]; exact h1 c a1 a2 a3 a4 a5 a6, fun k a1 a2 a3 a4 => by rw [up2_ne _ _ _ (by omega)]; exact h2 k a1 a2 a3 a4, fun k hk => by rw [up2_ne _ _ _ (by omega), up2_ne _ _ _ (by omega)]; exact h3 k hk, by rw [up2_sne _ _ _ (by omega)]; exact h4, fun k' hk' => ?_⟩
  rw [up2_ne _ _ _ (by omega), up2_ne _ _ _ (by omega)]; exact h5 k' hk'
theorem EN_58 {I b : Nat → Nat → Int} (h : EN I b) (k : Nat) (v : Int) (hk : k = 28 ∨ k = 29 ∨ k = 30 ∨ k = 31) : EN I (up2 b 58 k v) := by
  obtain ⟨h1, h2, h3, h4, h5⟩ := h
  refine ⟨fun c a1 a2 a3 a4 a5 a6 => by rw [up2_ne _ _ _ a1]; exact h1 c a1 a2 a3 a4 a5 a6, fun k' a1 a2 a3 a4 => by rw [up2_sne _ _ _ (by omega)]; exact h2 k' a1 a2 a3 a4, fun k hk => by rw [up2_ne _ _ _ (by omega), up2_ne _ _ _ (by omega)]; exact h3 k hk, by rw [up2_ne _ _ _ (by omega)]; exact h4, fun k' hk' => ?_⟩
  rw [up2_ne _ _ _ (by omega), up2_ne _ _ _ (by omega)]; exact h5 k' hk'
theorem TM_N {I b : Nat → Nat → Int} {tp : Nat → Int} {len : Nat} (hT : TM0 I tp len) (h : EN I b) : TM0 b tp len := by
  obtain ⟨t1, t2, t3⟩ := hT
  have e74 := h.1 74 (by omega) (by omega) (by omega) (by omega) (by omega) (by omega)
  refine ⟨by rw [h.2.1 27 (by omega) (by omega) (by omega) (by omega)]; exact t1, t2, fun p => ?_⟩
  have : tm b len p = tm I len p := by unfold tm; rw [e74]
  rw [this]; exact t3 p
/-- between lines: at p, n laid, m lines -/
def LSm (I : Nat → Nat → Int) (len : Nat) (b : Nat → Nat → Int) (p n m : Nat) : Prop := EN I b ∧ b 58 28 = (p : Int) ∧ b 58 29 = -1 ∧ b 58 30 = 0 ∧ b 58 31 = (n : Int) ∧ p ≤ len ∧ n ≤ p ∧ b 77 1 = (m : Int)
theorem LSm_M {I b : Nat → Nat → Int} {len p n m : Nat} (h : LSm I len b p n m) : ML b len b p n 0 := ⟨EL_r b, h.2.1, h.2.2.1, h.2.2.2.1, h.2.2.2.2.1, h.2.2.2.2.2.1, h.2.2.2.2.2.2.1⟩
theorem i2s_n (n : Nat) (h : n < 30000) : i2s (i2s (n : Int)) = (n : Int) := by
  have : i2s (n : Int) = (n : Int) := by
    unfold i2s
    rw [Int.bmod_def]
    split <;> omega
  rw [this, this]
theorem s_170 (d : Nat) (w : Nat × Bool) (I J : Nat → Nat → Int) (b : Nat → Nat → Int) (tp : Nat → Int) (len p n m : Nat) (hd : 100 ≤ d) (hT : TM0 I tp len) (hS : LSm I len b p n m) (hm : m ≤ 60) :
    ∃ b', semC d 170 [vr 58] (mk w b J) = some (none, mk w b' J) ∧
      (((ln tp p).1 = true ∧ LSm I len b' (ln tp p).2.1 (n + ((ln tp p).2.2.1.length + (ln tp p).2.2.2.length)) (m + 1) ∧ b' 78 (61 + m) = ((n + (ln tp p).2.2.1.length : Nat) : Int) ∧ b' 79 (61 + m) = ((n + ((ln tp p).2.2.1.length + (ln tp p).2.2.2.length) : Nat) : Int) ∧ segm (b' 75) (b' 76) n ((ln tp p).2.2.1 ++ (ln tp p).2.2.2) ∧ (∀ i, i < n → b' 75 (130 + i) = b 75 (130 + i) ∧ b' 76 (130 + i) = b 76 (130 + i)) ∧ ∀ i, i < m → b' 78 (61 + i) = b 78 (61 + i) ∧ b' 79 (61 + i) = b 79 (61 + i))
      ∨ ((ln tp p).1 = false ∧ EN I b' ∧ b' 58 28 = ((ln tp p).2.1 : Int) ∧ b' 58 29 = ((ln tp p).2.1 : Int))) := by
  obtain ⟨e, rfl⟩ : ∃ e, d = e + 1 := ⟨d - 1, by omega⟩
  have htk := hT.2.1
  have hlen := htk.1
  have hN := hS.1
  have h77 := hS.2.2.2.2.2.2.2
  have hplen := hS.2.2.2.2.2.1
  have hnp := hS.2.2.2.2.2.2.1
  -- the first text
  have hS1 : LSm I len (up2 b 78 (61 + m) (n : Int)) p n m := by
    obtain ⟨q1, q2, q3, q4, q5, q6, q7, q8⟩ := hS
    refine ⟨EN_78 q1 _ _ (by omega), ?_, ?_, ?_, ?_, q6, q7, ?_⟩
    all_goals (rw [up2_ne _ _ _ (by omega)]; assumption)
  have hA := (rd_allM w (up2 b 78 (61 + m) (n : Int)) J tp len (TM_N hT hS1.1) 2000).1 0 (by omega)
  obtain ⟨b1, k1, k2⟩ := hA 0 p n e _ (by omega) (muk_0 hlen) (by omega) (LSm_M hS1)
  have k1' : semC e 169 [vr 58] (mk w (up2 b 78 (61 + m) (n : Int)) J) = some (none, mk w b1 J) := k1
  have r1 := pr_R htk 2000 0 0 p (by omega) hplen
  rw [e_170, b_170_0, show ((1 : Int)).toNat = 1 from rfl, h77, hS.2.2.2.2.1, i2s_n n (by omega), if_pos (by omega), wr_if (a := 61 + (m : Int)) (by omega), if_pos (by omega), show (61 + (m : Int)).toNat = 61 + m by omega, semK_of k1']
  simp only [mpush]
  rw [b_170_25]
  have hbase78 : ∀ i, i < m → up2 b 78 (61 + m) (n : Int) 78 (61 + i) = b 78 (61 + i) ∧ up2 b 78 (61 + m) (n : Int) 79 (61 + i) = b 79 (61 + i) := fun i hi => by rw [up2_sne _ _ _ (by omega), up2_ne _ _ _ (by omega)]; exact ⟨rfl, rfl⟩
  have h78m : up2 b 78 (61 + m) (n : Int) 78 (61 + m) = (n : Int) := up2_s _ _ _ _
  have h75b : up2 b 78 (61 + m) (n : Int) 75 = b 75 ∧ up2 b 78 (61 + m) (n : Int) 76 = b 76 := ⟨up2_ne _ _ _ (by omega), up2_ne _ _ _ (by omega)⟩
  have h77b : up2 b 78 (61 + m) (n : Int) 77 1 = (m : Int) := by rw [up2_ne _ _ _ (by omega)]; exact h77
  have hN0 := hS1.1
  generalize up2 b 78 (61 + m) (n : Int) = b0 at hbase78 h78m h75b h77b hN0 hA k1 k1' k2
  unfold ln
  rcases k2 with ⟨q1, q2, q3, q4⟩ | ⟨q1, n', q2, q3⟩
  · rw [if_pos q1]
    have g1 := r1.2.2.2 (by omega) q1
    have hEL := q2.1
    have h158 := s_158 e w b0 J b1 tp len (pr tp 2000 0 0 p).2.1 (by omega) (TM_N hT hN0) hEL q2.2.1
    have e63 := tm_eq (TM_N hT hN0) (pr tp 2000 0 0 p).2.1 63 (by omega)
    have hN1 := EN_L hN0 hEL
    have e77 := hEL.1 77 (by omega) (by omega) (by omega)
    have e78 := hEL.1 78 (by omega) (by omega) (by omega)
    have e79 := hEL.1 79 (by omega) (by omega) (by omega)
    rw [q2.2.2.1, if_pos (by omega), b_170_32, semK_of h158]
    simp only [mpush]
    rw [b_170_36]
    by_cases c63 : tp (pr tp 2000 0 0 p).2.1 = 63
    · rw [if_pos c63, if_pos (e63.2 c63), b_170_41, if_pos (by omega)]
      have hin : (pr tp 2000 0 0 p).2.1 < len := by
        by_cases q : (pr tp 2000 0 0 p).2.1 < len
        · exact q
        · have := htk.2.2 _ (show len ≤ (pr tp 2000 0 0 p).2.1 by omega); omega
      have r2 := pr_R htk 2000 0 0 ((pr tp 2000 0 0 p).2.1 + 1) (by omega) (by omega)
      rw [q2.2.2.2.2.1, i2s_n _ (by omega), q2.2.1, wr_n1 (by omega), show (61 + (m : Int)).toNat = 61 + m by omega]
      have hS2 : LSm I len (up2 (up2 b1 58 28 (((pr tp 2000 0 0 p).2.1 + 1 : Nat) : Int)) 78 (61 + m) ((n + (pr tp 2000 0 0 p).2.2.length : Nat) : Int)) ((pr tp 2000 0 0 p).2.1 + 1) (n + (pr tp 2000 0 0 p).2.2.length) m := by
        refine ⟨EN_78 (EN_58 hN1 28 _ (by omega)) _ _ (by omega), ?_, ?_, ?_, ?_, by omega, by omega, ?_⟩
        · rw [up2_ne _ _ _ (by omega), up2_s]
        · rw [up2_ne _ _ _ (by omega), up2_sne _ _ _ (by omega), q2.2.2.1]
        · rw [up2_ne _ _ _ (by omega), up2_sne _ _ _ (by omega), q2.2.2.2.1]; rfl
        · rw [up2_ne _ _ _ (by omega), up2_sne _ _ _ (by omega), q2.2.2.2.2.1]
        · rw [up2_ne _ _ _ (by omega), up2_ne _ _ _ (by omega), e77, h77b]
      have hA2 := (rd_allM w (up2 (up2 b1 58 28 (((pr tp 2000 0 0 p).2.1 + 1 : Nat) : Int)) 78 (61 + m) ((n + (pr tp 2000 0 0 p).2.2.length : Nat) : Int)) J tp len (TM_N hT hS2.1) 2000).1 0 (by omega)
      obtain ⟨b2, m1, m2⟩ := hA2 0 _ _ e _ (by omega) (muk_0 hlen) (by omega) (LSm_M hS2)
      have m1' : semC e 169 [vr 58] (mk w (up2 (up2 b1 58 28 (((pr tp 2000 0 0 p).2.1 + 1 : Nat) : Int)) 78 (61 + m) ((n + (pr tp 2000 0 0 p).2.2.length : Nat) : Int)) J) = some (none, mk w b2 J) := m1
      have i78 : ∀ i, i < m → up2 (up2 b1 58 28 (((pr tp 2000 0 0 p).2.1 + 1 : Nat) : Int)) 78 (61 + m) ((n + (pr tp 2000 0 0 p).2.2.length : Nat) : Int) 78 (61 + i) = b 78 (61 + i) ∧ up2 (up2 b1 58 28 (((pr tp 2000 0 0 p).2.1 + 1 : Nat) : Int)) 78 (61 + m) ((n + (pr tp 2000 0 0 p).2.2.length : Nat) : Int) 79 (61 + i) = b 79 (61 + i) := fun i hi => by
        rw [up2_sne _ _ _ (by omega), up2_ne _ _ _ (by omega), up2_ne _ _ _ (by omega), up2_ne _ _ _ (by omega), e78, e79]; exact hbase78 i hi
      have i78m : up2 (up2 b1 58 28 (((pr tp 2000 0 0 p).2.1 + 1 : Nat) : Int)) 78 (61 + m) ((n + (pr tp 2000 0 0 p).2.2.length : Nat) : Int) 78 (61 + m) = ((n + (pr tp 2000 0 0 p).2.2.length : Nat) : Int) := up2_s _ _ _ _
      have i75 : up2 (up2 b1 58 28 (((pr tp 2000 0 0 p).2.1 + 1 : Nat) : Int)) 78 (61 + m) ((n + (pr tp 2000 0 0 p).2.2.length : Nat) : Int) 75 = b1 75 ∧ up2 (up2 b1 58 28 (((pr tp 2000 0 0 p).2.1 + 1 : Nat) : Int)) 78 (61 + m) ((n + (pr tp 2000 0 0 p).2.2.length : Nat) : Int) 76 = b1 76 := ⟨by rw [up2_ne _ _ _ (by omega), up2_ne _ _ _ (by omega)], by rw [up2_ne _ _ _ (by omega), up2_ne _ _ _ (by omega)]⟩
      have i77 : up2 (up2 b1 58 28 (((pr tp 2000 0 0 p).2.1 + 1 : Nat) : Int)) 78 (61 + m) ((n + (pr tp 2000 0 0 p).2.2.length : Nat) : Int) 77 1 = (m : Int) := by rw [up2_ne _ _ _ (by omega), up2_ne _ _ _ (by omega), e77, h77b]
      have hN2 := hS2.1
      rw [semK_of m1']
      simp only [mpush]
      generalize up2 (up2 b1 58 28 (((pr tp 2000 0 0 p).2.1 + 1 : Nat) : Int)) 78 (61 + m) ((n + (pr tp 2000 0 0 p).2.2.length : Nat) : Int) = bb at i78 i78m i75 i77 hN2 m1 m1' m2 hA2 hS2
      rcases m2 with ⟨s1, s2, s3, s4⟩ | ⟨s1, n'', s2, s3⟩
      · rw [if_pos s1]
        have f77 := s2.1.1 77 (by omega) (by omega) (by omega)
        have f78 := s2.1.1 78 (by omega) (by omega) (by omega)
        have f79 := s2.1.1 79 (by omega) (by omega) (by omega)
        have h31 := s2.2.2.2.2.1
        have hN3 := EN_L hN2 s2.1
        rw [b_170_66, if_pos (by omega), if_pos (by omega), if_pos (by omega), h31, i2s_n _ (by omega), show ((1 : Int)).toNat = 1 from rfl, show (61 + (m : Int)).toNat = 61 + m by omega, f77, i77, wr_n1 (by omega)]
        refine ⟨_, rfl, Or.inl ⟨by first | exact True.intro | rfl, ⟨EN_77 (EN_79 hN3 _ _ (by omega)) _, ?_, ?_, ?_, ?_, s2.2.2.2.2.2.1, ?_, ?_⟩, ?_, ?_, ?_, ?_, ?_⟩⟩
        · rw [up2_ne _ _ _ (by omega), up2_ne _ _ _ (by omega)]; exact s2.2.1
        · rw [up2_ne _ _ _ (by omega), up2_ne _ _ _ (by omega)]; exact s2.2.2.1
        · rw [up2_ne _ _ _ (by omega), up2_ne _ _ _ (by omega)]; exact s2.2.2.2.1
        · rw [up2_ne _ _ _ (by omega), up2_ne _ _ _ (by omega), h31]; dsimp only; omega
        · show n + ((pr tp 2000 0 0 p).2.2.length + (pr tp 2000 0 0 ((pr tp 2000 0 0 p).2.1 + 1)).2.2.length) ≤ (pr tp 2000 0 0 ((pr tp 2000 0 0 p).2.1 + 1)).2.1
          omega
        · rw [up2_s]
        · rw [up2_ne _ _ _ (by omega), up2_ne _ _ _ (by omega), f78, i78m]
        · rw [up2_ne _ _ _ (by omega), up2_s]; dsimp only; omega
        · rw [up2_ne _ _ _ (show (75 : Nat) ≠ 77 by omega), up2_ne _ _ _ (show (75 : Nat) ≠ 79 by omega), up2_ne _ _ _ (show (76 : Nat) ≠ 77 by omega), up2_ne _ _ _ (show (76 : Nat) ≠ 79 by omega)]
          show segm _ _ n (_ ++ _)
          rw [segm_a]
          refine ⟨segm_x _ n (fun i h1 h2 => ?_) q3, s3⟩
          have := s4 i (by omega)
          rw [i75.1, i75.2] at this
          exact this
        · intro i hi
          rw [up2_ne _ _ _ (show (75 : Nat) ≠ 77 by omega), up2_ne _ _ _ (show (75 : Nat) ≠ 79 by omega), up2_ne _ _ _ (show (76 : Nat) ≠ 77 by omega), up2_ne _ _ _ (show (76 : Nat) ≠ 79 by omega)]
          have t1 := s4 i (by omega)
          rw [i75.1, i75.2] at t1
          have t2 := q4 i hi
          rw [h75b.1, h75b.2] at t2
          exact ⟨t1.1.trans t2.1, t1.2.trans t2.2⟩
        · intro i hi
          rw [up2_ne _ _ _ (show (78 : Nat) ≠ 77 by omega), up2_ne _ _ _ (show (78 : Nat) ≠ 79 by omega), up2_ne _ _ _ (show (79 : Nat) ≠ 77 by omega), up2_sne _ _ _ (by omega), f78, f79]
          exact i78 i hi
      · have hno : ¬ (pr tp 2000 0 0 ((pr tp 2000 0 0 p).2.1 + 1)).1 = true := by rw [s1]; simp
        rw [if_neg hno]
        have f77 := s2.1.1 77 (by omega) (by omega) (by omega)
        have h31 := s2.2.2.2.1
        have hq1 := s2.2.2.2.2.1
        have hq2 := s2.2.2.2.2.2
        have hN3 := EN_L hN2 s2.1
        rw [b_170_66, if_pos (by omega), if_pos (by omega), if_pos (by omega), h31, i2s_n _ (by omega), show ((1 : Int)).toNat = 1 from rfl, show (61 + (m : Int)).toNat = 61 + m by omega, f77, i77, wr_n1 (by omega)]
        refine ⟨_, rfl, Or.inr ⟨by first | exact True.intro | rfl, EN_77 (EN_79 hN3 _ _ (by omega)) _, ?_, ?_⟩⟩
        · rw [up2_ne _ _ _ (by omega), up2_ne _ _ _ (by omega)]; exact s2.2.1
        · rw [up2_ne _ _ _ (by omega), up2_ne _ _ _ (by omega)]; exact s2.2.2.1
    · rw [if_neg c63, if_neg (fun h => c63 (e63.1 h))]
      have h31 := q2.2.2.2.2.1
      rw [b_170_66, if_pos (by omega), if_pos (by omega), if_pos (by omega), h31, i2s_n _ (by omega), show ((1 : Int)).toNat = 1 from rfl, show (61 + (m : Int)).toNat = 61 + m by omega, e77, h77b, wr_n1 (by omega)]
      refine ⟨_, rfl, Or.inl ⟨by first | exact True.intro | rfl, ⟨EN_77 (EN_79 hN1 _ _ (by omega)) _, ?_, ?_, ?_, ?_, q2.2.2.2.2.2.1, ?_, ?_⟩, ?_, ?_, ?_, ?_, ?_⟩⟩
      · rw [up2_ne _ _ _ (by omega), up2_ne _ _ _ (by omega)]; exact q2.2.1
      · rw [up2_ne _ _ _ (by omega), up2_ne _ _ _ (by omega)]; exact q2.2.2.1
      · rw [up2_ne _ _ _ (by omega), up2_ne _ _ _ (by omega)]; exact q2.2.2.2.1
      · rw [up2_ne _ _ _ (by omega), up2_ne _ _ _ (by omega), h31]; dsimp only [List.length_nil]; omega
      · show n + (0 + (pr tp 2000 0 0 p).2.2.length) ≤ (pr tp 2000 0 0 p).2.1
        omega
      · rw [up2_s]
      · rw [up2_ne _ _ _ (by omega), up2_ne _ _ _ (by omega), e78, h78m]; rfl
      · rw [up2_ne _ _ _ (by omega), up2_s]; dsimp only [List.length_nil]; omega
      · rw [up2_ne _ _ _ (show (75 : Nat) ≠ 77 by omega), up2_ne _ _ _ (show (75 : Nat) ≠ 79 by omega), up2_ne _ _ _ (show (76 : Nat) ≠ 77 by omega), up2_ne _ _ _ (show (76 : Nat) ≠ 79 by omega)]
        exact q3
      · intro i hi
        rw [up2_ne _ _ _ (show (75 : Nat) ≠ 77 by omega), up2_ne _ _ _ (show (75 : Nat) ≠ 79 by omega), up2_ne _ _ _ (show (76 : Nat) ≠ 77 by omega), up2_ne _ _ _ (show (76 : Nat) ≠ 79 by omega)]
        have t2 := q4 i hi
        rw [h75b.1, h75b.2] at t2
        exact t2
      · intro i hi
        rw [up2_ne _ _ _ (show (78 : Nat) ≠ 77 by omega), up2_ne _ _ _ (show (78 : Nat) ≠ 79 by omega), up2_ne _ _ _ (show (79 : Nat) ≠ 77 by omega), up2_sne _ _ _ (by omega), e78, e79]
        exact hbase78 i hi
  · have hno : ¬ (pr tp 2000 0 0 p).1 = true := by rw [q1]; simp
    rw [if_neg hno]
    have f77 := q2.1.1 77 (by omega) (by omega) (by omega)
    have h31 := q2.2.2.2.1
    have hq1 := q2.2.2.2.2.1
    have hq2 := q2.2.2.2.2.2
    have hN3 := EN_L hN0 q2.1
    rw [q2.2.2.1, if_neg (by omega), b_170_66, if_pos (by omega), if_pos (by omega), if_pos (by omega), h31, i2s_n _ (by omega), show ((1 : Int)).toNat = 1 from rfl, show (61 + (m : Int)).toNat = 61 + m by omega, f77, h77b, wr_n1 (by omega)]
    refine ⟨_, rfl, Or.inr ⟨by first | exact True.intro | rfl, EN_77 (EN_79 hN3 _ _ (by omega)) _, ?_, ?_⟩⟩
    · rw [up2_ne _ _ _ (by omega), up2_ne _ _ _ (by omega)]; exact q2.2.1
    · rw [up2_ne _ _ _ (by omega), up2_ne _ _ _ (by omega)]; exact q2.2.2.1
