/-! loops with a state that is only known by a property -/
theorem lpE {α β : Type} (S : Nat → α → β) (P : Nat → α → Prop) (n : Nat) (h : ∀ u b, u < n → P u b → ∃ b', S u b = S (u + 1) b' ∧ P (u + 1) b') (a : α) (h0 : P 0 a) : ∃ b', S 0 a = S n b' ∧ P n b' := by
  induction n with
  | zero => exact ⟨a, rfl, h0⟩
  | succ n ih =>
    obtain ⟨b, h1, h2⟩ := ih (fun u b hu => h u b (by omega))
    obtain ⟨c, h3, h4⟩ := h n b (by omega) h2
    exact ⟨c, h1.trans h3, h4⟩
theorem lpQ {α β : Type} (S : Nat → α → β) (P : Nat → α → Prop) (Q : β → Prop) (n : Nat) (h : ∀ u b, u < n → P u b → (∃ b', S u b = S (u + 1) b' ∧ P (u + 1) b') ∨ Q (S u b)) (hn : ∀ b, P n b → Q (S n b)) (a : α) (h0 : P 0 a) : Q (S 0 a) := by
  have key : ∀ k, k ≤ n → ∀ u b, u + k = n → P u b → Q (S u b) := by
    intro k
    induction k with
    | zero => intro _ u b e hp; have e' : u = n := by omega
              subst e'; exact hn b hp
    | succ k ih =>
      intro hk u b e hp
      rcases h u b (by omega) hp with ⟨b', h1, h2⟩ | h1
      · rw [h1]; exact ih (by omega) (u + 1) b' (by omega) h2
      · exact h1
  exact key n (Nat.le_refl _) 0 a (by omega) h0
/-- heat -/
def dS (f : Nat → Int) (t : Int) : Nat → Int
  | 0 => 0
  | n + 1 => dS f t n + ab (f n - t)
def dM (f : Nat → Int) (t : Int) : Nat → Int
  | 0 => 0
  | n + 1 => if dM f t n < ab (f n - t) then ab (f n - t) else dM f t n
theorem dS_s (f : Nat → Int) (t : Int) (n : Nat) : dS f t (n + 1) = dS f t n + ab (f n - t) := rfl
theorem dM_s (f : Nat → Int) (t : Int) (n : Nat) : dM f t (n + 1) = if dM f t n < ab (f n - t) then ab (f n - t) else dM f t n := rfl
def wR (f : Nat → Int) : Prop := ∀ k, 0 ≤ f k ∧ f k ≤ 100
theorem ab_W {x t : Int} (h : 0 ≤ x ∧ x ≤ 100) (ht : 0 ≤ t ∧ t ≤ 100) : 0 ≤ ab (x - t) ∧ ab (x - t) ≤ 100 := by unfold ab; split <;> omega
theorem dS_R {f : Nat → Int} {t : Int} (h : wR f) (ht : 0 ≤ t ∧ t ≤ 100) (n : Nat) : 0 ≤ dS f t n ∧ dS f t n ≤ 100 * n := by
  induction n with
  | zero => exact ⟨Int.le_refl _, Int.le_refl _⟩
  | succ n ih => have g := ab_W (h n) ht; unfold dS; omega
theorem dM_R {f : Nat → Int} {t : Int} (h : wR f) (ht : 0 ≤ t ∧ t ≤ 100) (n : Nat) : 0 ≤ dM f t n ∧ dM f t n ≤ 100 := by
  induction n with
  | zero => exact ⟨Int.le_refl _, by unfold dM; omega⟩
  | succ n ih => have g := ab_W (h n) ht; unfold dM; split <;> omega
def dD (f : Nat → Int) (n : Nat) (m : Bool) (t : Int) : Int := if m = true then dM f t n else dS f t n
def bH (D : Int → Int) : Nat → Int
  | 0 => 10
  | n + 1 => if D (11 + n) < D (bH D n) then 11 + n else bH D n
theorem bH_s (D : Int → Int) (n : Nat) : bH D (n + 1) = if D (11 + n) < D (bH D n) then 11 + (n : Int) else bH D n := rfl
theorem bH_R (D : Int → Int) : ∀ n, 10 ≤ bH D n ∧ bH D n ≤ 10 + n
  | 0 => ⟨Int.le_refl _, Int.le_refl _⟩
  | n + 1 => by have := bH_R D n; unfold bH; split <;> omega
theorem ab_wr {a t : Int} (h : 0 ≤ a ∧ a ≤ 100) (ht : 0 ≤ t ∧ t ≤ 100) : (if 0 ≤ wr (a - t) then wr (a - t) else wr (0 - wr (a - t))) = ab (a - t) := by
  rw [wr_if (by omega)]; unfold ab; split
  · rfl
  · rw [wr_if (by omega)]
theorem s_85 (d : Nat) (w : Nat × Bool) (I J : Nat → Nat → Int) (t m : Int) (hd : 1 ≤ d) (ht : 0 ≤ t ∧ t ≤ 100) (hn : 0 ≤ I 10 6 ∧ I 10 6 ≤ 10) (h : wR (I 14)) : semC d 85 [vr 10, vi t, vi m] (mk w I J) = some (some (vi (dD (I 14) (I 10 6).toNat (decide (m ≠ 0)) t)), mk w I J) := by
  obtain ⟨e, rfl⟩ : ∃ e, d = e + 1 := ⟨d - 1, by omega⟩
  rw [e_85, b_85_0]
  obtain ⟨b, l1, -⟩ := lpE (fun (u : Nat) (b : Option mVal) => Sem e 85 8 [some (vr 10), some (vi t), some (vi m), some (vi (dS (I 14) t u)), some (vi (dM (I 14) t u)), some (vi (u : Int)), b] [] (mk w I J)) (fun _ _ => True) (I 10 6).toNat (by
    intro u b hu _
    have hu' := nat_lt hu
    have g1 := dS_R h ht u
    have g2 := ab_W (h u) ht
    refine ⟨some (vi (ab (I 14 u - t))), ?_, trivial⟩
    try dsimp only
    rw [b_85_8, if_pos (by omega), b_85_17, if_pos (by omega), nat_i, ab_wr (h u) ht, wr_if (a := _ + _) (by omega), wr_n1 (by omega)]
    rfl) none trivial
  have e1 : ((I 10 6).toNat : Int) = I 10 6 := Int.toNat_of_nonneg hn.1
  try dsimp only at l1
  rw [e1] at l1
  refine l1.trans ?_
  rw [b_85_8, if_neg (by omega), b_85_51]
  unfold dD
  by_cases c : m = 0
  · rw [if_pos c, b_85_60, b_85_61, if_neg (by simp [c])]
  · rw [if_neg c, b_85_55, b_85_61, if_pos (by simp [c])]
theorem s_86 (d : Nat) (w : Nat × Bool) (I J : Nat → Nat → Int) (m : Int) (hd : 2 ≤ d) (hn : 0 ≤ I 10 6 ∧ I 10 6 ≤ 10) (h : wR (I 14)) : semC d 86 [vr 10, vi m] (mk w I J) = some (some (vi (bH (dD (I 14) (I 10 6).toNat (decide (m ≠ 0))) 20)), mk w I J) := by
  obtain ⟨e, rfl⟩ : ∃ e, d = e + 1 := ⟨d - 1, by omega⟩
  rw [e_86, b_86_0]
  obtain ⟨b, l1, -⟩ := lpE (fun (u : Nat) (b : Unit) => Sem e 86 6 [some (vr 10), some (vi m), some (vi (bH (dD (I 14) (I 10 6).toNat (decide (m ≠ 0))) u)), some (vi (11 + (u : Int)))] [] (mk w I J)) (fun _ _ => True) 20 (by
    intro u b hu _
    have g := bH_R (dD (I 14) (I 10 6).toNat (decide (m ≠ 0))) u
    refine ⟨(), ?_, trivial⟩
    try dsimp only
    rw [b_86_6, if_neg (by omega), b_86_12, semK_of (s_85 _ _ _ _ _ _ (by omega) (by omega) hn h)]
    simp only [mpush]
    rw [b_86_18, semK_of (s_85 _ _ _ _ _ _ (by omega) (by omega) hn h)]
    simp only [mpush]
    rw [b_86_24, bH_s]
    split
    · rw [b_86_27, b_86_29, wr_if (by omega)]; rw [show (11 : Int) + ((u + 1 : Nat) : Int) = 11 + (u : Int) + 1 by omega]
    · rw [b_86_29, wr_if (by omega)]; rw [show (11 : Int) + ((u + 1 : Nat) : Int) = 11 + (u : Int) + 1 by omega]) () trivial
  refine l1.trans ?_
  try dsimp only
  rw [b_86_6, if_pos (by omega), b_86_35]
/-- what 'heat' answers -/
def heatR (n : Int) (f : Nat → Int) (x : Int) : Int := if 0 ≤ x ∧ x ≤ 3 then (if n = 0 then -5 else if x.tmod 2 = 0 then bH (dD f n.toNat (decide (2 ≤ x))) 20 else dD f n.toNat (decide (2 ≤ x)) (bH (dD f n.toNat (decide (2 ≤ x))) 20)) else -1
theorem s_117 (d : Nat) (w : Nat × Bool) (I J : Nat → Nat → Int) (x : Int) (hd : 3 ≤ d) (hn : 0 ≤ I 10 6 ∧ I 10 6 ≤ 10) (h : wR (I 14)) : semC d 117 [vr 3, vi x] (mk w I J) = some (some (vi (heatR (I 10 6) (I 14) x)), mk w I J) := by
  obtain ⟨e, rfl⟩ : ∃ e, d = e + 1 := ⟨d - 1, by omega⟩
  rw [e_117]
  unfold heatR
  have hb := fun m => bH_R (dD (I 14) (I 10 6).toNat m) 20
  by_cases c1 : 0 ≤ x ∧ x ≤ 3
  · by_cases c2 : I 10 6 = 0
    · simp (disch := omega) only [b_117_0, b_117_6, b_117_9, b_117_11, b_117_21, b_117_24, b_117_29, b_117_33, b_117_34, b_117_43, b_117_50, b_117_54, b_117_63, s_133 _ _ _ _ _ _ _ _, semK, Option.bind_some, mpush, wr_if, wr_tdiv, if_pos, if_neg, ↓reduceIte, b2_t, b2_f, Bool.false_eq_true, up2_ne, up2_sne, up2_s, true_or, or_true, true_and, and_true, false_and, and_false, false_or, or_false]
    · by_cases c3 : x < 2
      · have c3' : ¬ 2 ≤ x := by omega
        have hb := hb false
        by_cases c4 : x.tmod 2 = 0
        · simp (disch := omega) only [b_117_0, b_117_6, b_117_9, b_117_11, b_117_21, b_117_24, b_117_29, b_117_33, b_117_34, b_117_43, b_117_50, b_117_54, b_117_63, s_133 _ _ _ _ _ _ _ _, s_86 _ _ _ _ _ _ hn h, semK, Option.bind_some, mpush, wr_if, wr_tdiv, if_pos, if_neg, ↓reduceIte, b2_t, b2_f, Bool.false_eq_true, up2_ne, up2_sne, up2_s, true_or, or_true, true_and, and_true, false_and, and_false, false_or, or_false, ne_eq, not_true_eq_false, decide_false, c3', c4]
        · simp (disch := omega) only [b_117_0, b_117_6, b_117_9, b_117_11, b_117_21, b_117_24, b_117_29, b_117_33, b_117_34, b_117_43, b_117_50, b_117_54, b_117_63, s_133 _ _ _ _ _ _ _ _, s_86 _ _ _ _ _ _ hn h, s_85 _ _ _ _ _ _ _ _ hn h, semK, Option.bind_some, mpush, wr_if, wr_tdiv, if_pos, if_neg, ↓reduceIte, b2_t, b2_f, Bool.false_eq_true, up2_ne, up2_sne, up2_s, true_or, or_true, true_and, and_true, false_and, and_false, false_or, or_false, ne_eq, not_true_eq_false, decide_false, c3', c4]
      · have c3' : 2 ≤ x := by omega
        have hb := hb true
        have c5 : decide ((1 : Int) ≠ 0) = true := rfl
        by_cases c4 : x.tmod 2 = 0
        · simp (disch := omega) only [b_117_0, b_117_6, b_117_9, b_117_11, b_117_21, b_117_24, b_117_29, b_117_33, b_117_34, b_117_43, b_117_50, b_117_54, b_117_63, s_133 _ _ _ _ _ _ _ _, s_86 _ _ _ _ _ _ hn h, semK, Option.bind_some, mpush, wr_if, wr_tdiv, if_pos, if_neg, ↓reduceIte, b2_t, b2_f, Bool.false_eq_true, up2_ne, up2_sne, up2_s, true_or, or_true, true_and, and_true, false_and, and_false, false_or, or_false, c5, decide_true, c3', c4]
        · simp (disch := omega) only [b_117_0, b_117_6, b_117_9, b_117_11, b_117_21, b_117_24, b_117_29, b_117_33, b_117_34, b_117_43, b_117_50, b_117_54, b_117_63, s_133 _ _ _ _ _ _ _ _, s_86 _ _ _ _ _ _ hn h, s_85 _ _ _ _ _ _ _ _ hn h, semK, Option.bind_some, mpush, wr_if, wr_tdiv, if_pos, if_neg, ↓reduceIte, b2_t, b2_f, Bool.false_eq_true, up2_ne, up2_sne, up2_s, true_or, or_true, true_and, and_true, false_and, and_false, false_or, or_false, c5, decide_true, c3', c4]
  · simp (disch := omega) only [b_117_0, b_117_6, b_117_9, b_117_11, b_117_21, b_117_24, b_117_29, b_117_33, b_117_34, b_117_43, b_117_50, b_117_54, b_117_63, s_133 _ _ _ _ _ _ _ _, semK, Option.bind_some, mpush, wr_if, wr_tdiv, if_pos, if_neg, ↓reduceIte, b2_t, b2_f, Bool.false_eq_true, up2_ne, up2_sne, up2_s, true_or, or_true, true_and, and_true, false_and, and_false, false_or, or_false]
theorem heat_in (d : Nat) (w : Nat × Bool) (I J : Nat → Nat → Int) (e : Nat) (x t x2 x3 : Int) (u5 u6 u7 u8 : Option mVal) (ht : 10 ≤ t ∧ t ≤ 30) (hd : 1 ≤ e) (hn : 0 ≤ I 58 10 ∧ I 58 10 ≤ 10) (h : wR (I 67)) :
    ∃ v6 v7 v8, Sem e 207 29 [some (vr 58), some (vi x), some (vi x2), some (vi x3), some (vi t), u5, u6, u7, u8] [] (mk w I J) = Sem e 207 29 [some (vr 58), some (vi x), some (vi (if x2 < 0 ∨ dD (I 67) (I 58 10).toNat (decide (2 ≤ x)) t < x3 then t else x2)), some (vi (if x2 < 0 ∨ dD (I 67) (I 58 10).toNat (decide (2 ≤ x)) t < x3 then dD (I 67) (I 58 10).toNat (decide (2 ≤ x)) t else x3)), some (vi (t + 1)), some (vi (dS (I 67) t (I 58 10).toNat)), some (vi v6), some (vi v7), v8] [] (mk w I J) := by
  rw [b_207_29, if_neg (by omega), b_207_36]
  obtain ⟨b, l1, -⟩ := lpE (fun (u : Nat) (b : Option mVal) => Sem e 207 45 [some (vr 58), some (vi x), some (vi x2), some (vi x3), some (vi t), some (vi (dS (I 67) t u)), some (vi (dM (I 67) t u)), some (vi (u : Int)), b] [] (mk w I J)) (fun _ _ => True) (I 58 10).toNat (by
    intro u b hu _
    have hu' := nat_lt hu
    have ht' : 0 ≤ t ∧ t ≤ 100 := by omega
    have g1 := dS_R h ht' u
    have g2 := ab_W (h u) ht'
    have g3 := h u
    refine ⟨some (vi (ab (I 67 u - t))), ?_, trivial⟩
    try dsimp only
    rw [b_207_45, if_pos (by omega), b_207_54, if_pos (by omega), nat_i, semK_of (s_136 _ _ _ _ _ (by omega)), ab_wr g3 ht']
    simp only [mpush]
    rw [b_207_67]
    rw [dS_s, dM_s]
    split
    · rw [b_207_83, b_207_87, wr_if (a := _ + _) (by omega), wr_n1 (by omega)]
    · rw [b_207_87, wr_if (a := _ + _) (by omega), wr_n1 (by omega)]) u8 trivial
  have e1 : ((I 58 10).toNat : Int) = I 58 10 := Int.toNat_of_nonneg hn.1
  try dsimp only at l1
  rw [e1] at l1
  refine ⟨dM (I 67) t (I 58 10).toNat, dD (I 67) (I 58 10).toNat (decide (2 ≤ x)) t, b, l1.trans ?_⟩
  rw [b_207_45, if_neg (by omega), b_207_93]
  unfold dD
  by_cases c1 : x < 2
  · have c1' : ¬ 2 ≤ x := by omega
    by_cases c2 : x2 < 0 <;> by_cases c3 : dS (I 67) t (I 58 10).toNat < x3
    all_goals simp (disch := omega) only [b_207_98, b_207_103, b_207_105, b_207_111, b_207_117, b_207_120, b_207_126, semK, Option.bind_some, mpush, wr_if, wr_tdiv, if_pos, if_neg, ↓reduceIte, b2_t, b2_f, Bool.false_eq_true, up2_ne, up2_sne, up2_s, true_or, or_true, true_and, and_true, false_and, and_false, false_or, or_false, c1', c2, c3, decide_false]
  · have c1' : 2 ≤ x := by omega
    by_cases c2 : x2 < 0 <;> by_cases c3 : dM (I 67) t (I 58 10).toNat < x3
    all_goals simp (disch := omega) only [b_207_98, b_207_103, b_207_105, b_207_111, b_207_117, b_207_120, b_207_126, semK, Option.bind_some, mpush, wr_if, wr_tdiv, if_pos, if_neg, ↓reduceIte, b2_t, b2_f, Bool.false_eq_true, up2_ne, up2_sne, up2_s, true_or, or_true, true_and, and_true, false_and, and_false, false_or, or_false, c1', c2, c3, decide_true]
theorem s_207 (d : Nat) (w : Nat × Bool) (I J : Nat → Nat → Int) (x : Int) (hd : 3 ≤ d) (hn : 0 ≤ I 58 10 ∧ I 58 10 ≤ 10) (h : wR (I 67)) : semC d 207 [vr 58, vi x] (mk w I J) = some (some (vi (heatR (I 58 10) (I 67) x)), mk w I J) := by
  obtain ⟨e, rfl⟩ : ∃ e, d = e + 1 := ⟨d - 1, by omega⟩
  rw [e_207]
  unfold heatR
  by_cases c1 : 0 ≤ x ∧ x ≤ 3
  · by_cases c2 : I 58 10 = 0
    · simp (disch := omega) only [b_207_0, b_207_6, b_207_9, b_207_11, b_207_18, s_135 _ _ _ _ _ _ _ _, semK, Option.bind_some, mpush, wr_if, wr_tdiv, if_pos, if_neg, ↓reduceIte, b2_t, b2_f, Bool.false_eq_true, up2_ne, up2_sne, up2_s, true_or, or_true, true_and, and_true, false_and, and_false, false_or, or_false]
    · have hs := semK_of (y := 207) (pc := 6) (L := [some (vr 58), some (vi x), none, none, none, none, none, none, none]) (st := []) (s_135 e w I J x 0 3 (by omega))
      rw [b_207_0, hs, if_pos c1]
      simp only [mpush]
      rw [b_207_6, if_neg (by omega), b_207_11, if_neg c2, b_207_21]
      obtain ⟨v6, v7, v8, k1⟩ := heat_in e w I J e x 10 (-1) 0 none none none none (by omega) (by omega) hn h
      rw [k1]
      have hR := fun n => bH_R (dD (I 67) (I 58 10).toNat (decide (2 ≤ x))) n
      obtain ⟨b, l1, -⟩ := lpE (fun (u : Nat) (b : Option mVal × Option mVal × Option mVal × Option mVal) => Sem e 207 29 [some (vr 58), some (vi x), some (vi (bH (dD (I 67) (I 58 10).toNat (decide (2 ≤ x))) u)), some (vi (dD (I 67) (I 58 10).toNat (decide (2 ≤ x)) (bH (dD (I 67) (I 58 10).toNat (decide (2 ≤ x))) u))), some (vi (11 + (u : Int))), b.1, b.2.1, b.2.2.1, b.2.2.2] [] (mk w I J)) (fun _ _ => True) 20 (by
        intro u b hu _
        have g := hR u
        obtain ⟨v6, v7, v8, k2⟩ := heat_in e w I J e x (11 + u) (bH (dD (I 67) (I 58 10).toNat (decide (2 ≤ x))) u) (dD (I 67) (I 58 10).toNat (decide (2 ≤ x)) (bH (dD (I 67) (I 58 10).toNat (decide (2 ≤ x))) u)) b.1 b.2.1 b.2.2.1 b.2.2.2 (by omega) (by omega) hn h
        refine ⟨(some (vi (dS (I 67) (11 + u) (I 58 10).toNat)), some (vi v6), some (vi v7), v8), k2.trans ?_, trivial⟩
        try dsimp only
        have c : ¬ bH (dD (I 67) (I 58 10).toNat (decide (2 ≤ x))) u < 0 := by omega
        simp only [c, false_or]
        rw [show (11 : Int) + ((u + 1 : Nat) : Int) = 11 + (u : Int) + 1 by omega]
        rw [bH_s]
        split <;> rfl) (some (vi (dS (I 67) 10 (I 58 10).toNat)), some (vi v6), some (vi v7), v8) trivial
      simp only [show ((-1 : Int) < 0) = True by simp, true_or, if_true]
      refine l1.trans ?_
      try dsimp only
      rw [b_207_29, if_pos (by omega), b_207_132, if_pos c1, if_neg c2]
      split
      · rw [b_207_138, b_207_143]
      · rw [b_207_142, b_207_143]
  · simp (disch := omega) only [b_207_0, b_207_6, b_207_9, b_207_11, b_207_18, s_135 _ _ _ _ _ _ _ _, semK, Option.bind_some, mpush, wr_if, wr_tdiv, if_pos, if_neg, ↓reduceIte, b2_t, b2_f, Bool.false_eq_true, up2_ne, up2_sne, up2_s, true_or, or_true, true_and, and_true, false_and, and_false, false_or, or_false]
