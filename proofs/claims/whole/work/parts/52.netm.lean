/-! net, clear voices, sums: the reference -/
def SM (I : Nat → Nat → Int) : Prop := (0 ≤ I 58 10 ∧ I 58 10 ≤ 10) ∧ (∀ k, 0 ≤ I 64 k ∧ I 64 k ≤ 99) ∧ (∀ k, 0 ≤ I 65 k ∧ I 65 k ≤ 9) ∧ (0 ≤ I 58 17 ∧ I 58 17 ≤ 60) ∧ seR (I 69) (I 58 10).toNat ∧ dst (I 69) (I 58 10).toNat
theorem SM_e {I I' : Nat → Nat → Int} (h : SM I) (he : eM I I') : SM I' := by
  unfold SM
  rw [he 58 (by omega) (by omega), he 64 (by omega) (by omega), he 65 (by omega) (by omega), he 69 (by omega) (by omega)]
  exact h
/-- what one listener needs -/
def dsi (seat : Nat → Int) (n i : Nat) : Prop := ∀ j, j < n → i ≠ j → seat i = seat j → seat i = -1
def SMi (i : Nat) (I : Nat → Nat → Int) : Prop := (0 ≤ I 58 10 ∧ I 58 10 ≤ 10) ∧ (∀ k, 0 ≤ I 64 k ∧ I 64 k ≤ 99) ∧ (∀ k, 0 ≤ I 65 k ∧ I 65 k ≤ 9) ∧ (0 ≤ I 58 17 ∧ I 58 17 ≤ 60) ∧ seR (I 69) (I 58 10).toNat ∧ dsi (I 69) (I 58 10).toNat i
theorem SM_i {I : Nat → Nat → Int} (h : SM I) {i : Nat} (hi : i < (I 58 10).toNat) : SMi i I := ⟨h.1, h.2.1, h.2.2.1, h.2.2.2.1, h.2.2.2.2.1, fun j hj hij he => h.2.2.2.2.2 i j hi hj hij he⟩
theorem SMi_e {I I' : Nat → Nat → Int} {i : Nat} (h : SMi i I) (he : eM I I') : SMi i I' := by
  unfold SMi
  rw [he 58 (by omega) (by omega), he 64 (by omega) (by omega), he 65 (by omega) (by omega), he 69 (by omega) (by omega)]
  exact h
theorem s_183 (d : Nat) (w : Nat × Bool) (I J : Nat → Nat → Int) (i j : Nat) (hd : 1 ≤ d) (hi : i < 10) : semC d 183 [vr 58, vi i, vi j] (mk w I J) = some (some (vi (b2 (nd (I 66) i j))), mk w I J) := by
  obtain ⟨e, rfl⟩ : ∃ e, d = e + 1 := ⟨d - 1, by omega⟩
  rw [e_183, b_183_0, if_pos (by omega), nat_i]
  unfold nd
  by_cases c : iand (ishr (I 66 i) j) 1 = 1
  · rw [if_pos c, b_183_14, b_183_19, if_pos (by omega), decide_eq_true c]; rfl
  · rw [if_neg c, b_183_18, b_183_19, if_pos (by omega), decide_eq_false c]; rfl
/-- one loud voice, in a heap that the search has touched -/
theorem s_181e (d : Nat) (w : Nat × Bool) (I J : Nat → Nat → Int) (f : Int → Int → Int → Int → Int) (I' : Nat → Nat → Int) (i j : Nat) (hd : 12 ≤ d) (hK : KM f w I) (hS : SMi i I) (hi : i < (I 58 10).toNat) (hj : j < (I 58 10).toNat) (he : eM I I') :
    ∃ I'', semC d 181 [vr 58, vi i, vi j, vi (I 64 j)] (mk w I' J) = some (some (vi (pz (Lm f I (I 64 j) (I 69 i) (I 69 j) - I 58 17))), mk w I'' J) ∧ eM I I'' := by
  obtain ⟨hn, h64, h65, hM, hs, hds⟩ := SMi_e hS he
  have h58 := he 58 (by omega) (by omega)
  have h69 := he 69 (by omega) (by omega)
  have h64' := he 64 (by omega) (by omega)
  obtain ⟨I1, k1, k2⟩ := s_181 d w I' J f i j (I 64 j) hd (KM_e hK he) hn (by rw [h58]; exact hi) (by rw [h58]; exact hj) hs (hds j (by rw [h58]; exact hj)) hM (by rw [← h64']; exact h64 j)
  rw [Lm_e he, h58, h69] at k1
  exact ⟨I1, k1, eM_t he k2⟩
theorem pzL_R (f : Int → Int → Int → Int → Int) (I : Nat → Nat → Int) (hM : 0 ≤ I 58 17 ∧ I 58 17 ≤ 60) (v a b : Int) : 0 ≤ pz (Lm f I v a b - I 58 17) ∧ pz (Lm f I v a b - I 58 17) ≤ 99 := by
  have h := Lm_R f I v a b
  exact pz_R (by omega) (by omega)
theorem s_184 (d : Nat) (w : Nat × Bool) (I J : Nat → Nat → Int) (f : Int → Int → Int → Int → Int) (i : Nat) (hd : 13 ≤ d) (hK : KM f w I) (hS : SMi i I) (hi : i < (I 58 10).toNat) :
    ∃ I', semC d 184 [vr 58, vi i] (mk w I J) = some (some (vi (I 65 i * lsum (Lm f I) (I 58 17) (I 64) (I 69) (fun j => !nd (I 66) i j) i (I 58 10).toNat)), mk w I' J) ∧ eM I I' := by
  obtain ⟨e, rfl⟩ : ∃ e, d = e + 1 := ⟨d - 1, by omega⟩
  obtain ⟨hn, h64, h65, hM, hs, hds⟩ := id hS
  have e1 : ((I 58 10).toNat : Int) = I 58 10 := Int.toNat_of_nonneg hn.1
  have hi' := nat_lt hi
  rw [e_184, b_184_0]
  obtain ⟨I1, l1, l2⟩ := lpE (fun (j : Nat) (b : Nat → Nat → Int) => Sem e 184 4 [some (vr 58), some (vi (i : Int)), some (vi (lsum (Lm f I) (I 58 17) (I 64) (I 69) (fun j => !nd (I 66) i j) i j)), some (vi (j : Int))] [] (mk w b J)) (fun _ b => eM I b) (I 58 10).toNat (by
    intro j I2 hj he
    try dsimp only at he ⊢
    have hj' := nat_lt hj
    have h58 := he 58 (by omega) (by omega)
    have h66 := he 66 (by omega) (by omega)
    have h64' := he 64 (by omega) (by omega)
    rw [b_184_4, h58, if_pos (by omega), b_184_12, semK_of (s_183 _ _ _ _ _ _ (by omega) (by omega)), h66, lsum_s]
    simp only [mpush]
    rw [b_184_18]
    cases c : nd (I 66) i j
    · obtain ⟨I3, k1, k2⟩ := s_181e e w I J f I2 i j (by omega) hK hS hi hj he
      rw [b2_f, if_pos rfl, b_184_21, if_pos (by omega), nat_i, h64', semK_of k1]
      simp only [mpush]
      refine ⟨I3, ?_, k2⟩
      have hR := lsum_R (voice := I 64) (q := I 69) (p := fun j => !nd (I 66) i j) (Lm_R f I) hM.1 i j
      have hp := pzL_R f I hM (I 64 j) (I 69 i) (I 69 j)
      rw [b_184_34, b_184_36, wr_n1 (by omega), wr_if (by omega), if_pos (by first | rfl | trivial)]
    · rw [b2_t, if_neg (by omega), b_184_36, wr_n1 (by omega)]
      refine ⟨I2, ?_, he⟩
      rw [if_neg (by simp), Int.add_zero]) I (eM_r I)
  try dsimp only at l1 l2
  rw [e1] at l1
  have h58 := l2 58 (by omega) (by omega)
  have hR := lsum_R (voice := I 64) (q := I 69) (p := fun j => !nd (I 66) i j) (Lm_R f I) hM.1 i (I 58 10).toNat
  refine ⟨I1, l1.trans ?_, l2⟩
  rw [b_184_4, h58, if_neg (by omega), b_184_42, if_pos (by omega), nat_i, l2 65 (by omega) (by omega), wr_if]
  have hm := h65 i
  generalize lsum (Lm f I) (I 58 17) (I 64) (I 69) (fun j => !nd (I 66) i j) i (I 58 10).toNat = s at hR
  have g1 : 0 ≤ I 65 i * s := Int.mul_nonneg hm.1 hR.1
  have g2 : I 65 i * s ≤ 9 * s := Int.mul_le_mul_of_nonneg_right hm.2 hR.1
  omega
theorem s_185 (d : Nat) (w : Nat × Bool) (I J : Nat → Nat → Int) (f : Int → Int → Int → Int → Int) (i : Nat) (hd : 13 ≤ d) (hK : KM f w I) (hS : SMi i I) (hi : i < (I 58 10).toNat) :
    ∃ I', semC d 185 [vr 58, vi i] (mk w I J) = some (some (vi (3 * lsum (Lm f I) (I 58 17) (I 64) (I 69) (fun j => nd (I 66) i j) i (I 58 10).toNat)), mk w I' J) ∧ eM I I' := by
  obtain ⟨e, rfl⟩ : ∃ e, d = e + 1 := ⟨d - 1, by omega⟩
  obtain ⟨hn, h64, h65, hM, hs, hds⟩ := id hS
  have e1 : ((I 58 10).toNat : Int) = I 58 10 := Int.toNat_of_nonneg hn.1
  have hi' := nat_lt hi
  rw [e_185, b_185_0]
  obtain ⟨I1, l1, l2⟩ := lpE (fun (j : Nat) (b : Nat → Nat → Int) => Sem e 185 4 [some (vr 58), some (vi (i : Int)), some (vi (lsum (Lm f I) (I 58 17) (I 64) (I 69) (fun j => nd (I 66) i j) i j)), some (vi (j : Int))] [] (mk w b J)) (fun _ b => eM I b) (I 58 10).toNat (by
    intro j I2 hj he
    try dsimp only at he ⊢
    have hj' := nat_lt hj
    have h58 := he 58 (by omega) (by omega)
    have h66 := he 66 (by omega) (by omega)
    have h64' := he 64 (by omega) (by omega)
    rw [b_185_4, h58, if_pos (by omega), b_185_12, semK_of (s_183 _ _ _ _ _ _ (by omega) (by omega)), h66, lsum_s]
    simp only [mpush]
    rw [b_185_18]
    cases c : nd (I 66) i j
    · rw [b2_f, if_pos rfl, b_185_36, wr_n1 (by omega)]
      refine ⟨I2, ?_, he⟩
      rw [if_neg (by simp), Int.add_zero]
    · obtain ⟨I3, k1, k2⟩ := s_181e e w I J f I2 i j (by omega) hK hS hi hj he
      rw [b2_t, if_neg (by omega), b_185_21, if_pos (by omega), nat_i, h64', semK_of k1]
      simp only [mpush]
      refine ⟨I3, ?_, k2⟩
      have hR := lsum_R (voice := I 64) (q := I 69) (p := fun j => nd (I 66) i j) (Lm_R f I) hM.1 i j
      have hp := pzL_R f I hM (I 64 j) (I 69 i) (I 69 j)
      rw [b_185_34, b_185_36, wr_n1 (by omega), wr_if (by omega), if_pos (by first | rfl | trivial)]) I (eM_r I)
  try dsimp only at l1 l2
  rw [e1] at l1
  have h58 := l2 58 (by omega) (by omega)
  have hR := lsum_R (voice := I 64) (q := I 69) (p := fun j => nd (I 66) i j) (Lm_R f I) hM.1 i (I 58 10).toNat
  refine ⟨I1, l1.trans ?_, l2⟩
  rw [b_185_4, h58, if_neg (by omega), b_185_42, wr_if (by omega)]
theorem s_186 (d : Nat) (w : Nat × Bool) (I J : Nat → Nat → Int) (f : Int → Int → Int → Int → Int) (i : Nat) (hd : 13 ≤ d) (hK : KM f w I) (hS : SMi i I) (hi : i < (I 58 10).toNat) :
    ∃ I', semC d 186 [vr 58, vi i] (mk w I J) = some (some (vi (cb (clr (Lm f I) (I 58 17) (I 64) (I 69) i) (I 58 10).toNat)), mk w I' J) ∧ eM I I' := by
  obtain ⟨e, rfl⟩ : ∃ e, d = e + 1 := ⟨d - 1, by omega⟩
  obtain ⟨hn, h64, h65, hM, hs, hds⟩ := id hS
  have e1 : ((I 58 10).toNat : Int) = I 58 10 := Int.toNat_of_nonneg hn.1
  have hi' := nat_lt hi
  rw [e_186, b_186_0]
  obtain ⟨I1, l1, l2⟩ := lpE (fun (j : Nat) (b : Nat → Nat → Int) => Sem e 186 4 [some (vr 58), some (vi (i : Int)), some (vi (cb (clr (Lm f I) (I 58 17) (I 64) (I 69) i) j)), some (vi (j : Int))] [] (mk w b J)) (fun _ b => eM I b) (I 58 10).toNat (by
    intro j I2 hj he
    try dsimp only at he ⊢
    have hj' := nat_lt hj
    have h58 := he 58 (by omega) (by omega)
    have h64' := he 64 (by omega) (by omega)
    obtain ⟨I3, k1, k2⟩ := s_181e e w I J f I2 i j (by omega) hK hS hi hj he
    rw [b_186_4, h58, if_pos (by omega), b_186_12, if_pos (by omega), nat_i, h64', semK_of k1, cb_s]
    simp only [mpush]
    refine ⟨I3, ?_, k2⟩
    rw [b_186_24]
    unfold pz clr
    by_cases c : I 58 17 < Lm f I (I 64 j) (I 69 i) (I 69 j)
    · rw [if_pos (by rw [if_pos (by omega)]; omega), b_186_27, b_186_33, wr_n1 (by omega), if_pos (decide_eq_true c)]
    · rw [if_neg (by rw [if_neg (by omega)]; omega), b_186_33, wr_n1 (by omega), if_neg (by simpa using c)]) I (eM_r I)
  try dsimp only at l1 l2
  rw [e1] at l1
  have h58 := l2 58 (by omega) (by omega)
  refine ⟨I1, l1.trans ?_, l2⟩
  rw [b_186_4, h58, if_neg (by omega), b_186_39]
/-- gains and harms are the worths -/
theorem gh_wt (L : Int → Int → Int → Int) (M : Int) (needs mind voice q : Nat → Int) (i : Nat) : ∀ n, 3 * lsum L M voice q (fun j => nd needs i j) i n - mind i * lsum L M voice q (fun j => !nd needs i j) i n = sm (fun j => wt L M needs mind voice q i j) n
  | 0 => by simp [lsum, sm]
  | n + 1 => by
    rw [sm_s, ← gh_wt L M needs mind voice q i n, lsum_s, lsum_s]
    unfold wt wv
    cases nd needs i n
    · simp only [Bool.not_false, if_true, Bool.false_eq_true, if_false, Int.add_zero, Int.mul_add, Int.neg_mul]
      omega
    · simp only [Bool.not_true, if_true, Bool.false_eq_true, if_false, Int.add_zero, Int.mul_add]
      omega
theorem s_188 (d : Nat) (w : Nat × Bool) (I J : Nat → Nat → Int) (f : Int → Int → Int → Int → Int) (hd : 14 ≤ d) (hK : KM f w I) (hS : SM I) :
    ∃ I', semC d 188 [vr 58] (mk w I J) = some (some (vi (nt (Lm f I) (I 58 17) (I 66) (I 65) (I 64) (I 69) (I 58 10).toNat)), mk w I' J) ∧ eM I I' := by
  obtain ⟨e, rfl⟩ : ∃ e, d = e + 1 := ⟨d - 1, by omega⟩
  obtain ⟨hn, h64, h65, hM, hs, hds⟩ := id hS
  have e1 : ((I 58 10).toNat : Int) = I 58 10 := Int.toNat_of_nonneg hn.1
  rw [e_188, b_188_0]
  obtain ⟨I1, l1, l2⟩ := lpE (fun (i : Nat) (b : Nat → Nat → Int) => Sem e 188 4 [some (vr 58), some (vi (sm (fun i => sm (fun j => wt (Lm f I) (I 58 17) (I 66) (I 65) (I 64) (I 69) i j) (I 58 10).toNat) i)), some (vi (i : Int))] [] (mk w b J)) (fun _ b => eM I b) (I 58 10).toNat (by
    intro i I2 hi he
    try dsimp only at he ⊢
    have hi' := nat_lt hi
    have h58 := he 58 (by omega) (by omega)
    have h64' := he 64 (by omega) (by omega)
    have h65' := he 65 (by omega) (by omega)
    have h66' := he 66 (by omega) (by omega)
    have h69' := he 69 (by omega) (by omega)
    obtain ⟨I3, k1, k2⟩ := s_185 e w I2 J f i (by omega) (KM_e hK he) (SMi_e (SM_i hS hi) he) (by rw [h58]; exact hi)
    have he3 := eM_t he k2
    obtain ⟨I4, k3, k4⟩ := s_184 e w I3 J f i (by omega) (KM_e hK he3) (SMi_e (SM_i hS hi) he3) (by rw [he3 58 (by omega) (by omega)]; exact hi)
    rw [Lm_e he, h58, h64', h66', h69'] at k1
    rw [Lm_e he3, he3 58 (by omega) (by omega), he3 64 (by omega) (by omega), he3 65 (by omega) (by omega), he3 66 (by omega) (by omega), he3 69 (by omega) (by omega)] at k3
    rw [b_188_4, h58, if_pos (by omega), b_188_12, semK_of k1]
    simp only [mpush]
    rw [b_188_18, semK_of k3]
    simp only [mpush]
    refine ⟨I4, ?_, eM_t he3 k4⟩
    have hRo := nt_R (needs := I 66) (voice := I 64) (q := I 69) (Lm_R f I) hM.1 h65 (n := (I 58 10).toNat) (by omega) i
    have hRi := smw_R (needs := I 66) (voice := I 64) (q := I 69) (Lm_R f I) hM.1 h65 i (I 58 10).toNat
    rw [b_188_23, wr_n1 (by omega), sm_s, gh_wt, wr_if (a := sm (fun j => wt (Lm f I) (I 58 17) (I 66) (I 65) (I 64) (I 69) i j) (I 58 10).toNat) (by omega), wr_if (by omega)]) I (eM_r I)
  try dsimp only at l1 l2
  rw [e1] at l1
  have h58 := l2 58 (by omega) (by omega)
  refine ⟨I1, l1.trans ?_, l2⟩
  rw [b_188_4, h58, if_neg (by omega), b_188_32]
  rfl
theorem ldI_s (L : Int → Int → Int → Int) (far : Int → Int → Int) (voice q : Nat → Int) (x : Int) (i : Nat) (m : Int) (j : Nat) : ldI L far voice q x i m (j + 1) = if 0 ≤ q i ∧ 0 ≤ q j ∧ x < far (q i) (q j) then (if ldI L far voice q x i m j < L (voice j) (q i) (q j) then L (voice j) (q i) (q j) else ldI L far voice q x i m j) else ldI L far voice q x i m j := rfl
theorem ldI_le (L : Int → Int → Int → Int) (far : Int → Int → Int) (voice q : Nat → Int) (x : Int) (i : Nat) (m M : Int) : ∀ n, ldI L far voice q x i m n ≤ M ↔ m ≤ M ∧ ∀ j, j < n → 0 ≤ q i → 0 ≤ q j → x < far (q i) (q j) → L (voice j) (q i) (q j) ≤ M
  | 0 => ⟨fun h => ⟨h, fun j hj => absurd hj (by omega)⟩, fun h => h.1⟩
  | n + 1 => by
    have ih := ldI_le L far voice q x i m M n
    rw [ldI_s]
    constructor
    · intro h
      have h1 : ldI L far voice q x i m n ≤ M := by (repeat' split at h) <;> omega
      refine ⟨(ih.1 h1).1, ?_⟩
      intro j hj a b c
      by_cases e : j = n
      · subst e
        rw [if_pos ⟨a, b, c⟩] at h
        split at h <;> omega
      · exact (ih.1 h1).2 j (by omega) a b c
    · rintro ⟨h1, h2⟩
      have h3 := ih.2 ⟨h1, fun j hj => h2 j (by omega)⟩
      split
      · rename_i c
        have := h2 n (by omega) c.1 c.2.1 c.2.2
        split <;> omega
      · exact h3
theorem ldO_le (L : Int → Int → Int → Int) (far : Int → Int → Int) (voice q : Nat → Int) (x : Int) (n : Nat) (M : Int) : ∀ k, ldO L far voice q x n k ≤ M ↔ 0 ≤ M ∧ ∀ i, i < k → ∀ j, j < n → 0 ≤ q i → 0 ≤ q j → x < far (q i) (q j) → L (voice j) (q i) (q j) ≤ M
  | 0 => ⟨fun h => ⟨h, fun j hj => absurd hj (by omega)⟩, fun h => h.1⟩
  | k + 1 => by
    have ih := ldO_le L far voice q x n M k
    show ldI L far voice q x k (ldO L far voice q x n k) n ≤ M ↔ _
    rw [ldI_le, ih]
    constructor
    · rintro ⟨⟨h1, h2⟩, h3⟩
      refine ⟨h1, fun i hi => ?_⟩
      by_cases e : i = k
      · subst e; exact h3
      · exact h2 i (by omega)
    · rintro ⟨h1, h2⟩
      exact ⟨⟨h1, fun i hi => h2 i (by omega)⟩, h2 k (by omega)⟩
theorem s_190 (d : Nat) (w : Nat × Bool) (I J : Nat → Nat → Int) (f : Int → Int → Int → Int → Int) (x : Int) (hd : 13 ≤ d) (hK : KM f w I) (hS : SM I) :
    ∃ I', semC d 190 [vr 58, vi x] (mk w I J) = some (some (vi (if ldO (Lm f I) (fun a b => farI (I 59) (I 60) a.toNat b.toNat) (I 64) (I 69) x (I 58 10).toNat (I 58 10).toNat ≤ I 58 17 then 1 else 0)), mk w I' J) ∧ eM I I' := by
  obtain ⟨e, rfl⟩ : ∃ e, d = e + 1 := ⟨d - 1, by omega⟩
  obtain ⟨hn, h64, h65, hM, hs, hds⟩ := id hS
  obtain ⟨-, -, p59, p60, -⟩ := hK.1
  have e1 : ((I 58 10).toNat : Int) = I 58 10 := Int.toNat_of_nonneg hn.1
  rw [e_190, b_190_0]
  have hle := ldO_le (Lm f I) (fun a b => farI (I 59) (I 60) a.toNat b.toNat) (I 64) (I 69) x (I 58 10).toNat (I 58 17) (I 58 10).toNat
  refine lpQ (fun (i : Nat) (b : (Nat → Nat → Int) × Option mVal) => Sem e 190 2 [some (vr 58), some (vi x), some (vi (i : Int)), b.2] [] (mk w b.1 J)) (fun i b => eM I b.1 ∧ ∀ i', i' < i → ∀ j, j < (I 58 10).toNat → 0 ≤ I 69 i' → 0 ≤ I 69 j → x < farI (I 59) (I 60) (I 69 i').toNat (I 69 j).toNat → Lm f I (I 64 j) (I 69 i') (I 69 j) ≤ I 58 17) (fun o => ∃ I', o = some (some (vi (if ldO (Lm f I) (fun a b => farI (I 59) (I 60) a.toNat b.toNat) (I 64) (I 69) x (I 58 10).toNat (I 58 10).toNat ≤ I 58 17 then 1 else 0)), mk w I' J) ∧ eM I I') (I 58 10).toNat ?_ ?_ (I, none) ⟨eM_r I, fun i' hi' => absurd hi' (by omega)⟩
  · rintro i ⟨I1, z⟩ hi ⟨he, hP⟩
    try dsimp only at he hP ⊢
    have hi' := nat_lt hi
    have h58 := he 58 (by omega) (by omega)
    rw [b_190_2, h58, if_pos (by omega), b_190_10]
    have key := lpQ (fun (j : Nat) (b : Nat → Nat → Int) => Sem e 190 12 [some (vr 58), some (vi x), some (vi (i : Int)), some (vi (j : Int))] [] (mk w b J)) (fun j b => eM I b ∧ ∀ j', j' < j → 0 ≤ I 69 i → 0 ≤ I 69 j' → x < farI (I 59) (I 60) (I 69 i).toNat (I 69 j').toNat → Lm f I (I 64 j') (I 69 i) (I 69 j') ≤ I 58 17)
      (fun o => (∃ b' : (Nat → Nat → Int) × Option mVal, o = Sem e 190 2 [some (vr 58), some (vi x), some (vi ((i + 1 : Nat) : Int)), b'.2] [] (mk w b'.1 J) ∧ eM I b'.1 ∧ ∀ i', i' < i + 1 → ∀ j, j < (I 58 10).toNat → 0 ≤ I 69 i' → 0 ≤ I 69 j → x < farI (I 59) (I 60) (I 69 i').toNat (I 69 j).toNat → Lm f I (I 64 j) (I 69 i') (I 69 j) ≤ I 58 17) ∨ ∃ I', o = some (some (vi (if ldO (Lm f I) (fun a b => farI (I 59) (I 60) a.toNat b.toNat) (I 64) (I 69) x (I 58 10).toNat (I 58 10).toNat ≤ I 58 17 then 1 else 0)), mk w I' J) ∧ eM I I') (I 58 10).toNat
    refine key ?_ ?_ I1 ⟨he, fun j' hj' => absurd hj' (by omega)⟩
    · rintro j I2 hj ⟨he, hP2⟩
      try dsimp only at he hP2 ⊢
      have hj' := nat_lt hj
      have h58 := he 58 (by omega) (by omega)
      have h64' := he 64 (by omega) (by omega)
      obtain ⟨I3, k1, k2⟩ := s_181e e w I J f I2 i j (by omega) hK (SM_i hS hi) hi hj he
      rw [b_190_12, h58, if_pos (by omega), b_190_20, if_pos (by omega), nat_i, h64', semK_of k1]
      simp only [mpush]
      rw [b_190_32]
      have hstep : Lm f I (I 64 j) (I 69 i) (I 69 j) ≤ I 58 17 ∨ ¬ x < farI (I 59) (I 60) (I 69 i).toNat (I 69 j).toNat → ∃ b', Sem e 190 57 [some (vr 58), some (vi x), some (vi (i : Int)), some (vi (j : Int))] [] (mk w I3 J) = Sem e 190 12 [some (vr 58), some (vi x), some (vi (i : Int)), some (vi ((j + 1 : Nat) : Int))] [] (mk w b' J) ∧ eM I b' ∧ ∀ j', j' < j + 1 → 0 ≤ I 69 i → 0 ≤ I 69 j' → x < farI (I 59) (I 60) (I 69 i).toNat (I 69 j').toNat → Lm f I (I 64 j') (I 69 i) (I 69 j') ≤ I 58 17 := by
        intro h
        refine ⟨I3, by rw [b_190_57, wr_n1 (by omega)], k2, ?_⟩
        intro j' hj' a b c
        by_cases q : j' = j
        · subst q; omega
        · exact hP2 j' (by omega) a b c
      unfold pz
      by_cases c : I 58 17 < Lm f I (I 64 j) (I 69 i) (I 69 j)
      · rw [if_pos (by rw [if_pos (by omega)]; omega), b_190_35, if_pos (by omega), if_pos (by omega), nat_i, nat_i]
        have hqi := hs i hi
        have hqj := hs j hj
        have hpos : 0 ≤ I 69 i ∧ 0 ≤ I 69 j := by
          by_cases q : I 69 i < 0 ∨ I 69 j < 0 ∨ I 69 i = I 69 j
          · have : Lm f I (I 64 j) (I 69 i) (I 69 j) = 0 := LV_z q
            omega
          · omega
        rw [k2 69 (by omega) (by omega), semK_of (s_176 _ _ _ _ _ _ (by omega) (by omega) (by omega) (by rw [k2 59 (by omega) (by omega)]; exact p59) (by rw [k2 60 (by omega) (by omega)]; exact p60)), k2 59 (by omega) (by omega), k2 60 (by omega) (by omega)]
        simp only [mpush]
        rw [b_190_51]
        by_cases c2 : x < farI (I 59) (I 60) (I 69 i).toNat (I 69 j).toNat
        · rw [if_pos c2, b_190_55]
          right; right
          refine ⟨I3, ?_, k2⟩
          rw [if_neg]
          rw [hle]
          rintro ⟨-, h⟩
          have := h i hi j hj hpos.1 hpos.2 c2
          omega
        · rw [if_neg c2]
          left
          exact hstep (Or.inr c2)
      · rw [if_neg (by rw [if_neg (by omega)]; omega)]
        left
        exact hstep (Or.inl (by omega))
    · rintro I2 ⟨he, hP2⟩
      try dsimp only at he hP2 ⊢
      have h58 := he 58 (by omega) (by omega)
      left
      refine ⟨(I2, some (vi ((I 58 10).toNat : Int))), ?_, he, ?_⟩
      · rw [b_190_12, h58, if_neg (by omega), b_190_63, wr_n1 (by omega)]
      · intro i' hi'
        by_cases q : i' = i
        · subst q; exact hP2
        · exact hP i' (by omega)
  · rintro ⟨I1, z⟩ ⟨he, hP⟩
    try dsimp only at he hP ⊢
    have h58 := he 58 (by omega) (by omega)
    refine ⟨I1, ?_, he⟩
    rw [b_190_2, h58, if_neg (by omega), b_190_69, if_pos (hle.2 ⟨hM.1, hP⟩)]
