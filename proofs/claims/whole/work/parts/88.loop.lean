/-! the law's loop -/
theorem mtg0 (w : Nat × Bool) (I J : Nat → Nat → Int) : (mtg (mk w I J) 0).2 = w.1 := rfl
/-- one turn of the loop's body -/
def Hop (L : Nat) (B : Nat → Int) (t d i pc : Nat) (w : Nat × Bool) (I J : Nat → Nat → Int) : Prop :=
  ∃ (t' : Nat) (w2 : Nat × Bool) (I2 J2 : Nat → Nat → Int), t' ≤ t + 11 ∧ Sem d 235 pc [some (vr 0), some (vr 3), some (vr 58), some (vi (i : Int))] [] (mk w I J) = Sem d 235 1375 [some (vr 0), some (vr 3), some (vr 58), some (vi (i : Int))] [] (mk w2 I2 J2) ∧ Inv L B t' w2 I2 J2
theorem sc_1 {i : Nat} (h : i ≤ 1000) : wr ((i : Int) + 1) = ((i + 1 : Nat) : Int) := by rw [wr_if (by omega)]; rfl
theorem sc_2 {i : Nat} (h : i ≤ 1000) : wr ((i : Int) + 2) = ((i + 2 : Nat) : Int) := by rw [wr_if (by omega)]; rfl
theorem sc_3 {i : Nat} (h : i ≤ 1000) : wr ((i : Int) + 3) = ((i + 3 : Nat) : Int) := by rw [wr_if (by omega)]; rfl
theorem sc_4 {i : Nat} (h : i ≤ 1000) : wr ((i : Int) + 4) = ((i + 4 : Nat) : Int) := by rw [wr_if (by omega)]; rfl
theorem sc_5 {i : Nat} (h : i ≤ 1000) : wr ((i : Int) + 5) = ((i + 5 : Nat) : Int) := by rw [wr_if (by omega)]; rfl
theorem sc_g {i L : Nat} (k : Nat) (h : i + 6 ≤ L) (hk : k ≤ 5) : 0 ≤ ((i + k : Nat) : Int) ∧ ((i + k : Nat) : Int) < (L : Int) := by omega
theorem h_0 (L : Nat) (B : Nat → Int) (t d i : Nat) (w : Nat × Bool) (I J : Nat → Nat → Int) (hR : ∀ k, iR (B k)) (hd : 1000 ≤ d) (ht : t ≤ 890) (hi : i + 6 ≤ L) (hL : L ≤ 1000) (h : Inv L B t w I J) : Hop L B t d i 200 w I J := by
  have hi0 : i ≤ 1000 := by omega
  have ht0 : t ≤ 1000 := by omega
  have g1 := sc_g (i := i) (L := L) 1 hi (by omega)
  have g2 := sc_g (i := i) (L := L) 2 hi (by omega)
  have g3 := sc_g (i := i) (L := L) 3 hi (by omega)
  have g4 := sc_g (i := i) (L := L) 4 hi (by omega)
  have g5 := sc_g (i := i) (L := L) 5 hi (by omega)
  obtain ⟨hw, hB⟩ := h.1
  obtain ⟨t', v, w1, I1, J1, w2, I2, J2, ht', k1, ⟨hw1, hB1⟩, m1, hI⟩ := StpI_J (q_93 L B t d w I J (B (i + 1)) (hR _) hd ht0 h)
  refine ⟨t', w2, I2, J2, ht', ?_, hI⟩
  rw [b_235_200]
  simp only [mtg0, hw, hB, sc_1 hi0, sc_2 hi0, sc_3 hi0, sc_4 hi0, sc_5 hi0, nat_i, if_pos g1, if_pos g2, if_pos g3, if_pos g4, if_pos g5]
  rw [semK_of k1]
  simp only [mpush]
  rw [b_235_209]
  simp only [mtg0, hw1, hB1, sc_1 hi0, sc_2 hi0, sc_3 hi0, sc_4 hi0, sc_5 hi0, nat_i, if_pos g1, if_pos g2, if_pos g3, if_pos g4, if_pos g5]
  rw [semK_of m1]
  simp only [mpush]
  rw [b_235_218, if_pos rfl]
theorem h_1 (L : Nat) (B : Nat → Int) (t d i : Nat) (w : Nat × Bool) (I J : Nat → Nat → Int) (hR : ∀ k, iR (B k)) (hd : 1000 ≤ d) (ht : t ≤ 890) (hi : i + 6 ≤ L) (hL : L ≤ 1000) (h : Inv L B t w I J) : Hop L B t d i 223 w I J := by
  have hi0 : i ≤ 1000 := by omega
  have ht0 : t ≤ 1000 := by omega
  have g1 := sc_g (i := i) (L := L) 1 hi (by omega)
  have g2 := sc_g (i := i) (L := L) 2 hi (by omega)
  have g3 := sc_g (i := i) (L := L) 3 hi (by omega)
  have g4 := sc_g (i := i) (L := L) 4 hi (by omega)
  have g5 := sc_g (i := i) (L := L) 5 hi (by omega)
  obtain ⟨hw, hB⟩ := h.1
  obtain ⟨t', v, w1, I1, J1, w2, I2, J2, ht', k1, ⟨hw1, hB1⟩, m1, hI⟩ := StpI_J (q_94 L B t d w I J (B (i + 1)) (hR _) hd ht0 h)
  refine ⟨t', w2, I2, J2, ht', ?_, hI⟩
  rw [b_235_223]
  simp only [mtg0, hw, hB, sc_1 hi0, sc_2 hi0, sc_3 hi0, sc_4 hi0, sc_5 hi0, nat_i, if_pos g1, if_pos g2, if_pos g3, if_pos g4, if_pos g5]
  rw [semK_of k1]
  simp only [mpush]
  rw [b_235_232]
  simp only [mtg0, hw1, hB1, sc_1 hi0, sc_2 hi0, sc_3 hi0, sc_4 hi0, sc_5 hi0, nat_i, if_pos g1, if_pos g2, if_pos g3, if_pos g4, if_pos g5]
  rw [semK_of m1]
  simp only [mpush]
  rw [b_235_241, if_pos rfl]
theorem h_2 (L : Nat) (B : Nat → Int) (t d i : Nat) (w : Nat × Bool) (I J : Nat → Nat → Int) (hR : ∀ k, iR (B k)) (hd : 1000 ≤ d) (ht : t ≤ 890) (hi : i + 6 ≤ L) (hL : L ≤ 1000) (h : Inv L B t w I J) : Hop L B t d i 246 w I J := by
  have hi0 : i ≤ 1000 := by omega
  have ht0 : t ≤ 1000 := by omega
  have g1 := sc_g (i := i) (L := L) 1 hi (by omega)
  have g2 := sc_g (i := i) (L := L) 2 hi (by omega)
  have g3 := sc_g (i := i) (L := L) 3 hi (by omega)
  have g4 := sc_g (i := i) (L := L) 4 hi (by omega)
  have g5 := sc_g (i := i) (L := L) 5 hi (by omega)
  obtain ⟨hw, hB⟩ := h.1
  obtain ⟨t', v, w1, I1, J1, w2, I2, J2, ht', k1, ⟨hw1, hB1⟩, m1, hI⟩ := q_95 L B t d w I J (B (i + 1)) (B (i + 2)) (B (i + 3)) (hR _) hd (by omega) h
  refine ⟨t', w2, I2, J2, ht', ?_, hI⟩
  rw [b_235_246]
  simp only [mtg0, hw, hB, sc_1 hi0, sc_2 hi0, sc_3 hi0, sc_4 hi0, sc_5 hi0, nat_i, if_pos g1, if_pos g2, if_pos g3, if_pos g4, if_pos g5]
  rw [semK_of k1]
  simp only [mpush]
  rw [b_235_265]
  simp only [mtg0, hw1, hB1, sc_1 hi0, sc_2 hi0, sc_3 hi0, sc_4 hi0, sc_5 hi0, nat_i, if_pos g1, if_pos g2, if_pos g3, if_pos g4, if_pos g5]
  rw [semK_of m1]
  simp only [mpush]
  rw [b_235_284, if_pos rfl]
theorem h_3 (L : Nat) (B : Nat → Int) (t d i : Nat) (w : Nat × Bool) (I J : Nat → Nat → Int) (hR : ∀ k, iR (B k)) (hd : 1000 ≤ d) (ht : t ≤ 890) (hi : i + 6 ≤ L) (hL : L ≤ 1000) (h : Inv L B t w I J) : Hop L B t d i 289 w I J := by
  have hi0 : i ≤ 1000 := by omega
  have ht0 : t ≤ 1000 := by omega
  have g1 := sc_g (i := i) (L := L) 1 hi (by omega)
  have g2 := sc_g (i := i) (L := L) 2 hi (by omega)
  have g3 := sc_g (i := i) (L := L) 3 hi (by omega)
  have g4 := sc_g (i := i) (L := L) 4 hi (by omega)
  have g5 := sc_g (i := i) (L := L) 5 hi (by omega)
  obtain ⟨hw, hB⟩ := h.1
  obtain ⟨t', v, w1, I1, J1, w2, I2, J2, ht', k1, ⟨hw1, hB1⟩, m1, hI⟩ := StpI_J (q_96 L B t d w I J (B (i + 1)) (B (i + 2)) (hR _) hd ht0 h)
  refine ⟨t', w2, I2, J2, ht', ?_, hI⟩
  rw [b_235_289]
  simp only [mtg0, hw, hB, sc_1 hi0, sc_2 hi0, sc_3 hi0, sc_4 hi0, sc_5 hi0, nat_i, if_pos g1, if_pos g2, if_pos g3, if_pos g4, if_pos g5]
  rw [semK_of k1]
  simp only [mpush]
  rw [b_235_303]
  simp only [mtg0, hw1, hB1, sc_1 hi0, sc_2 hi0, sc_3 hi0, sc_4 hi0, sc_5 hi0, nat_i, if_pos g1, if_pos g2, if_pos g3, if_pos g4, if_pos g5]
  rw [semK_of m1]
  simp only [mpush]
  rw [b_235_317, if_pos rfl]
theorem h_4 (L : Nat) (B : Nat → Int) (t d i : Nat) (w : Nat × Bool) (I J : Nat → Nat → Int) (hR : ∀ k, iR (B k)) (hd : 1000 ≤ d) (ht : t ≤ 890) (hi : i + 6 ≤ L) (hL : L ≤ 1000) (h : Inv L B t w I J) : Hop L B t d i 322 w I J := by
  have hi0 : i ≤ 1000 := by omega
  have ht0 : t ≤ 1000 := by omega
  have g1 := sc_g (i := i) (L := L) 1 hi (by omega)
  have g2 := sc_g (i := i) (L := L) 2 hi (by omega)
  have g3 := sc_g (i := i) (L := L) 3 hi (by omega)
  have g4 := sc_g (i := i) (L := L) 4 hi (by omega)
  have g5 := sc_g (i := i) (L := L) 5 hi (by omega)
  obtain ⟨hw, hB⟩ := h.1
  obtain ⟨t', v, w1, I1, J1, w2, I2, J2, ht', k1, ⟨hw1, hB1⟩, m1, hI⟩ := StpI_J (q_97 L B t d w I J (B (i + 1)) (B (i + 2)) (B (i + 3)) (hR _) (hR _) hd ht0 h)
  refine ⟨t', w2, I2, J2, ht', ?_, hI⟩
  rw [b_235_322]
  simp only [mtg0, hw, hB, sc_1 hi0, sc_2 hi0, sc_3 hi0, sc_4 hi0, sc_5 hi0, nat_i, if_pos g1, if_pos g2, if_pos g3, if_pos g4, if_pos g5]
  rw [semK_of k1]
  simp only [mpush]
  rw [b_235_341]
  simp only [mtg0, hw1, hB1, sc_1 hi0, sc_2 hi0, sc_3 hi0, sc_4 hi0, sc_5 hi0, nat_i, if_pos g1, if_pos g2, if_pos g3, if_pos g4, if_pos g5]
  rw [semK_of m1]
  simp only [mpush]
  rw [b_235_360, if_pos rfl]
theorem h_5 (L : Nat) (B : Nat → Int) (t d i : Nat) (w : Nat × Bool) (I J : Nat → Nat → Int) (hR : ∀ k, iR (B k)) (hd : 1000 ≤ d) (ht : t ≤ 890) (hi : i + 6 ≤ L) (hL : L ≤ 1000) (h : Inv L B t w I J) : Hop L B t d i 365 w I J := by
  have hi0 : i ≤ 1000 := by omega
  have ht0 : t ≤ 1000 := by omega
  have g1 := sc_g (i := i) (L := L) 1 hi (by omega)
  have g2 := sc_g (i := i) (L := L) 2 hi (by omega)
  have g3 := sc_g (i := i) (L := L) 3 hi (by omega)
  have g4 := sc_g (i := i) (L := L) 4 hi (by omega)
  have g5 := sc_g (i := i) (L := L) 5 hi (by omega)
  obtain ⟨hw, hB⟩ := h.1
  obtain ⟨t', v, w1, I1, J1, w2, I2, J2, ht', k1, ⟨hw1, hB1⟩, m1, hI⟩ := StpI_J (q_98 L B t d w I J (B (i + 1)) (B (i + 2))  hd ht0 h)
  refine ⟨t', w2, I2, J2, ht', ?_, hI⟩
  rw [b_235_365]
  simp only [mtg0, hw, hB, sc_1 hi0, sc_2 hi0, sc_3 hi0, sc_4 hi0, sc_5 hi0, nat_i, if_pos g1, if_pos g2, if_pos g3, if_pos g4, if_pos g5]
  rw [semK_of k1]
  simp only [mpush]
  rw [b_235_379]
  simp only [mtg0, hw1, hB1, sc_1 hi0, sc_2 hi0, sc_3 hi0, sc_4 hi0, sc_5 hi0, nat_i, if_pos g1, if_pos g2, if_pos g3, if_pos g4, if_pos g5]
  rw [semK_of m1]
  simp only [mpush]
  rw [b_235_393, if_pos rfl]
theorem h_6 (L : Nat) (B : Nat → Int) (t d i : Nat) (w : Nat × Bool) (I J : Nat → Nat → Int) (hR : ∀ k, iR (B k)) (hd : 1000 ≤ d) (ht : t ≤ 890) (hi : i + 6 ≤ L) (hL : L ≤ 1000) (h : Inv L B t w I J) : Hop L B t d i 398 w I J := by
  have hi0 : i ≤ 1000 := by omega
  have ht0 : t ≤ 1000 := by omega
  have g1 := sc_g (i := i) (L := L) 1 hi (by omega)
  have g2 := sc_g (i := i) (L := L) 2 hi (by omega)
  have g3 := sc_g (i := i) (L := L) 3 hi (by omega)
  have g4 := sc_g (i := i) (L := L) 4 hi (by omega)
  have g5 := sc_g (i := i) (L := L) 5 hi (by omega)
  obtain ⟨hw, hB⟩ := h.1
  obtain ⟨t', v, w1, I1, J1, w2, I2, J2, ht', k1, ⟨hw1, hB1⟩, m1, hI⟩ := StpI_J (q_99 L B t d w I J (B (i + 1)) (B (i + 2))  hd ht0 h)
  refine ⟨t', w2, I2, J2, ht', ?_, hI⟩
  rw [b_235_398]
  simp only [mtg0, hw, hB, sc_1 hi0, sc_2 hi0, sc_3 hi0, sc_4 hi0, sc_5 hi0, nat_i, if_pos g1, if_pos g2, if_pos g3, if_pos g4, if_pos g5]
  rw [semK_of k1]
  simp only [mpush]
  rw [b_235_412]
  simp only [mtg0, hw1, hB1, sc_1 hi0, sc_2 hi0, sc_3 hi0, sc_4 hi0, sc_5 hi0, nat_i, if_pos g1, if_pos g2, if_pos g3, if_pos g4, if_pos g5]
  rw [semK_of m1]
  simp only [mpush]
  rw [b_235_426, if_pos rfl]
theorem h_7 (L : Nat) (B : Nat → Int) (t d i : Nat) (w : Nat × Bool) (I J : Nat → Nat → Int) (hR : ∀ k, iR (B k)) (hd : 1000 ≤ d) (ht : t ≤ 890) (hi : i + 6 ≤ L) (hL : L ≤ 1000) (h : Inv L B t w I J) : Hop L B t d i 431 w I J := by
  have hi0 : i ≤ 1000 := by omega
  have ht0 : t ≤ 1000 := by omega
  have g1 := sc_g (i := i) (L := L) 1 hi (by omega)
  have g2 := sc_g (i := i) (L := L) 2 hi (by omega)
  have g3 := sc_g (i := i) (L := L) 3 hi (by omega)
  have g4 := sc_g (i := i) (L := L) 4 hi (by omega)
  have g5 := sc_g (i := i) (L := L) 5 hi (by omega)
  obtain ⟨hw, hB⟩ := h.1
  obtain ⟨t', v, w1, I1, J1, w2, I2, J2, ht', k1, ⟨hw1, hB1⟩, m1, hI⟩ := StpI_J (q_100 L B t d w I J (B (i + 1)) (B (i + 2)) (B (i + 3))  hd ht0 h)
  refine ⟨t', w2, I2, J2, ht', ?_, hI⟩
  rw [b_235_431]
  simp only [mtg0, hw, hB, sc_1 hi0, sc_2 hi0, sc_3 hi0, sc_4 hi0, sc_5 hi0, nat_i, if_pos g1, if_pos g2, if_pos g3, if_pos g4, if_pos g5]
  rw [semK_of k1]
  simp only [mpush]
  rw [b_235_450]
  simp only [mtg0, hw1, hB1, sc_1 hi0, sc_2 hi0, sc_3 hi0, sc_4 hi0, sc_5 hi0, nat_i, if_pos g1, if_pos g2, if_pos g3, if_pos g4, if_pos g5]
  rw [semK_of m1]
  simp only [mpush]
  rw [b_235_469, if_pos rfl]
theorem h_8 (L : Nat) (B : Nat → Int) (t d i : Nat) (w : Nat × Bool) (I J : Nat → Nat → Int) (hR : ∀ k, iR (B k)) (hd : 1000 ≤ d) (ht : t ≤ 890) (hi : i + 6 ≤ L) (hL : L ≤ 1000) (h : Inv L B t w I J) : Hop L B t d i 474 w I J := by
  have hi0 : i ≤ 1000 := by omega
  have ht0 : t ≤ 1000 := by omega
  have g1 := sc_g (i := i) (L := L) 1 hi (by omega)
  have g2 := sc_g (i := i) (L := L) 2 hi (by omega)
  have g3 := sc_g (i := i) (L := L) 3 hi (by omega)
  have g4 := sc_g (i := i) (L := L) 4 hi (by omega)
  have g5 := sc_g (i := i) (L := L) 5 hi (by omega)
  obtain ⟨hw, hB⟩ := h.1
  obtain ⟨t', v, w1, I1, J1, w2, I2, J2, ht', k1, ⟨hw1, hB1⟩, m1, hI⟩ := StpI_J (q_101 L B t d w I J (B (i + 1)) (B (i + 2))  hd h)
  refine ⟨t', w2, I2, J2, ht', ?_, hI⟩
  rw [b_235_474]
  simp only [mtg0, hw, hB, sc_1 hi0, sc_2 hi0, sc_3 hi0, sc_4 hi0, sc_5 hi0, nat_i, if_pos g1, if_pos g2, if_pos g3, if_pos g4, if_pos g5]
  rw [semK_of k1]
  simp only [mpush]
  rw [b_235_488]
  simp only [mtg0, hw1, hB1, sc_1 hi0, sc_2 hi0, sc_3 hi0, sc_4 hi0, sc_5 hi0, nat_i, if_pos g1, if_pos g2, if_pos g3, if_pos g4, if_pos g5]
  rw [semK_of m1]
  simp only [mpush]
  rw [b_235_502, if_pos rfl]
theorem h_9 (L : Nat) (B : Nat → Int) (t d i : Nat) (w : Nat × Bool) (I J : Nat → Nat → Int) (hR : ∀ k, iR (B k)) (hd : 1000 ≤ d) (ht : t ≤ 890) (hi : i + 6 ≤ L) (hL : L ≤ 1000) (h : Inv L B t w I J) : Hop L B t d i 507 w I J := by
  have hi0 : i ≤ 1000 := by omega
  have ht0 : t ≤ 1000 := by omega
  have g1 := sc_g (i := i) (L := L) 1 hi (by omega)
  have g2 := sc_g (i := i) (L := L) 2 hi (by omega)
  have g3 := sc_g (i := i) (L := L) 3 hi (by omega)
  have g4 := sc_g (i := i) (L := L) 4 hi (by omega)
  have g5 := sc_g (i := i) (L := L) 5 hi (by omega)
  obtain ⟨hw, hB⟩ := h.1
  obtain ⟨t', v, w1, I1, J1, w2, I2, J2, ht', k1, ⟨hw1, hB1⟩, m1, hI⟩ := StpI_J (q_102 L B t d w I J (B (i + 1))  hd ht0 h)
  refine ⟨t', w2, I2, J2, ht', ?_, hI⟩
  rw [b_235_507]
  simp only [mtg0, hw, hB, sc_1 hi0, sc_2 hi0, sc_3 hi0, sc_4 hi0, sc_5 hi0, nat_i, if_pos g1, if_pos g2, if_pos g3, if_pos g4, if_pos g5]
  rw [semK_of k1]
  simp only [mpush]
  rw [b_235_516]
  simp only [mtg0, hw1, hB1, sc_1 hi0, sc_2 hi0, sc_3 hi0, sc_4 hi0, sc_5 hi0, nat_i, if_pos g1, if_pos g2, if_pos g3, if_pos g4, if_pos g5]
  rw [semK_of m1]
  simp only [mpush]
  rw [b_235_525, if_pos rfl]
theorem h_10 (L : Nat) (B : Nat → Int) (t d i : Nat) (w : Nat × Bool) (I J : Nat → Nat → Int) (hR : ∀ k, iR (B k)) (hd : 1000 ≤ d) (ht : t ≤ 890) (hi : i + 6 ≤ L) (hL : L ≤ 1000) (h : Inv L B t w I J) : Hop L B t d i 530 w I J := by
  have hi0 : i ≤ 1000 := by omega
  have ht0 : t ≤ 1000 := by omega
  have g1 := sc_g (i := i) (L := L) 1 hi (by omega)
  have g2 := sc_g (i := i) (L := L) 2 hi (by omega)
  have g3 := sc_g (i := i) (L := L) 3 hi (by omega)
  have g4 := sc_g (i := i) (L := L) 4 hi (by omega)
  have g5 := sc_g (i := i) (L := L) 5 hi (by omega)
  obtain ⟨hw, hB⟩ := h.1
  obtain ⟨t', v, w1, I1, J1, w2, I2, J2, ht', k1, ⟨hw1, hB1⟩, m1, hI⟩ := StpI_J (q_103 L B t d w I J   hd ht0 h)
  refine ⟨t', w2, I2, J2, ht', ?_, hI⟩
  rw [b_235_530, semK_of k1]
  simp only [mpush]
  rw [b_235_534, semK_of m1]
  simp only [mpush]
  rw [b_235_538, if_pos rfl]
theorem h_11 (L : Nat) (B : Nat → Int) (t d i : Nat) (w : Nat × Bool) (I J : Nat → Nat → Int) (hR : ∀ k, iR (B k)) (hd : 1000 ≤ d) (ht : t ≤ 890) (hi : i + 6 ≤ L) (hL : L ≤ 1000) (h : Inv L B t w I J) : Hop L B t d i 543 w I J := by
  have hi0 : i ≤ 1000 := by omega
  have ht0 : t ≤ 1000 := by omega
  have g1 := sc_g (i := i) (L := L) 1 hi (by omega)
  have g2 := sc_g (i := i) (L := L) 2 hi (by omega)
  have g3 := sc_g (i := i) (L := L) 3 hi (by omega)
  have g4 := sc_g (i := i) (L := L) 4 hi (by omega)
  have g5 := sc_g (i := i) (L := L) 5 hi (by omega)
  obtain ⟨hw, hB⟩ := h.1
  obtain ⟨t', v, w1, I1, J1, w2, I2, J2, ht', k1, ⟨hw1, hB1⟩, m1, hI⟩ := StpI_J (q_104 L B t d w I J (B (i + 1)) (B (i + 2)) (hR _) hd h)
  refine ⟨t', w2, I2, J2, ht', ?_, hI⟩
  rw [b_235_543]
  simp only [mtg0, hw, hB, sc_1 hi0, sc_2 hi0, sc_3 hi0, sc_4 hi0, sc_5 hi0, nat_i, if_pos g1, if_pos g2, if_pos g3, if_pos g4, if_pos g5]
  rw [semK_of k1]
  simp only [mpush]
  rw [b_235_557]
  simp only [mtg0, hw1, hB1, sc_1 hi0, sc_2 hi0, sc_3 hi0, sc_4 hi0, sc_5 hi0, nat_i, if_pos g1, if_pos g2, if_pos g3, if_pos g4, if_pos g5]
  rw [semK_of m1]
  simp only [mpush]
  rw [b_235_571, if_pos rfl]
theorem h_12 (L : Nat) (B : Nat → Int) (t d i : Nat) (w : Nat × Bool) (I J : Nat → Nat → Int) (hR : ∀ k, iR (B k)) (hd : 1000 ≤ d) (ht : t ≤ 890) (hi : i + 6 ≤ L) (hL : L ≤ 1000) (h : Inv L B t w I J) : Hop L B t d i 576 w I J := by
  have hi0 : i ≤ 1000 := by omega
  have ht0 : t ≤ 1000 := by omega
  have g1 := sc_g (i := i) (L := L) 1 hi (by omega)
  have g2 := sc_g (i := i) (L := L) 2 hi (by omega)
  have g3 := sc_g (i := i) (L := L) 3 hi (by omega)
  have g4 := sc_g (i := i) (L := L) 4 hi (by omega)
  have g5 := sc_g (i := i) (L := L) 5 hi (by omega)
  obtain ⟨hw, hB⟩ := h.1
  obtain ⟨t', v, w1, I1, J1, w2, I2, J2, ht', k1, ⟨hw1, hB1⟩, m1, hI⟩ := StpI_J (q_105 L B t d w I J (B (i + 1)) (hR _) hd h)
  refine ⟨t', w2, I2, J2, ht', ?_, hI⟩
  rw [b_235_576]
  simp only [mtg0, hw, hB, sc_1 hi0, sc_2 hi0, sc_3 hi0, sc_4 hi0, sc_5 hi0, nat_i, if_pos g1, if_pos g2, if_pos g3, if_pos g4, if_pos g5]
  rw [semK_of k1]
  simp only [mpush]
  rw [b_235_585]
  simp only [mtg0, hw1, hB1, sc_1 hi0, sc_2 hi0, sc_3 hi0, sc_4 hi0, sc_5 hi0, nat_i, if_pos g1, if_pos g2, if_pos g3, if_pos g4, if_pos g5]
  rw [semK_of m1]
  simp only [mpush]
  rw [b_235_594, if_pos rfl]
theorem h_13 (L : Nat) (B : Nat → Int) (t d i : Nat) (w : Nat × Bool) (I J : Nat → Nat → Int) (hR : ∀ k, iR (B k)) (hd : 1000 ≤ d) (ht : t ≤ 890) (hi : i + 6 ≤ L) (hL : L ≤ 1000) (h : Inv L B t w I J) : Hop L B t d i 599 w I J := by
  have hi0 : i ≤ 1000 := by omega
  have ht0 : t ≤ 1000 := by omega
  have g1 := sc_g (i := i) (L := L) 1 hi (by omega)
  have g2 := sc_g (i := i) (L := L) 2 hi (by omega)
  have g3 := sc_g (i := i) (L := L) 3 hi (by omega)
  have g4 := sc_g (i := i) (L := L) 4 hi (by omega)
  have g5 := sc_g (i := i) (L := L) 5 hi (by omega)
  obtain ⟨hw, hB⟩ := h.1
  obtain ⟨t', v, w1, I1, J1, w2, I2, J2, ht', k1, ⟨hw1, hB1⟩, m1, hI⟩ := StpI_J (q_106 L B t d w I J (B (i + 1)) (B (i + 2))  hd h)
  refine ⟨t', w2, I2, J2, ht', ?_, hI⟩
  rw [b_235_599]
  simp only [mtg0, hw, hB, sc_1 hi0, sc_2 hi0, sc_3 hi0, sc_4 hi0, sc_5 hi0, nat_i, if_pos g1, if_pos g2, if_pos g3, if_pos g4, if_pos g5]
  rw [semK_of k1]
  simp only [mpush]
  rw [b_235_613]
  simp only [mtg0, hw1, hB1, sc_1 hi0, sc_2 hi0, sc_3 hi0, sc_4 hi0, sc_5 hi0, nat_i, if_pos g1, if_pos g2, if_pos g3, if_pos g4, if_pos g5]
  rw [semK_of m1]
  simp only [mpush]
  rw [b_235_627, if_pos rfl]
theorem h_14 (L : Nat) (B : Nat → Int) (t d i : Nat) (w : Nat × Bool) (I J : Nat → Nat → Int) (hR : ∀ k, iR (B k)) (hd : 1000 ≤ d) (ht : t ≤ 890) (hi : i + 6 ≤ L) (hL : L ≤ 1000) (h : Inv L B t w I J) : Hop L B t d i 632 w I J := by
  have hi0 : i ≤ 1000 := by omega
  have ht0 : t ≤ 1000 := by omega
  have g1 := sc_g (i := i) (L := L) 1 hi (by omega)
  have g2 := sc_g (i := i) (L := L) 2 hi (by omega)
  have g3 := sc_g (i := i) (L := L) 3 hi (by omega)
  have g4 := sc_g (i := i) (L := L) 4 hi (by omega)
  have g5 := sc_g (i := i) (L := L) 5 hi (by omega)
  obtain ⟨hw, hB⟩ := h.1
  obtain ⟨t', v, w1, I1, J1, w2, I2, J2, ht', k1, ⟨hw1, hB1⟩, m1, hI⟩ := StpI_J (q_107 L B t d w I J   hd h)
  refine ⟨t', w2, I2, J2, ht', ?_, hI⟩
  rw [b_235_632, semK_of k1]
  simp only [mpush]
  rw [b_235_636, semK_of m1]
  simp only [mpush]
  rw [b_235_640, if_pos rfl]
theorem h_15 (L : Nat) (B : Nat → Int) (t d i : Nat) (w : Nat × Bool) (I J : Nat → Nat → Int) (hR : ∀ k, iR (B k)) (hd : 1000 ≤ d) (ht : t ≤ 890) (hi : i + 6 ≤ L) (hL : L ≤ 1000) (h : Inv L B t w I J) : Hop L B t d i 645 w I J := by
  have hi0 : i ≤ 1000 := by omega
  have ht0 : t ≤ 1000 := by omega
  have g1 := sc_g (i := i) (L := L) 1 hi (by omega)
  have g2 := sc_g (i := i) (L := L) 2 hi (by omega)
  have g3 := sc_g (i := i) (L := L) 3 hi (by omega)
  have g4 := sc_g (i := i) (L := L) 4 hi (by omega)
  have g5 := sc_g (i := i) (L := L) 5 hi (by omega)
  obtain ⟨hw, hB⟩ := h.1
  obtain ⟨t', v, w1, I1, J1, w2, I2, J2, ht', k1, ⟨hw1, hB1⟩, m1, hI⟩ := StpI_J (q_108 L B t d w I J (B (i + 1))  hd h)
  refine ⟨t', w2, I2, J2, ht', ?_, hI⟩
  rw [b_235_645]
  simp only [mtg0, hw, hB, sc_1 hi0, sc_2 hi0, sc_3 hi0, sc_4 hi0, sc_5 hi0, nat_i, if_pos g1, if_pos g2, if_pos g3, if_pos g4, if_pos g5]
  rw [semK_of k1]
  simp only [mpush]
  rw [b_235_654]
  simp only [mtg0, hw1, hB1, sc_1 hi0, sc_2 hi0, sc_3 hi0, sc_4 hi0, sc_5 hi0, nat_i, if_pos g1, if_pos g2, if_pos g3, if_pos g4, if_pos g5]
  rw [semK_of m1]
  simp only [mpush]
  rw [b_235_663, if_pos rfl]
theorem h_16 (L : Nat) (B : Nat → Int) (t d i : Nat) (w : Nat × Bool) (I J : Nat → Nat → Int) (hR : ∀ k, iR (B k)) (hd : 1000 ≤ d) (ht : t ≤ 890) (hi : i + 6 ≤ L) (hL : L ≤ 1000) (h : Inv L B t w I J) : Hop L B t d i 668 w I J := by
  have hi0 : i ≤ 1000 := by omega
  have ht0 : t ≤ 1000 := by omega
  have g1 := sc_g (i := i) (L := L) 1 hi (by omega)
  have g2 := sc_g (i := i) (L := L) 2 hi (by omega)
  have g3 := sc_g (i := i) (L := L) 3 hi (by omega)
  have g4 := sc_g (i := i) (L := L) 4 hi (by omega)
  have g5 := sc_g (i := i) (L := L) 5 hi (by omega)
  obtain ⟨hw, hB⟩ := h.1
  obtain ⟨t', v, w1, I1, J1, w2, I2, J2, ht', k1, ⟨hw1, hB1⟩, m1, hI⟩ := StpI_J (q_109 L B t d w I J (B (i + 1))  hd ht0 h)
  refine ⟨t', w2, I2, J2, ht', ?_, hI⟩
  rw [b_235_668]
  simp only [mtg0, hw, hB, sc_1 hi0, sc_2 hi0, sc_3 hi0, sc_4 hi0, sc_5 hi0, nat_i, if_pos g1, if_pos g2, if_pos g3, if_pos g4, if_pos g5]
  rw [semK_of k1]
  simp only [mpush]
  rw [b_235_677]
  simp only [mtg0, hw1, hB1, sc_1 hi0, sc_2 hi0, sc_3 hi0, sc_4 hi0, sc_5 hi0, nat_i, if_pos g1, if_pos g2, if_pos g3, if_pos g4, if_pos g5]
  rw [semK_of m1]
  simp only [mpush]
  rw [b_235_686, if_pos rfl]
theorem h_17 (L : Nat) (B : Nat → Int) (t d i : Nat) (w : Nat × Bool) (I J : Nat → Nat → Int) (hR : ∀ k, iR (B k)) (hd : 1000 ≤ d) (ht : t ≤ 890) (hi : i + 6 ≤ L) (hL : L ≤ 1000) (h : Inv L B t w I J) : Hop L B t d i 691 w I J := by
  have hi0 : i ≤ 1000 := by omega
  have ht0 : t ≤ 1000 := by omega
  have g1 := sc_g (i := i) (L := L) 1 hi (by omega)
  have g2 := sc_g (i := i) (L := L) 2 hi (by omega)
  have g3 := sc_g (i := i) (L := L) 3 hi (by omega)
  have g4 := sc_g (i := i) (L := L) 4 hi (by omega)
  have g5 := sc_g (i := i) (L := L) 5 hi (by omega)
  obtain ⟨hw, hB⟩ := h.1
  obtain ⟨t', v, w1, I1, J1, w2, I2, J2, ht', k1, ⟨hw1, hB1⟩, m1, hI⟩ := StpI_J (q_110 L B t d w I J (B (i + 1)) (B (i + 2))  hd h)
  refine ⟨t', w2, I2, J2, ht', ?_, hI⟩
  rw [b_235_691]
  simp only [mtg0, hw, hB, sc_1 hi0, sc_2 hi0, sc_3 hi0, sc_4 hi0, sc_5 hi0, nat_i, if_pos g1, if_pos g2, if_pos g3, if_pos g4, if_pos g5]
  rw [semK_of k1]
  simp only [mpush]
  rw [b_235_705]
  simp only [mtg0, hw1, hB1, sc_1 hi0, sc_2 hi0, sc_3 hi0, sc_4 hi0, sc_5 hi0, nat_i, if_pos g1, if_pos g2, if_pos g3, if_pos g4, if_pos g5]
  rw [semK_of m1]
  simp only [mpush]
  rw [b_235_719, if_pos rfl]
theorem h_18 (L : Nat) (B : Nat → Int) (t d i : Nat) (w : Nat × Bool) (I J : Nat → Nat → Int) (hR : ∀ k, iR (B k)) (hd : 1000 ≤ d) (ht : t ≤ 890) (hi : i + 6 ≤ L) (hL : L ≤ 1000) (h : Inv L B t w I J) : Hop L B t d i 724 w I J := by
  have hi0 : i ≤ 1000 := by omega
  have ht0 : t ≤ 1000 := by omega
  have g1 := sc_g (i := i) (L := L) 1 hi (by omega)
  have g2 := sc_g (i := i) (L := L) 2 hi (by omega)
  have g3 := sc_g (i := i) (L := L) 3 hi (by omega)
  have g4 := sc_g (i := i) (L := L) 4 hi (by omega)
  have g5 := sc_g (i := i) (L := L) 5 hi (by omega)
  obtain ⟨hw, hB⟩ := h.1
  obtain ⟨t', v, w1, I1, J1, w2, I2, J2, ht', k1, ⟨hw1, hB1⟩, m1, hI⟩ := StpI_J (q_111 L B t d w I J   hd h)
  refine ⟨t', w2, I2, J2, ht', ?_, hI⟩
  rw [b_235_724, semK_of k1]
  simp only [mpush]
  rw [b_235_728, semK_of m1]
  simp only [mpush]
  rw [b_235_732, if_pos rfl]
theorem h_19 (L : Nat) (B : Nat → Int) (t d i : Nat) (w : Nat × Bool) (I J : Nat → Nat → Int) (hR : ∀ k, iR (B k)) (hd : 1000 ≤ d) (ht : t ≤ 890) (hi : i + 6 ≤ L) (hL : L ≤ 1000) (h : Inv L B t w I J) : Hop L B t d i 737 w I J := by
  have hi0 : i ≤ 1000 := by omega
  have ht0 : t ≤ 1000 := by omega
  have g1 := sc_g (i := i) (L := L) 1 hi (by omega)
  have g2 := sc_g (i := i) (L := L) 2 hi (by omega)
  have g3 := sc_g (i := i) (L := L) 3 hi (by omega)
  have g4 := sc_g (i := i) (L := L) 4 hi (by omega)
  have g5 := sc_g (i := i) (L := L) 5 hi (by omega)
  obtain ⟨hw, hB⟩ := h.1
  obtain ⟨t', v, w1, I1, J1, w2, I2, J2, ht', k1, ⟨hw1, hB1⟩, m1, hI⟩ := StpI_J (q_112 L B t d w I J (B (i + 1))  hd h)
  refine ⟨t', w2, I2, J2, ht', ?_, hI⟩
  rw [b_235_737]
  simp only [mtg0, hw, hB, sc_1 hi0, sc_2 hi0, sc_3 hi0, sc_4 hi0, sc_5 hi0, nat_i, if_pos g1, if_pos g2, if_pos g3, if_pos g4, if_pos g5]
  rw [semK_of k1]
  simp only [mpush]
  rw [b_235_746]
  simp only [mtg0, hw1, hB1, sc_1 hi0, sc_2 hi0, sc_3 hi0, sc_4 hi0, sc_5 hi0, nat_i, if_pos g1, if_pos g2, if_pos g3, if_pos g4, if_pos g5]
  rw [semK_of m1]
  simp only [mpush]
  rw [b_235_755, if_pos rfl]
theorem h_20 (L : Nat) (B : Nat → Int) (t d i : Nat) (w : Nat × Bool) (I J : Nat → Nat → Int) (hR : ∀ k, iR (B k)) (hd : 1000 ≤ d) (ht : t ≤ 890) (hi : i + 6 ≤ L) (hL : L ≤ 1000) (h : Inv L B t w I J) : Hop L B t d i 760 w I J := by
  have hi0 : i ≤ 1000 := by omega
  have ht0 : t ≤ 1000 := by omega
  have g1 := sc_g (i := i) (L := L) 1 hi (by omega)
  have g2 := sc_g (i := i) (L := L) 2 hi (by omega)
  have g3 := sc_g (i := i) (L := L) 3 hi (by omega)
  have g4 := sc_g (i := i) (L := L) 4 hi (by omega)
  have g5 := sc_g (i := i) (L := L) 5 hi (by omega)
  obtain ⟨hw, hB⟩ := h.1
  obtain ⟨t', v, w1, I1, J1, w2, I2, J2, ht', k1, ⟨hw1, hB1⟩, m1, hI⟩ := StpI_J (q_113 L B t d w I J (B (i + 1))  hd h)
  refine ⟨t', w2, I2, J2, ht', ?_, hI⟩
  rw [b_235_760]
  simp only [mtg0, hw, hB, sc_1 hi0, sc_2 hi0, sc_3 hi0, sc_4 hi0, sc_5 hi0, nat_i, if_pos g1, if_pos g2, if_pos g3, if_pos g4, if_pos g5]
  rw [semK_of k1]
  simp only [mpush]
  rw [b_235_769]
  simp only [mtg0, hw1, hB1, sc_1 hi0, sc_2 hi0, sc_3 hi0, sc_4 hi0, sc_5 hi0, nat_i, if_pos g1, if_pos g2, if_pos g3, if_pos g4, if_pos g5]
  rw [semK_of m1]
  simp only [mpush]
  rw [b_235_778, if_pos rfl]
theorem h_21 (L : Nat) (B : Nat → Int) (t d i : Nat) (w : Nat × Bool) (I J : Nat → Nat → Int) (hR : ∀ k, iR (B k)) (hd : 1000 ≤ d) (ht : t ≤ 890) (hi : i + 6 ≤ L) (hL : L ≤ 1000) (h : Inv L B t w I J) : Hop L B t d i 783 w I J := by
  have hi0 : i ≤ 1000 := by omega
  have ht0 : t ≤ 1000 := by omega
  have g1 := sc_g (i := i) (L := L) 1 hi (by omega)
  have g2 := sc_g (i := i) (L := L) 2 hi (by omega)
  have g3 := sc_g (i := i) (L := L) 3 hi (by omega)
  have g4 := sc_g (i := i) (L := L) 4 hi (by omega)
  have g5 := sc_g (i := i) (L := L) 5 hi (by omega)
  obtain ⟨hw, hB⟩ := h.1
  obtain ⟨t', v, w1, I1, J1, w2, I2, J2, ht', k1, ⟨hw1, hB1⟩, m1, hI⟩ := StpI_J (q_114 L B t d w I J (B (i + 1)) (B (i + 2)) (B (i + 3))  hd h)
  refine ⟨t', w2, I2, J2, ht', ?_, hI⟩
  rw [b_235_783]
  simp only [mtg0, hw, hB, sc_1 hi0, sc_2 hi0, sc_3 hi0, sc_4 hi0, sc_5 hi0, nat_i, if_pos g1, if_pos g2, if_pos g3, if_pos g4, if_pos g5]
  rw [semK_of k1]
  simp only [mpush]
  rw [b_235_802]
  simp only [mtg0, hw1, hB1, sc_1 hi0, sc_2 hi0, sc_3 hi0, sc_4 hi0, sc_5 hi0, nat_i, if_pos g1, if_pos g2, if_pos g3, if_pos g4, if_pos g5]
  rw [semK_of m1]
  simp only [mpush]
  rw [b_235_821, if_pos rfl]
theorem h_22 (L : Nat) (B : Nat → Int) (t d i : Nat) (w : Nat × Bool) (I J : Nat → Nat → Int) (hR : ∀ k, iR (B k)) (hd : 1000 ≤ d) (ht : t ≤ 890) (hi : i + 6 ≤ L) (hL : L ≤ 1000) (h : Inv L B t w I J) : Hop L B t d i 826 w I J := by
  have hi0 : i ≤ 1000 := by omega
  have ht0 : t ≤ 1000 := by omega
  have g1 := sc_g (i := i) (L := L) 1 hi (by omega)
  have g2 := sc_g (i := i) (L := L) 2 hi (by omega)
  have g3 := sc_g (i := i) (L := L) 3 hi (by omega)
  have g4 := sc_g (i := i) (L := L) 4 hi (by omega)
  have g5 := sc_g (i := i) (L := L) 5 hi (by omega)
  obtain ⟨hw, hB⟩ := h.1
  obtain ⟨t', v, w1, I1, J1, w2, I2, J2, ht', k1, ⟨hw1, hB1⟩, m1, hI⟩ := StpI_J (q_115 L B t d w I J (B (i + 1)) (B (i + 2)) (B (i + 3))  hd h)
  refine ⟨t', w2, I2, J2, ht', ?_, hI⟩
  rw [b_235_826]
  simp only [mtg0, hw, hB, sc_1 hi0, sc_2 hi0, sc_3 hi0, sc_4 hi0, sc_5 hi0, nat_i, if_pos g1, if_pos g2, if_pos g3, if_pos g4, if_pos g5]
  rw [semK_of k1]
  simp only [mpush]
  rw [b_235_845]
  simp only [mtg0, hw1, hB1, sc_1 hi0, sc_2 hi0, sc_3 hi0, sc_4 hi0, sc_5 hi0, nat_i, if_pos g1, if_pos g2, if_pos g3, if_pos g4, if_pos g5]
  rw [semK_of m1]
  simp only [mpush]
  rw [b_235_864, if_pos rfl]
theorem h_23 (L : Nat) (B : Nat → Int) (t d i : Nat) (w : Nat × Bool) (I J : Nat → Nat → Int) (hR : ∀ k, iR (B k)) (hd : 1000 ≤ d) (ht : t ≤ 890) (hi : i + 6 ≤ L) (hL : L ≤ 1000) (h : Inv L B t w I J) : Hop L B t d i 869 w I J := by
  have hi0 : i ≤ 1000 := by omega
  have ht0 : t ≤ 1000 := by omega
  have g1 := sc_g (i := i) (L := L) 1 hi (by omega)
  have g2 := sc_g (i := i) (L := L) 2 hi (by omega)
  have g3 := sc_g (i := i) (L := L) 3 hi (by omega)
  have g4 := sc_g (i := i) (L := L) 4 hi (by omega)
  have g5 := sc_g (i := i) (L := L) 5 hi (by omega)
  obtain ⟨hw, hB⟩ := h.1
  obtain ⟨t', v, w1, I1, J1, w2, I2, J2, ht', k1, ⟨hw1, hB1⟩, m1, hI⟩ := StpI_J (q_116 L B t d w I J (B (i + 1))  hd h)
  refine ⟨t', w2, I2, J2, ht', ?_, hI⟩
  rw [b_235_869]
  simp only [mtg0, hw, hB, sc_1 hi0, sc_2 hi0, sc_3 hi0, sc_4 hi0, sc_5 hi0, nat_i, if_pos g1, if_pos g2, if_pos g3, if_pos g4, if_pos g5]
  rw [semK_of k1]
  simp only [mpush]
  rw [b_235_878]
  simp only [mtg0, hw1, hB1, sc_1 hi0, sc_2 hi0, sc_3 hi0, sc_4 hi0, sc_5 hi0, nat_i, if_pos g1, if_pos g2, if_pos g3, if_pos g4, if_pos g5]
  rw [semK_of m1]
  simp only [mpush]
  rw [b_235_887, if_pos rfl]
theorem h_24 (L : Nat) (B : Nat → Int) (t d i : Nat) (w : Nat × Bool) (I J : Nat → Nat → Int) (hR : ∀ k, iR (B k)) (hd : 1000 ≤ d) (ht : t ≤ 890) (hi : i + 6 ≤ L) (hL : L ≤ 1000) (h : Inv L B t w I J) : Hop L B t d i 892 w I J := by
  have hi0 : i ≤ 1000 := by omega
  have ht0 : t ≤ 1000 := by omega
  have g1 := sc_g (i := i) (L := L) 1 hi (by omega)
  have g2 := sc_g (i := i) (L := L) 2 hi (by omega)
  have g3 := sc_g (i := i) (L := L) 3 hi (by omega)
  have g4 := sc_g (i := i) (L := L) 4 hi (by omega)
  have g5 := sc_g (i := i) (L := L) 5 hi (by omega)
  obtain ⟨hw, hB⟩ := h.1
  obtain ⟨t', v, w1, I1, J1, w2, I2, J2, ht', k1, ⟨hw1, hB1⟩, m1, hI⟩ := StpI_J (q_117 L B t d w I J (B (i + 1))  hd h)
  refine ⟨t', w2, I2, J2, ht', ?_, hI⟩
  rw [b_235_892]
  simp only [mtg0, hw, hB, sc_1 hi0, sc_2 hi0, sc_3 hi0, sc_4 hi0, sc_5 hi0, nat_i, if_pos g1, if_pos g2, if_pos g3, if_pos g4, if_pos g5]
  rw [semK_of k1]
  simp only [mpush]
  rw [b_235_901]
  simp only [mtg0, hw1, hB1, sc_1 hi0, sc_2 hi0, sc_3 hi0, sc_4 hi0, sc_5 hi0, nat_i, if_pos g1, if_pos g2, if_pos g3, if_pos g4, if_pos g5]
  rw [semK_of m1]
  simp only [mpush]
  rw [b_235_910, if_pos rfl]
theorem h_25 (L : Nat) (B : Nat → Int) (t d i : Nat) (w : Nat × Bool) (I J : Nat → Nat → Int) (hR : ∀ k, iR (B k)) (hd : 1000 ≤ d) (ht : t ≤ 890) (hi : i + 6 ≤ L) (hL : L ≤ 1000) (h : Inv L B t w I J) : Hop L B t d i 915 w I J := by
  have hi0 : i ≤ 1000 := by omega
  have ht0 : t ≤ 1000 := by omega
  have g1 := sc_g (i := i) (L := L) 1 hi (by omega)
  have g2 := sc_g (i := i) (L := L) 2 hi (by omega)
  have g3 := sc_g (i := i) (L := L) 3 hi (by omega)
  have g4 := sc_g (i := i) (L := L) 4 hi (by omega)
  have g5 := sc_g (i := i) (L := L) 5 hi (by omega)
  obtain ⟨hw, hB⟩ := h.1
  obtain ⟨t', v, w1, I1, J1, w2, I2, J2, ht', k1, ⟨hw1, hB1⟩, m1, hI⟩ := StpI_J (q_118 L B t d w I J (B (i + 1)) (B (i + 2)) (B (i + 3)) (hR _) hd h)
  refine ⟨t', w2, I2, J2, ht', ?_, hI⟩
  rw [b_235_915]
  simp only [mtg0, hw, hB, sc_1 hi0, sc_2 hi0, sc_3 hi0, sc_4 hi0, sc_5 hi0, nat_i, if_pos g1, if_pos g2, if_pos g3, if_pos g4, if_pos g5]
  rw [semK_of k1]
  simp only [mpush]
  rw [b_235_934]
  simp only [mtg0, hw1, hB1, sc_1 hi0, sc_2 hi0, sc_3 hi0, sc_4 hi0, sc_5 hi0, nat_i, if_pos g1, if_pos g2, if_pos g3, if_pos g4, if_pos g5]
  rw [semK_of m1]
  simp only [mpush]
  rw [b_235_953, if_pos rfl]
theorem h_26 (L : Nat) (B : Nat → Int) (t d i : Nat) (w : Nat × Bool) (I J : Nat → Nat → Int) (hR : ∀ k, iR (B k)) (hd : 1000 ≤ d) (ht : t ≤ 890) (hi : i + 6 ≤ L) (hL : L ≤ 1000) (h : Inv L B t w I J) : Hop L B t d i 958 w I J := by
  have hi0 : i ≤ 1000 := by omega
  have ht0 : t ≤ 1000 := by omega
  have g1 := sc_g (i := i) (L := L) 1 hi (by omega)
  have g2 := sc_g (i := i) (L := L) 2 hi (by omega)
  have g3 := sc_g (i := i) (L := L) 3 hi (by omega)
  have g4 := sc_g (i := i) (L := L) 4 hi (by omega)
  have g5 := sc_g (i := i) (L := L) 5 hi (by omega)
  obtain ⟨hw, hB⟩ := h.1
  obtain ⟨t', v, w1, I1, J1, w2, I2, J2, ht', k1, ⟨hw1, hB1⟩, m1, hI⟩ := StpI_J (q_119 L B t d w I J   hd ht0 h)
  refine ⟨t', w2, I2, J2, ht', ?_, hI⟩
  rw [b_235_958, semK_of k1]
  simp only [mpush]
  rw [b_235_962, semK_of m1]
  simp only [mpush]
  rw [b_235_966, if_pos rfl]
theorem h_27 (L : Nat) (B : Nat → Int) (t d i : Nat) (w : Nat × Bool) (I J : Nat → Nat → Int) (hR : ∀ k, iR (B k)) (hd : 1000 ≤ d) (ht : t ≤ 890) (hi : i + 6 ≤ L) (hL : L ≤ 1000) (h : Inv L B t w I J) : Hop L B t d i 971 w I J := by
  have hi0 : i ≤ 1000 := by omega
  have ht0 : t ≤ 1000 := by omega
  have g1 := sc_g (i := i) (L := L) 1 hi (by omega)
  have g2 := sc_g (i := i) (L := L) 2 hi (by omega)
  have g3 := sc_g (i := i) (L := L) 3 hi (by omega)
  have g4 := sc_g (i := i) (L := L) 4 hi (by omega)
  have g5 := sc_g (i := i) (L := L) 5 hi (by omega)
  obtain ⟨hw, hB⟩ := h.1
  obtain ⟨t', v, w1, I1, J1, w2, I2, J2, ht', k1, ⟨hw1, hB1⟩, m1, hI⟩ := StpI_J (q_120 L B t d w I J   hd ht0 h)
  refine ⟨t', w2, I2, J2, ht', ?_, hI⟩
  rw [b_235_971, semK_of k1]
  simp only [mpush]
  rw [b_235_975, semK_of m1]
  simp only [mpush]
  rw [b_235_979, if_pos rfl]
theorem h_28 (L : Nat) (B : Nat → Int) (t d i : Nat) (w : Nat × Bool) (I J : Nat → Nat → Int) (hR : ∀ k, iR (B k)) (hd : 1000 ≤ d) (ht : t ≤ 890) (hi : i + 6 ≤ L) (hL : L ≤ 1000) (h : Inv L B t w I J) : Hop L B t d i 984 w I J := by
  have hi0 : i ≤ 1000 := by omega
  have ht0 : t ≤ 1000 := by omega
  have g1 := sc_g (i := i) (L := L) 1 hi (by omega)
  have g2 := sc_g (i := i) (L := L) 2 hi (by omega)
  have g3 := sc_g (i := i) (L := L) 3 hi (by omega)
  have g4 := sc_g (i := i) (L := L) 4 hi (by omega)
  have g5 := sc_g (i := i) (L := L) 5 hi (by omega)
  obtain ⟨hw, hB⟩ := h.1
  obtain ⟨t', v, w1, I1, J1, w2, I2, J2, ht', k1, ⟨hw1, hB1⟩, m1, hI⟩ := StpI_J (q_121 L B t d w I J (B (i + 1))  hd ht0 h)
  refine ⟨t', w2, I2, J2, ht', ?_, hI⟩
  rw [b_235_984]
  simp only [mtg0, hw, hB, sc_1 hi0, sc_2 hi0, sc_3 hi0, sc_4 hi0, sc_5 hi0, nat_i, if_pos g1, if_pos g2, if_pos g3, if_pos g4, if_pos g5]
  rw [semK_of k1]
  simp only [mpush]
  rw [b_235_993]
  simp only [mtg0, hw1, hB1, sc_1 hi0, sc_2 hi0, sc_3 hi0, sc_4 hi0, sc_5 hi0, nat_i, if_pos g1, if_pos g2, if_pos g3, if_pos g4, if_pos g5]
  rw [semK_of m1]
  simp only [mpush]
  rw [b_235_1002, if_pos rfl]
theorem h_29 (L : Nat) (B : Nat → Int) (t d i : Nat) (w : Nat × Bool) (I J : Nat → Nat → Int) (hR : ∀ k, iR (B k)) (hd : 1000 ≤ d) (ht : t ≤ 890) (hi : i + 6 ≤ L) (hL : L ≤ 1000) (h : Inv L B t w I J) : Hop L B t d i 1007 w I J := by
  have hi0 : i ≤ 1000 := by omega
  have ht0 : t ≤ 1000 := by omega
  have g1 := sc_g (i := i) (L := L) 1 hi (by omega)
  have g2 := sc_g (i := i) (L := L) 2 hi (by omega)
  have g3 := sc_g (i := i) (L := L) 3 hi (by omega)
  have g4 := sc_g (i := i) (L := L) 4 hi (by omega)
  have g5 := sc_g (i := i) (L := L) 5 hi (by omega)
  obtain ⟨hw, hB⟩ := h.1
  obtain ⟨t', v, w1, I1, J1, w2, I2, J2, ht', k1, ⟨hw1, hB1⟩, m1, hI⟩ := StpI_J (q_122 L B t d w I J (B (i + 1)) (B (i + 2)) (B (i + 3))  hd ht0 h)
  refine ⟨t', w2, I2, J2, ht', ?_, hI⟩
  rw [b_235_1007]
  simp only [mtg0, hw, hB, sc_1 hi0, sc_2 hi0, sc_3 hi0, sc_4 hi0, sc_5 hi0, nat_i, if_pos g1, if_pos g2, if_pos g3, if_pos g4, if_pos g5]
  rw [semK_of k1]
  simp only [mpush]
  rw [b_235_1026]
  simp only [mtg0, hw1, hB1, sc_1 hi0, sc_2 hi0, sc_3 hi0, sc_4 hi0, sc_5 hi0, nat_i, if_pos g1, if_pos g2, if_pos g3, if_pos g4, if_pos g5]
  rw [semK_of m1]
  simp only [mpush]
  rw [b_235_1045, if_pos rfl]
theorem h_30 (L : Nat) (B : Nat → Int) (t d i : Nat) (w : Nat × Bool) (I J : Nat → Nat → Int) (hR : ∀ k, iR (B k)) (hd : 1000 ≤ d) (ht : t ≤ 890) (hi : i + 6 ≤ L) (hL : L ≤ 1000) (h : Inv L B t w I J) : Hop L B t d i 1050 w I J := by
  have hi0 : i ≤ 1000 := by omega
  have ht0 : t ≤ 1000 := by omega
  have g1 := sc_g (i := i) (L := L) 1 hi (by omega)
  have g2 := sc_g (i := i) (L := L) 2 hi (by omega)
  have g3 := sc_g (i := i) (L := L) 3 hi (by omega)
  have g4 := sc_g (i := i) (L := L) 4 hi (by omega)
  have g5 := sc_g (i := i) (L := L) 5 hi (by omega)
  obtain ⟨hw, hB⟩ := h.1
  obtain ⟨t', v, w1, I1, J1, w2, I2, J2, ht', k1, ⟨hw1, hB1⟩, m1, hI⟩ := StpI_J (q_123 L B t d w I J (B (i + 1))  hd h)
  refine ⟨t', w2, I2, J2, ht', ?_, hI⟩
  rw [b_235_1050]
  simp only [mtg0, hw, hB, sc_1 hi0, sc_2 hi0, sc_3 hi0, sc_4 hi0, sc_5 hi0, nat_i, if_pos g1, if_pos g2, if_pos g3, if_pos g4, if_pos g5]
  rw [semK_of k1]
  simp only [mpush]
  rw [b_235_1059]
  simp only [mtg0, hw1, hB1, sc_1 hi0, sc_2 hi0, sc_3 hi0, sc_4 hi0, sc_5 hi0, nat_i, if_pos g1, if_pos g2, if_pos g3, if_pos g4, if_pos g5]
  rw [semK_of m1]
  simp only [mpush]
  rw [b_235_1068, if_pos rfl]
theorem h_31 (L : Nat) (B : Nat → Int) (t d i : Nat) (w : Nat × Bool) (I J : Nat → Nat → Int) (hR : ∀ k, iR (B k)) (hd : 1000 ≤ d) (ht : t ≤ 890) (hi : i + 6 ≤ L) (hL : L ≤ 1000) (h : Inv L B t w I J) : Hop L B t d i 1073 w I J := by
  have hi0 : i ≤ 1000 := by omega
  have ht0 : t ≤ 1000 := by omega
  have g1 := sc_g (i := i) (L := L) 1 hi (by omega)
  have g2 := sc_g (i := i) (L := L) 2 hi (by omega)
  have g3 := sc_g (i := i) (L := L) 3 hi (by omega)
  have g4 := sc_g (i := i) (L := L) 4 hi (by omega)
  have g5 := sc_g (i := i) (L := L) 5 hi (by omega)
  obtain ⟨hw, hB⟩ := h.1
  obtain ⟨t', v, w1, I1, J1, w2, I2, J2, ht', k1, ⟨hw1, hB1⟩, m1, hI⟩ := StpI_J (q_124 L B t d w I J (B (i + 1)) (B (i + 2))  hd ht0 h)
  refine ⟨t', w2, I2, J2, ht', ?_, hI⟩
  rw [b_235_1073]
  simp only [mtg0, hw, hB, sc_1 hi0, sc_2 hi0, sc_3 hi0, sc_4 hi0, sc_5 hi0, nat_i, if_pos g1, if_pos g2, if_pos g3, if_pos g4, if_pos g5]
  rw [semK_of k1]
  simp only [mpush]
  rw [b_235_1087]
  simp only [mtg0, hw1, hB1, sc_1 hi0, sc_2 hi0, sc_3 hi0, sc_4 hi0, sc_5 hi0, nat_i, if_pos g1, if_pos g2, if_pos g3, if_pos g4, if_pos g5]
  rw [semK_of m1]
  simp only [mpush]
  rw [b_235_1101, if_pos rfl]
theorem h_32 (L : Nat) (B : Nat → Int) (t d i : Nat) (w : Nat × Bool) (I J : Nat → Nat → Int) (hR : ∀ k, iR (B k)) (hd : 1000 ≤ d) (ht : t ≤ 890) (hi : i + 6 ≤ L) (hL : L ≤ 1000) (h : Inv L B t w I J) : Hop L B t d i 1106 w I J := by
  have hi0 : i ≤ 1000 := by omega
  have ht0 : t ≤ 1000 := by omega
  have g1 := sc_g (i := i) (L := L) 1 hi (by omega)
  have g2 := sc_g (i := i) (L := L) 2 hi (by omega)
  have g3 := sc_g (i := i) (L := L) 3 hi (by omega)
  have g4 := sc_g (i := i) (L := L) 4 hi (by omega)
  have g5 := sc_g (i := i) (L := L) 5 hi (by omega)
  obtain ⟨hw, hB⟩ := h.1
  obtain ⟨t', v, w1, I1, J1, w2, I2, J2, ht', k1, ⟨hw1, hB1⟩, m1, hI⟩ := StpI_J (q_125 L B t d w I J (B (i + 1)) (B (i + 2)) (B (i + 3))  hd ht0 h)
  refine ⟨t', w2, I2, J2, ht', ?_, hI⟩
  rw [b_235_1106]
  simp only [mtg0, hw, hB, sc_1 hi0, sc_2 hi0, sc_3 hi0, sc_4 hi0, sc_5 hi0, nat_i, if_pos g1, if_pos g2, if_pos g3, if_pos g4, if_pos g5]
  rw [semK_of k1]
  simp only [mpush]
  rw [b_235_1125]
  simp only [mtg0, hw1, hB1, sc_1 hi0, sc_2 hi0, sc_3 hi0, sc_4 hi0, sc_5 hi0, nat_i, if_pos g1, if_pos g2, if_pos g3, if_pos g4, if_pos g5]
  rw [semK_of m1]
  simp only [mpush]
  rw [b_235_1144, if_pos rfl]
theorem h_33 (L : Nat) (B : Nat → Int) (t d i : Nat) (w : Nat × Bool) (I J : Nat → Nat → Int) (hR : ∀ k, iR (B k)) (hd : 1000 ≤ d) (ht : t ≤ 890) (hi : i + 6 ≤ L) (hL : L ≤ 1000) (h : Inv L B t w I J) : Hop L B t d i 1149 w I J := by
  have hi0 : i ≤ 1000 := by omega
  have ht0 : t ≤ 1000 := by omega
  have g1 := sc_g (i := i) (L := L) 1 hi (by omega)
  have g2 := sc_g (i := i) (L := L) 2 hi (by omega)
  have g3 := sc_g (i := i) (L := L) 3 hi (by omega)
  have g4 := sc_g (i := i) (L := L) 4 hi (by omega)
  have g5 := sc_g (i := i) (L := L) 5 hi (by omega)
  obtain ⟨hw, hB⟩ := h.1
  obtain ⟨t', v, w1, I1, J1, w2, I2, J2, ht', k1, ⟨hw1, hB1⟩, m1, hI⟩ := StpI_J (q_126 L B t d w I J (B (i + 1)) (B (i + 2)) (lor (lshl (B (i + 3)) (32 : Int)) (land (B (i + 4)) (4294967295 : Int)))  hd ht0 h)
  refine ⟨t', w2, I2, J2, ht', ?_, hI⟩
  rw [b_235_1149]
  simp only [mtg0, hw, hB, sc_1 hi0, sc_2 hi0, sc_3 hi0, sc_4 hi0, sc_5 hi0, nat_i, if_pos g1, if_pos g2, if_pos g3, if_pos g4, if_pos g5]
  rw [semK_of k1]
  simp only [mpush]
  rw [b_235_1183]
  simp only [mtg0, hw1, hB1, sc_1 hi0, sc_2 hi0, sc_3 hi0, sc_4 hi0, sc_5 hi0, nat_i, if_pos g1, if_pos g2, if_pos g3, if_pos g4, if_pos g5]
  rw [semK_of m1]
  simp only [mpush]
  rw [b_235_1217, if_pos rfl]
theorem h_34 (L : Nat) (B : Nat → Int) (t d i : Nat) (w : Nat × Bool) (I J : Nat → Nat → Int) (hR : ∀ k, iR (B k)) (hd : 1000 ≤ d) (ht : t ≤ 890) (hi : i + 6 ≤ L) (hL : L ≤ 1000) (h : Inv L B t w I J) : Hop L B t d i 1222 w I J := by
  have hi0 : i ≤ 1000 := by omega
  have ht0 : t ≤ 1000 := by omega
  have g1 := sc_g (i := i) (L := L) 1 hi (by omega)
  have g2 := sc_g (i := i) (L := L) 2 hi (by omega)
  have g3 := sc_g (i := i) (L := L) 3 hi (by omega)
  have g4 := sc_g (i := i) (L := L) 4 hi (by omega)
  have g5 := sc_g (i := i) (L := L) 5 hi (by omega)
  obtain ⟨hw, hB⟩ := h.1
  obtain ⟨v, k1, m1, hI⟩ := q_127 L B t d w I J (B (i + 1)) (B (i + 2))  hd ht0 h
  refine ⟨t, w, I, J, by omega, ?_, hI⟩
  rw [b_235_1222]
  simp only [mtg0, hw, hB, sc_1 hi0, sc_2 hi0, sc_3 hi0, sc_4 hi0, sc_5 hi0, nat_i, if_pos g1, if_pos g2, if_pos g3, if_pos g4, if_pos g5]
  rw [semK_of k1]
  simp only [mpush]
  rw [b_235_1236]
  simp only [mtg0, hw, hB, sc_1 hi0, sc_2 hi0, sc_3 hi0, sc_4 hi0, sc_5 hi0, nat_i, if_pos g1, if_pos g2, if_pos g3, if_pos g4, if_pos g5]
  rw [semK_of m1]
  simp only [mpush]
  rw [b_235_1250, if_pos (by rw [lc2])]
theorem h_35 (L : Nat) (B : Nat → Int) (t d i : Nat) (w : Nat × Bool) (I J : Nat → Nat → Int) (hR : ∀ k, iR (B k)) (hd : 1000 ≤ d) (ht : t ≤ 890) (hi : i + 6 ≤ L) (hL : L ≤ 1000) (h : Inv L B t w I J) : Hop L B t d i 1256 w I J := by
  have hi0 : i ≤ 1000 := by omega
  have ht0 : t ≤ 1000 := by omega
  have g1 := sc_g (i := i) (L := L) 1 hi (by omega)
  have g2 := sc_g (i := i) (L := L) 2 hi (by omega)
  have g3 := sc_g (i := i) (L := L) 3 hi (by omega)
  have g4 := sc_g (i := i) (L := L) 4 hi (by omega)
  have g5 := sc_g (i := i) (L := L) 5 hi (by omega)
  obtain ⟨hw, hB⟩ := h.1
  obtain ⟨t', v, w1, I1, J1, w2, I2, J2, ht', k1, ⟨hw1, hB1⟩, m1, hI⟩ := StpI_J (q_128 L B t d w I J (B (i + 1)) (B (i + 2)) (B (i + 3)) (B (i + 4)) (B (i + 5)) (hR _) (hR _) (hR _) hd ht0 h)
  refine ⟨t', w2, I2, J2, ht', ?_, hI⟩
  rw [b_235_1256]
  simp only [mtg0, hw, hB, sc_1 hi0, sc_2 hi0, sc_3 hi0, sc_4 hi0, sc_5 hi0, nat_i, if_pos g1, if_pos g2, if_pos g3, if_pos g4, if_pos g5]
  rw [semK_of k1]
  simp only [mpush]
  rw [b_235_1285]
  simp only [mtg0, hw1, hB1, sc_1 hi0, sc_2 hi0, sc_3 hi0, sc_4 hi0, sc_5 hi0, nat_i, if_pos g1, if_pos g2, if_pos g3, if_pos g4, if_pos g5]
  rw [semK_of m1]
  simp only [mpush]
  rw [b_235_1314, if_pos rfl]
theorem h_36 (L : Nat) (B : Nat → Int) (t d i : Nat) (w : Nat × Bool) (I J : Nat → Nat → Int) (hR : ∀ k, iR (B k)) (hd : 1000 ≤ d) (ht : t ≤ 890) (hi : i + 6 ≤ L) (hL : L ≤ 1000) (h : Inv L B t w I J) : Hop L B t d i 1319 w I J := by
  have hi0 : i ≤ 1000 := by omega
  have ht0 : t ≤ 1000 := by omega
  have g1 := sc_g (i := i) (L := L) 1 hi (by omega)
  have g2 := sc_g (i := i) (L := L) 2 hi (by omega)
  have g3 := sc_g (i := i) (L := L) 3 hi (by omega)
  have g4 := sc_g (i := i) (L := L) 4 hi (by omega)
  have g5 := sc_g (i := i) (L := L) 5 hi (by omega)
  obtain ⟨hw, hB⟩ := h.1
  obtain ⟨t', v, w1, I1, J1, w2, I2, J2, ht', k1, ⟨hw1, hB1⟩, m1, hI⟩ := StpI_J (q_129 L B t d w I J (B (i + 1)) (B (i + 2))  hd ht0 h)
  refine ⟨t', w2, I2, J2, ht', ?_, hI⟩
  rw [b_235_1319]
  simp only [mtg0, hw, hB, sc_1 hi0, sc_2 hi0, sc_3 hi0, sc_4 hi0, sc_5 hi0, nat_i, if_pos g1, if_pos g2, if_pos g3, if_pos g4, if_pos g5]
  rw [semK_of k1]
  simp only [mpush]
  rw [b_235_1333]
  simp only [mtg0, hw1, hB1, sc_1 hi0, sc_2 hi0, sc_3 hi0, sc_4 hi0, sc_5 hi0, nat_i, if_pos g1, if_pos g2, if_pos g3, if_pos g4, if_pos g5]
  rw [semK_of m1]
  simp only [mpush]
  rw [b_235_1347, if_pos rfl]
theorem h_37 (L : Nat) (B : Nat → Int) (t d i : Nat) (w : Nat × Bool) (I J : Nat → Nat → Int) (hR : ∀ k, iR (B k)) (hd : 1000 ≤ d) (ht : t ≤ 890) (hi : i + 6 ≤ L) (hL : L ≤ 1000) (h : Inv L B t w I J) : Hop L B t d i 1352 w I J := by
  have hi0 : i ≤ 1000 := by omega
  have ht0 : t ≤ 1000 := by omega
  have g1 := sc_g (i := i) (L := L) 1 hi (by omega)
  have g2 := sc_g (i := i) (L := L) 2 hi (by omega)
  have g3 := sc_g (i := i) (L := L) 3 hi (by omega)
  have g4 := sc_g (i := i) (L := L) 4 hi (by omega)
  have g5 := sc_g (i := i) (L := L) 5 hi (by omega)
  obtain ⟨hw, hB⟩ := h.1
  obtain ⟨t', v, w1, I1, J1, w2, I2, J2, ht', k1, ⟨hw1, hB1⟩, m1, hI⟩ := StpI_J (q_130 L B t d w I J (B (i + 1))  hd h)
  refine ⟨t', w2, I2, J2, ht', ?_, hI⟩
  rw [b_235_1352]
  simp only [mtg0, hw, hB, sc_1 hi0, sc_2 hi0, sc_3 hi0, sc_4 hi0, sc_5 hi0, nat_i, if_pos g1, if_pos g2, if_pos g3, if_pos g4, if_pos g5]
  rw [semK_of k1]
  simp only [mpush]
  rw [b_235_1361]
  simp only [mtg0, hw1, hB1, sc_1 hi0, sc_2 hi0, sc_3 hi0, sc_4 hi0, sc_5 hi0, nat_i, if_pos g1, if_pos g2, if_pos g3, if_pos g4, if_pos g5]
  rw [semK_of m1]
  simp only [mpush]
  rw [b_235_1370, if_pos rfl]
/-- any turn -/
theorem hop (L : Nat) (B : Nat → Int) (t d i : Nat) (w : Nat × Bool) (I J : Nat → Nat → Int) (hR : ∀ k, iR (B k)) (hd : 1000 ≤ d) (ht : t ≤ 890) (hi : i + 6 ≤ L) (hL : L ≤ 1000) (h : Inv L B t w I J) : Hop L B t d i 27 w I J := by
  obtain ⟨hw, hB⟩ := h.1
  unfold Hop
  rw [b_235_27, mtg0, hw, if_pos (by omega)]
  by_cases c0 : iand (I 0 ((i : Int)).toNat) 63 = 0
  · rw [if_pos c0]; exact h_0 L B t d i w I J hR hd ht hi hL h
  rw [if_neg c0]
  by_cases c1 : iand (I 0 ((i : Int)).toNat) 63 = 1
  · rw [if_pos c1]; exact h_1 L B t d i w I J hR hd ht hi hL h
  rw [if_neg c1]
  by_cases c2 : iand (I 0 ((i : Int)).toNat) 63 = 2
  · rw [if_pos c2]; exact h_2 L B t d i w I J hR hd ht hi hL h
  rw [if_neg c2]
  by_cases c3 : iand (I 0 ((i : Int)).toNat) 63 = 3
  · rw [if_pos c3]; exact h_3 L B t d i w I J hR hd ht hi hL h
  rw [if_neg c3]
  by_cases c4 : iand (I 0 ((i : Int)).toNat) 63 = 4
  · rw [if_pos c4]; exact h_4 L B t d i w I J hR hd ht hi hL h
  rw [if_neg c4]
  by_cases c5 : iand (I 0 ((i : Int)).toNat) 63 = 5
  · rw [if_pos c5]; exact h_5 L B t d i w I J hR hd ht hi hL h
  rw [if_neg c5]
  by_cases c6 : iand (I 0 ((i : Int)).toNat) 63 = 6
  · rw [if_pos c6]; exact h_6 L B t d i w I J hR hd ht hi hL h
  rw [if_neg c6]
  by_cases c7 : iand (I 0 ((i : Int)).toNat) 63 = 7
  · rw [if_pos c7]; exact h_7 L B t d i w I J hR hd ht hi hL h
  rw [if_neg c7]
  by_cases c8 : iand (I 0 ((i : Int)).toNat) 63 = 8
  · rw [if_pos c8]; exact h_8 L B t d i w I J hR hd ht hi hL h
  rw [if_neg c8]
  by_cases c9 : iand (I 0 ((i : Int)).toNat) 63 = 9
  · rw [if_pos c9]; exact h_9 L B t d i w I J hR hd ht hi hL h
  rw [if_neg c9]
  by_cases c10 : iand (I 0 ((i : Int)).toNat) 63 = 10
  · rw [if_pos c10]; exact h_10 L B t d i w I J hR hd ht hi hL h
  rw [if_neg c10]
  by_cases c11 : iand (I 0 ((i : Int)).toNat) 63 = 11
  · rw [if_pos c11]; exact h_11 L B t d i w I J hR hd ht hi hL h
  rw [if_neg c11]
  by_cases c12 : iand (I 0 ((i : Int)).toNat) 63 = 12
  · rw [if_pos c12]; exact h_12 L B t d i w I J hR hd ht hi hL h
  rw [if_neg c12]
  by_cases c13 : iand (I 0 ((i : Int)).toNat) 63 = 13
  · rw [if_pos c13]; exact h_13 L B t d i w I J hR hd ht hi hL h
  rw [if_neg c13]
  by_cases c14 : iand (I 0 ((i : Int)).toNat) 63 = 14
  · rw [if_pos c14]; exact h_14 L B t d i w I J hR hd ht hi hL h
  rw [if_neg c14]
  by_cases c15 : iand (I 0 ((i : Int)).toNat) 63 = 15
  · rw [if_pos c15]; exact h_15 L B t d i w I J hR hd ht hi hL h
  rw [if_neg c15]
  by_cases c16 : iand (I 0 ((i : Int)).toNat) 63 = 16
  · rw [if_pos c16]; exact h_16 L B t d i w I J hR hd ht hi hL h
  rw [if_neg c16]
  by_cases c17 : iand (I 0 ((i : Int)).toNat) 63 = 17
  · rw [if_pos c17]; exact h_17 L B t d i w I J hR hd ht hi hL h
  rw [if_neg c17]
  by_cases c18 : iand (I 0 ((i : Int)).toNat) 63 = 18
  · rw [if_pos c18]; exact h_18 L B t d i w I J hR hd ht hi hL h
  rw [if_neg c18]
  by_cases c19 : iand (I 0 ((i : Int)).toNat) 63 = 19
  · rw [if_pos c19]; exact h_19 L B t d i w I J hR hd ht hi hL h
  rw [if_neg c19]
  by_cases c20 : iand (I 0 ((i : Int)).toNat) 63 = 20
  · rw [if_pos c20]; exact h_20 L B t d i w I J hR hd ht hi hL h
  rw [if_neg c20]
  by_cases c21 : iand (I 0 ((i : Int)).toNat) 63 = 21
  · rw [if_pos c21]; exact h_21 L B t d i w I J hR hd ht hi hL h
  rw [if_neg c21]
  by_cases c22 : iand (I 0 ((i : Int)).toNat) 63 = 22
  · rw [if_pos c22]; exact h_22 L B t d i w I J hR hd ht hi hL h
  rw [if_neg c22]
  by_cases c23 : iand (I 0 ((i : Int)).toNat) 63 = 23
  · rw [if_pos c23]; exact h_23 L B t d i w I J hR hd ht hi hL h
  rw [if_neg c23]
  by_cases c24 : iand (I 0 ((i : Int)).toNat) 63 = 24
  · rw [if_pos c24]; exact h_24 L B t d i w I J hR hd ht hi hL h
  rw [if_neg c24]
  by_cases c25 : iand (I 0 ((i : Int)).toNat) 63 = 25
  · rw [if_pos c25]; exact h_25 L B t d i w I J hR hd ht hi hL h
  rw [if_neg c25]
  by_cases c26 : iand (I 0 ((i : Int)).toNat) 63 = 26
  · rw [if_pos c26]; exact h_26 L B t d i w I J hR hd ht hi hL h
  rw [if_neg c26]
  by_cases c27 : iand (I 0 ((i : Int)).toNat) 63 = 27
  · rw [if_pos c27]; exact h_27 L B t d i w I J hR hd ht hi hL h
  rw [if_neg c27]
  by_cases c28 : iand (I 0 ((i : Int)).toNat) 63 = 28
  · rw [if_pos c28]; exact h_28 L B t d i w I J hR hd ht hi hL h
  rw [if_neg c28]
  by_cases c29 : iand (I 0 ((i : Int)).toNat) 63 = 29
  · rw [if_pos c29]; exact h_29 L B t d i w I J hR hd ht hi hL h
  rw [if_neg c29]
  by_cases c30 : iand (I 0 ((i : Int)).toNat) 63 = 30
  · rw [if_pos c30]; exact h_30 L B t d i w I J hR hd ht hi hL h
  rw [if_neg c30]
  by_cases c31 : iand (I 0 ((i : Int)).toNat) 63 = 31
  · rw [if_pos c31]; exact h_31 L B t d i w I J hR hd ht hi hL h
  rw [if_neg c31]
  by_cases c32 : iand (I 0 ((i : Int)).toNat) 63 = 32
  · rw [if_pos c32]; exact h_32 L B t d i w I J hR hd ht hi hL h
  rw [if_neg c32]
  by_cases c33 : iand (I 0 ((i : Int)).toNat) 63 = 33
  · rw [if_pos c33]; exact h_33 L B t d i w I J hR hd ht hi hL h
  rw [if_neg c33]
  by_cases c34 : iand (I 0 ((i : Int)).toNat) 63 = 34
  · rw [if_pos c34]; exact h_34 L B t d i w I J hR hd ht hi hL h
  rw [if_neg c34]
  by_cases c35 : iand (I 0 ((i : Int)).toNat) 63 = 35
  · rw [if_pos c35]; exact h_35 L B t d i w I J hR hd ht hi hL h
  rw [if_neg c35]
  by_cases c36 : iand (I 0 ((i : Int)).toNat) 63 = 36
  · rw [if_pos c36]; exact h_36 L B t d i w I J hR hd ht hi hL h
  rw [if_neg c36]
  by_cases c37 : iand (I 0 ((i : Int)).toNat) 63 = 37
  · rw [if_pos c37]; exact h_37 L B t d i w I J hR hd ht hi hL h
  rw [if_neg c37]
  exact ⟨t, w, I, J, by omega, rfl, h⟩
theorem law_lp (L : Nat) (B : Nat → Int) (d : Nat) (hR : ∀ k, iR (B k)) (hd : 1000 ≤ d) (hL : L ≤ 400) : ∀ (m i t : Nat) (w : Nat × Bool) (I J : Nat → Nat → Int), Inv L B t w I J → L < i + 6 * m → t + 11 * m ≤ 890 → i ≤ 1000 → ∃ w' I' J', Sem d 235 18 [some (vr 0), some (vr 3), some (vr 58), some (vi (i : Int))] [] (mk w I J) = some (some (vi 1), mk w' I' J')
  | 0, i, t, w, I, J, h, hm, _, hi => by
    rw [b_235_18, mtg0, h.1.1, wr_if (by omega), if_pos (by omega), b_235_1381]
    exact ⟨w, I, J, rfl⟩
  | m + 1, i, t, w, I, J, h, hm, ht, hi => by
    rw [b_235_18, mtg0, h.1.1, wr_if (by omega)]
    by_cases c : (L : Int) - 6 < (i : Int)
    · rw [if_pos c, b_235_1381]
      exact ⟨w, I, J, rfl⟩
    · obtain ⟨t', w2, I2, J2, q1, q2, q3⟩ := hop L B t d i w I J hR hd (by omega) (by omega) (by omega) h
      rw [if_neg c, q2, b_235_1375, show wr ((i : Int) + 6) = ((i + 6 : Nat) : Int) by rw [wr_if (by omega)]; rfl]
      exact law_lp L B d hR hd hL m (i + 6) t' w2 I2 J2 q3 (by omega) (by omega) (by omega)
