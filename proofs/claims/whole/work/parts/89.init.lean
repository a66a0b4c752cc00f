/-! behind the constructors -/
set_option maxRecDepth 1000000 in
theorem i0_r0 (L : Nat) (xs : Nat → Int32) : I0 L xs 0 = fun k => (xs k).toInt := rfl
set_option maxRecDepth 1000000 in
theorem i0_r1 (L : Nat) (xs : Nat → Int32) : I0 L xs 1 = fun k => ownQ.getD k 0 := rfl
set_option maxRecDepth 1000000 in
theorem i0_r2 (L : Nat) (xs : Nat → Int32) : I0 L xs 2 = fun k => aboveQ.getD k 0 := rfl
set_option maxRecDepth 1000000 in
theorem i0_r5 (L : Nat) (xs : Nat → Int32) : I0 L xs 5 = fun _ => 0 := rfl
set_option maxRecDepth 1000000 in
theorem i0_r6 (L : Nat) (xs : Nat → Int32) : I0 L xs 6 = fun _ => 0 := rfl
set_option maxRecDepth 1000000 in
theorem i0_r7 (L : Nat) (xs : Nat → Int32) : I0 L xs 7 = fun _ => 0 := rfl
set_option maxRecDepth 1000000 in
theorem i0_r8 (L : Nat) (xs : Nat → Int32) : I0 L xs 8 = fun _ => 0 := rfl
set_option maxRecDepth 1000000 in
theorem i0_r9 (L : Nat) (xs : Nat → Int32) : I0 L xs 9 = fun _ => 0 := rfl
set_option maxRecDepth 1000000 in
theorem i0_r11 (L : Nat) (xs : Nat → Int32) : I0 L xs 11 = fun _ => 0 := rfl
set_option maxRecDepth 1000000 in
theorem i0_r12 (L : Nat) (xs : Nat → Int32) : I0 L xs 12 = fun _ => 0 := rfl
set_option maxRecDepth 1000000 in
theorem i0_r13 (L : Nat) (xs : Nat → Int32) : I0 L xs 13 = fun _ => 0 := rfl
set_option maxRecDepth 1000000 in
theorem i0_r14 (L : Nat) (xs : Nat → Int32) : I0 L xs 14 = fun _ => 0 := rfl
set_option maxRecDepth 1000000 in
theorem i0_r15 (L : Nat) (xs : Nat → Int32) : I0 L xs 15 = fun _ => 0 := rfl
set_option maxRecDepth 1000000 in
theorem i0_r16 (L : Nat) (xs : Nat → Int32) : I0 L xs 16 = fun _ => 0 := rfl
set_option maxRecDepth 1000000 in
theorem i0_r24 (L : Nat) (xs : Nat → Int32) : I0 L xs 24 = fun _ => 0 := rfl
set_option maxRecDepth 1000000 in
theorem i0_r38 (L : Nat) (xs : Nat → Int32) : I0 L xs 38 = fun _ => 0 := rfl
set_option maxRecDepth 1000000 in
theorem i0_r39 (L : Nat) (xs : Nat → Int32) : I0 L xs 39 = fun _ => 0 := rfl
set_option maxRecDepth 1000000 in
theorem i0_r40 (L : Nat) (xs : Nat → Int32) : I0 L xs 40 = fun _ => 0 := rfl
set_option maxRecDepth 1000000 in
theorem i0_r41 (L : Nat) (xs : Nat → Int32) : I0 L xs 41 = fun _ => 0 := rfl
set_option maxRecDepth 1000000 in
theorem i0_r43 (L : Nat) (xs : Nat → Int32) : I0 L xs 43 = fun _ => 0 := rfl
set_option maxRecDepth 1000000 in
theorem i0_r44 (L : Nat) (xs : Nat → Int32) : I0 L xs 44 = fun _ => 0 := rfl
set_option maxRecDepth 1000000 in
theorem i0_r59 (L : Nat) (xs : Nat → Int32) : I0 L xs 59 = fun _ => 0 := rfl
set_option maxRecDepth 1000000 in
theorem i0_r60 (L : Nat) (xs : Nat → Int32) : I0 L xs 60 = fun _ => 0 := rfl
set_option maxRecDepth 1000000 in
theorem i0_r61 (L : Nat) (xs : Nat → Int32) : I0 L xs 61 = fun _ => 0 := rfl
set_option maxRecDepth 1000000 in
theorem i0_r62 (L : Nat) (xs : Nat → Int32) : I0 L xs 62 = fun _ => 0 := rfl
set_option maxRecDepth 1000000 in
theorem i0_r63 (L : Nat) (xs : Nat → Int32) : I0 L xs 63 = fun _ => 0 := rfl
set_option maxRecDepth 1000000 in
theorem i0_r64 (L : Nat) (xs : Nat → Int32) : I0 L xs 64 = fun _ => 0 := rfl
set_option maxRecDepth 1000000 in
theorem i0_r65 (L : Nat) (xs : Nat → Int32) : I0 L xs 65 = fun _ => 0 := rfl
set_option maxRecDepth 1000000 in
theorem i0_r66 (L : Nat) (xs : Nat → Int32) : I0 L xs 66 = fun _ => 0 := rfl
set_option maxRecDepth 1000000 in
theorem i0_r67 (L : Nat) (xs : Nat → Int32) : I0 L xs 67 = fun _ => 0 := rfl
set_option maxRecDepth 1000000 in
theorem i0_r68 (L : Nat) (xs : Nat → Int32) : I0 L xs 68 = fun _ => 0 := rfl
set_option maxRecDepth 1000000 in
theorem i0_r69 (L : Nat) (xs : Nat → Int32) : I0 L xs 69 = fun _ => 0 := rfl
set_option maxRecDepth 1000000 in
theorem i0_r70 (L : Nat) (xs : Nat → Int32) : I0 L xs 70 = fun _ => 0 := rfl
set_option maxRecDepth 1000000 in
theorem i0_r71 (L : Nat) (xs : Nat → Int32) : I0 L xs 71 = fun _ => 0 := rfl
set_option maxRecDepth 1000000 in
theorem i0_r72 (L : Nat) (xs : Nat → Int32) : I0 L xs 72 = fun _ => 0 := rfl
set_option maxRecDepth 1000000 in
theorem i0_r73 (L : Nat) (xs : Nat → Int32) : I0 L xs 73 = fun _ => 0 := rfl
set_option maxRecDepth 1000000 in
theorem i0_r90 (L : Nat) (xs : Nat → Int32) : I0 L xs 90 = fun _ => 0 := rfl
set_option maxRecDepth 1000000 in
theorem i0_r91 (L : Nat) (xs : Nat → Int32) : I0 L xs 91 = fun _ => 0 := rfl
set_option maxRecDepth 1000000 in
theorem i0_4_0 (L : Nat) (xs : Nat → Int32) : I0 L xs 4 0 = 12 := rfl
set_option maxRecDepth 1000000 in
theorem i0_4_1 (L : Nat) (xs : Nat → Int32) : I0 L xs 4 1 = 12 := rfl
set_option maxRecDepth 1000000 in
theorem i0_4_4 (L : Nat) (xs : Nat → Int32) : I0 L xs 4 4 = 0 := rfl
set_option maxRecDepth 1000000 in
theorem i0_4_8 (L : Nat) (xs : Nat → Int32) : I0 L xs 4 8 = 0 := rfl
set_option maxRecDepth 1000000 in
theorem i0_4_9 (L : Nat) (xs : Nat → Int32) : I0 L xs 4 9 = 0 := rfl
set_option maxRecDepth 1000000 in
theorem i0_10_6 (L : Nat) (xs : Nat → Int32) : I0 L xs 10 6 = 0 := rfl
set_option maxRecDepth 1000000 in
theorem i0_17_1 (L : Nat) (xs : Nat → Int32) : I0 L xs 17 1 = 0 := rfl
set_option maxRecDepth 1000000 in
theorem i0_17_5 (L : Nat) (xs : Nat → Int32) : I0 L xs 17 5 = 0 := rfl
set_option maxRecDepth 1000000 in
theorem i0_17_9 (L : Nat) (xs : Nat → Int32) : I0 L xs 17 9 = 0 := rfl
set_option maxRecDepth 1000000 in
theorem i0_23_3 (L : Nat) (xs : Nat → Int32) : I0 L xs 23 3 = 10 := rfl
set_option maxRecDepth 1000000 in
theorem i0_23_4 (L : Nat) (xs : Nat → Int32) : I0 L xs 23 4 = 0 := rfl
set_option maxRecDepth 1000000 in
theorem i0_23_5 (L : Nat) (xs : Nat → Int32) : I0 L xs 23 5 = 0 := rfl
set_option maxRecDepth 1000000 in
theorem i0_32_2 (L : Nat) (xs : Nat → Int32) : I0 L xs 32 2 = 0 := rfl
set_option maxRecDepth 1000000 in
theorem i0_37_6 (L : Nat) (xs : Nat → Int32) : I0 L xs 37 6 = 0 := rfl
set_option maxRecDepth 1000000 in
theorem i0_37_7 (L : Nat) (xs : Nat → Int32) : I0 L xs 37 7 = 0 := rfl
set_option maxRecDepth 1000000 in
theorem i0_42_1 (L : Nat) (xs : Nat → Int32) : I0 L xs 42 1 = 0 := rfl
set_option maxRecDepth 1000000 in
theorem i0_42_3 (L : Nat) (xs : Nat → Int32) : I0 L xs 42 3 = 0 := rfl
set_option maxRecDepth 1000000 in
theorem i0_46_0 (L : Nat) (xs : Nat → Int32) : I0 L xs 46 0 = -1 := rfl
set_option maxRecDepth 1000000 in
theorem i0_46_2 (L : Nat) (xs : Nat → Int32) : I0 L xs 46 2 = 0 := rfl
set_option maxRecDepth 1000000 in
theorem i0_48_0 (L : Nat) (xs : Nat → Int32) : I0 L xs 48 0 = -1 := rfl
set_option maxRecDepth 1000000 in
theorem i0_48_2 (L : Nat) (xs : Nat → Int32) : I0 L xs 48 2 = 0 := rfl
set_option maxRecDepth 1000000 in
theorem i0_50_0 (L : Nat) (xs : Nat → Int32) : I0 L xs 50 0 = -1 := rfl
set_option maxRecDepth 1000000 in
theorem i0_50_2 (L : Nat) (xs : Nat → Int32) : I0 L xs 50 2 = 0 := rfl
set_option maxRecDepth 1000000 in
theorem i0_52_0 (L : Nat) (xs : Nat → Int32) : I0 L xs 52 0 = -1 := rfl
set_option maxRecDepth 1000000 in
theorem i0_52_2 (L : Nat) (xs : Nat → Int32) : I0 L xs 52 2 = 0 := rfl
set_option maxRecDepth 1000000 in
theorem i0_54_0 (L : Nat) (xs : Nat → Int32) : I0 L xs 54 0 = -1 := rfl
set_option maxRecDepth 1000000 in
theorem i0_54_2 (L : Nat) (xs : Nat → Int32) : I0 L xs 54 2 = 0 := rfl
set_option maxRecDepth 1000000 in
theorem i0_56_0 (L : Nat) (xs : Nat → Int32) : I0 L xs 56 0 = -1 := rfl
set_option maxRecDepth 1000000 in
theorem i0_56_2 (L : Nat) (xs : Nat → Int32) : I0 L xs 56 2 = 0 := rfl
set_option maxRecDepth 1000000 in
theorem i0_58_1 (L : Nat) (xs : Nat → Int32) : I0 L xs 58 1 = 12 := rfl
set_option maxRecDepth 1000000 in
theorem i0_58_2 (L : Nat) (xs : Nat → Int32) : I0 L xs 58 2 = 12 := rfl
set_option maxRecDepth 1000000 in
theorem i0_58_3 (L : Nat) (xs : Nat → Int32) : I0 L xs 58 3 = 0 := rfl
set_option maxRecDepth 1000000 in
theorem i0_58_6 (L : Nat) (xs : Nat → Int32) : I0 L xs 58 6 = 0 := rfl
set_option maxRecDepth 1000000 in
theorem i0_58_10 (L : Nat) (xs : Nat → Int32) : I0 L xs 58 10 = 0 := rfl
set_option maxRecDepth 1000000 in
theorem i0_58_17 (L : Nat) (xs : Nat → Int32) : I0 L xs 58 17 = 10 := rfl
set_option maxRecDepth 1000000 in
theorem i0_58_18 (L : Nat) (xs : Nat → Int32) : I0 L xs 58 18 = 0 := rfl
set_option maxRecDepth 1000000 in
theorem i0_58_19 (L : Nat) (xs : Nat → Int32) : I0 L xs 58 19 = 0 := rfl
set_option maxRecDepth 1000000 in
theorem i0_58_20 (L : Nat) (xs : Nat → Int32) : I0 L xs 58 20 = 0 := rfl
set_option maxRecDepth 1000000 in
theorem i0_58_21 (L : Nat) (xs : Nat → Int32) : I0 L xs 58 21 = 0 := rfl
set_option maxRecDepth 1000000 in
theorem i0_58_27 (L : Nat) (xs : Nat → Int32) : I0 L xs 58 27 = 0 := rfl
set_option maxRecDepth 1000000 in
theorem i0_58_39 (L : Nat) (xs : Nat → Int32) : I0 L xs 58 39 = 0 := rfl
set_option maxRecDepth 1000000 in
theorem i0_58_48 (L : Nat) (xs : Nat → Int32) : I0 L xs 58 48 = 0 := rfl
set_option maxRecDepth 1000000 in
theorem i0_58_50 (L : Nat) (xs : Nat → Int32) : I0 L xs 58 50 = 0 := rfl
set_option maxRecDepth 1000000 in
theorem i0_92_0 (L : Nat) (xs : Nat → Int32) : I0 L xs 92 0 = -1 := rfl
set_option maxRecDepth 1000000 in
theorem i0_92_1 (L : Nat) (xs : Nat → Int32) : I0 L xs 92 1 = -1 := rfl
set_option maxRecDepth 1000000 in
theorem i0_92_2 (L : Nat) (xs : Nat → Int32) : I0 L xs 92 2 = -1 := rfl
set_option maxRecDepth 1000000 in
theorem i0_92_3 (L : Nat) (xs : Nat → Int32) : I0 L xs 92 3 = -1 := rfl
set_option maxRecDepth 1000000 in
theorem i0_92_4 (L : Nat) (xs : Nat → Int32) : I0 L xs 92 4 = -1 := rfl
set_option maxRecDepth 1000000 in
theorem i0_92_5 (L : Nat) (xs : Nat → Int32) : I0 L xs 92 5 = -1 := rfl
theorem own_eq : (fun k => ownQ.getD k 0) = ownT := by
  funext k
  by_cases h : k < 32
  · have : ∀ j ∈ List.range 32, ownQ.getD j 0 = ownT j := by decide
    exact this k (List.mem_range.mpr h)
  · rw [List.getD_eq_getElem?_getD, List.getElem?_eq_none (by show 32 ≤ k; omega)]
    unfold ownT
    simp (disch := omega) only [if_neg, Option.getD_none]
theorem abv_eq : (fun k => aboveQ.getD k 0) = abv := by
  funext k
  by_cases h : k < 8
  · have : ∀ j ∈ List.range 8, aboveQ.getD j 0 = abv j := by decide
    exact this k (List.mem_range.mpr h)
  · rw [List.getD_eq_getElem?_getD, List.getElem?_eq_none (by show 8 ≤ k; omega)]
    unfold abv
    simp (disch := omega) only [if_neg, Option.getD_none]
theorem inv0 (L : Nat) (xs : Nat → Int32) : Inv L (fun k => (xs k).toInt) 0 (L, false) (I0 L xs) (J0 L xs) := by
  have z0 : pos (fun _ => 0) := fun _ => by show (0 : Int) ≤ 0 ∧ (0 : Int) < 100; omega
  refine ⟨⟨rfl, i0_r0 L xs⟩, ?_, ?_, ?_, ?_, ?_, ?_, ?_, ?_⟩
  · unfold FL
    simp only [i0_4_0, i0_4_1, i0_4_4, i0_4_8, i0_58_1, i0_58_2, i0_58_3, i0_58_6, i0_r5, i0_r6, i0_r7, i0_r8, i0_r9, i0_r59, i0_r60, i0_r61, i0_r62, i0_r63]
    exact ⟨by omega, by omega, by omega, by omega, z0, z0, z0, z0, fun _ => by omega, trivial, trivial, trivial, trivial, trivial, trivial, trivial, trivial, trivial⟩
  · unfold ST
    simp only [i0_10_6, i0_58_10, i0_r11, i0_r12, i0_r13, i0_r14, i0_r15, i0_r16, i0_r64, i0_r65, i0_r66, i0_r67, i0_r68, i0_r69]
    exact ⟨by omega, fun _ => by omega, fun _ => by omega, fun _ => by show (0 : Int) ≤ 0 ∧ (0 : Int) ≤ 100; omega, fun j hj => absurd hj (Nat.not_lt_zero j), fun i j hi => absurd hi (Nat.not_lt_zero i), trivial, trivial, trivial, trivial, trivial, trivial, trivial⟩
  · unfold SN
    simp only [i0_23_3, i0_23_4, i0_32_2, i0_58_17, i0_58_18, i0_58_19]
    exact ⟨by omega, by omega, by omega, trivial, trivial, trivial⟩
  · unfold TP
    simp only [i0_17_1, i0_58_27]
    exact ⟨by omega, trivial, fun p hp => by omega⟩
  · unfold CH
    simp only [i0_37_6, i0_37_7, i0_58_20, i0_58_21, i0_r38, i0_r39, i0_r40, i0_r41, i0_r70, i0_r71, i0_r72, i0_r73]
    exact ⟨by omega, trivial, by first | trivial | omega, fun _ => by omega, fun _ => ⟨⟨fun _ => by omega, fun _ => by omega⟩, ⟨fun _ => by omega, fun _ => by omega⟩⟩, trivial, trivial, trivial, trivial⟩
  · unfold AT
    simp only [i0_r1, i0_r2, i0_42_1, i0_42_3, i0_r43, i0_r44, i0_58_48, i0_58_50, i0_r90, i0_r91]
    exact ⟨own_eq, abv_eq, by omega, fun _ => by omega, trivial, trivial, trivial, trivial⟩
  · intro i hi
    have e0 : I0 L xs (46 + 2 * i) 0 = -1 ∧ I0 L xs (46 + 2 * i) 2 = 0 ∧ I0 L xs 92 i = -1 := by
      rcases six hi with h | h | h | h | h | h <;> subst h
      · exact ⟨i0_46_0 L xs, i0_46_2 L xs, i0_92_0 L xs⟩
      · exact ⟨i0_48_0 L xs, i0_48_2 L xs, i0_92_1 L xs⟩
      · exact ⟨i0_50_0 L xs, i0_50_2 L xs, i0_92_2 L xs⟩
      · exact ⟨i0_52_0 L xs, i0_52_2 L xs, i0_92_3 L xs⟩
      · exact ⟨i0_54_0 L xs, i0_54_2 L xs, i0_92_4 L xs⟩
      · exact ⟨i0_56_0 L xs, i0_56_2 L xs, i0_92_5 L xs⟩
    refine ⟨Or.inl ⟨e0.1, e0.2.2⟩, ?_⟩
    rw [e0.2.1]; omega
  · refine ⟨fun v a b c => v - 4 * a - 2 * b + c, ⟨?_, ?_, ?_⟩, Or.inl ⟨i0_58_39 L xs, fun _ _ _ _ => rfl⟩, ?_, ?_, ?_⟩
    · unfold GC
      simp only [i0_4_4, i0_4_8, i0_4_9, i0_r5, i0_r6, i0_r9, i0_23_4, i0_17_9, i0_23_5]
      exact ⟨by omega, by omega, z0, z0, z0, by omega, by omega, by omega, by omega⟩
    · intro I' J h5 _ d v a b c hd hv ha hb hc
      obtain ⟨e, rfl⟩ : ∃ e, d = e + 1 := ⟨d - 1, by omega⟩
      refine ⟨I', ?_, fun _ _ _ => rfl⟩
      have e1 : wr ((wr ((wr (v - (wr (4 * a)))) - (wr (2 * b)))) + c) = v - 4 * a - 2 * b + c := by
        rw [wr_if (a := 4 * a) (by omega), wr_if (a := 2 * b) (by omega), wr_if (a := v - 4 * a) (by omega), wr_if (a := v - 4 * a - 2 * b) (by omega), wr_if (by omega)]
      rw [e_47, b_47_0, h5, i0_17_5, if_pos rfl, b_47_7, e1]
    · intro k hk
      have hs : st (I0 L xs) = 1 := by unfold st; rw [i0_4_9, i0_17_9, i0_23_5]; rfl
      rw [hs, i0_r24]
      show (0 ≤ (0 : Int) ∧ (0 : Int) < 2147483648) ∧ (0 : Int) / 128 ≤ 1 ∧ ((0 : Int) / 128 = 1 → _)
      exact ⟨by omega, by omega, fun h => by omega⟩
    · rw [i0_4_9]; omega
    · rw [i0_17_9]; omega
    · rw [i0_23_5]; omega
theorem law_pure : LawPure := by
  intro L xs hL
  obtain ⟨w', I', J', h⟩ := law_lp L (fun k => (xs k).toInt) 2047 (fun k => i32_R (xs k)) (by omega) (by omega) 65 0 0 (L, false) (I0 L xs) (J0 L xs) (inv0 L xs) (by omega) (by omega) (by omega)
  refine ⟨mk w' I' J', ?_, by show 96 ≤ 600000; omega, by show 7812 ≤ 7302250; omega⟩
  rw [law_head 2047 L xs (by omega), z_mk]
  exact h
