set_option maxRecDepth 1000000 in
theorem z_T (L : Nat) (xs : Nat → Int32) : (z50 L xs).1.2.2.1 = T0q L := rfl
set_option maxRecDepth 1000000 in
theorem z_R (L : Nat) (xs : Nat → Int32) : (z50 L xs).1.2.2.2 = R0b := rfl
theorem R0_false (L : Nat) : R0q (L, false) = R0b := by
  funext c k
  unfold R0q
  by_cases h1 : c = 17 ∧ k = 3
  · rw [if_pos h1, h1.1, h1.2]; rfl
  · rw [if_neg h1]
    by_cases h2 : c = 17 ∧ k = 4
    · rw [if_pos h2, h2.1, h2.2]; rfl
    · rw [if_neg h2]
def I0 (L : Nat) (xs : Nat → Int32) : Nat → Nat → Int := (z50 L xs).2.1
def J0 (L : Nat) (xs : Nat → Int32) : Nat → Nat → Int := (z50 L xs).2.2
set_option maxRecDepth 1000000 in
theorem z_n (L : Nat) (xs : Nat → Int32) : (z50 L xs).1.1 = 96 ∧ (z50 L xs).1.2.1 = 7812 := ⟨rfl, rfl⟩
theorem z_mk (L : Nat) (xs : Nat → Int32) : z50 L xs = mk (L, false) (I0 L xs) (J0 L xs) := by
  have h1 := z_T L xs
  have h2 := z_R L xs
  have h3 := z_n L xs
  rw [← R0_false L] at h2
  show z50 L xs = ((96, 7812, T0q L, R0q (L, false)), (z50 L xs).2.1, (z50 L xs).2.2)
  rw [← h1, ← h2, ← h3.1, ← h3.2]
