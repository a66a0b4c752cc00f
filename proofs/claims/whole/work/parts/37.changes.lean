def valX (I : Nat → Nat → Int) (of at_ : Int) : Int := if of = 0 then I 11 at_.toNat else if of = 1 then I 12 at_.toNat else I 9 at_.toNat
def valM (I : Nat → Nat → Int) (of at_ : Int) : Int := if of = 0 then I 64 at_.toNat else if of = 1 then I 65 at_.toNat else I 63 at_.toNat
def cp4 (a b c e : Nat) (I : Nat → Nat → Int) (n : Nat) : Nat → Nat → Int := cpy (cpy (cpy (cpy I a a 1 0 n) b b 1 0 n) c c 1 0 n) e e 1 0 n
def pu4 (a b c e : Nat) (I : Nat → Nat → Int) (n : Nat) (p q r s : Int) : Nat → Nat → Int := up2 (up2 (up2 (up2 I a n p) b n q) c n r) e n s
def dropX (I : Nat → Nat → Int) : Nat → Nat → Int := if I 37 7 = 40 then up2 (cp4 38 39 40 41 I 39) 37 7 39 else I
def pushX (I : Nat → Nat → Int) (at_ of was v : Int) : Nat → Nat → Int := up2 (up2 (pu4 38 39 40 41 I (I 37 7).toNat at_ of was v) 37 7 (I 37 7 + 1)) 37 6 (I 37 7 + 1)
def dropM (I : Nat → Nat → Int) : Nat → Nat → Int := if I 58 20 = 40 then up2 (cp4 70 71 72 73 (up2 I 58 21 0) 39) 58 20 39 else up2 I 58 21 0
def pushM (I : Nat → Nat → Int) (at_ of was v : Int) : Nat → Nat → Int := up2 (pu4 70 71 72 73 I (I 58 20).toNat of at_ was v) 58 20 (I 58 20 + 1)
def makeX (I : Nat → Nat → Int) (at_ of v : Int) : Nat → Nat → Int := if v = valX I of at_ then I else laysX (pushX (dropX I) at_ of (valX I of at_) v) of at_ v
def makeM (I : Nat → Nat → Int) (at_ of v : Int) : Nat → Nat → Int := if v = valM I of at_ then I else laysM (pushM (dropM I) at_ of (valM I of at_) v) of at_ v
theorem s_12 (d : Nat) (w : Nat × Bool) (I J : Nat → Nat → Int) (hd : 1 ≤ d) : semC d 12 [vr 37] (mk w I J) = some (none, mk w (up2 (cp4 38 39 40 41 I 39) 37 7 39) J) := by
  obtain ⟨e, rfl⟩ : ∃ e, d = e + 1 := ⟨d - 1, by omega⟩
  rw [e_12, b_12_0]
  rfl
theorem s_11 (d : Nat) (w : Nat × Bool) (I J : Nat → Nat → Int) (a b v : Int) (hd : 3 ≤ d) (ha : 0 ≤ a ∧ a < 10) (hn : 0 ≤ I 37 7 ∧ I 37 7 ≤ 40) (h49 : 0 ≤ I 4 9 ∧ I 4 9 ≤ 1000000) : semC d 11 [vr 37, vi a, vi b, vi v] (mk w I J) = some (some (vi (valX I b a)), mk w (makeX I a b v) J) := by
  obtain ⟨e, rfl⟩ : ∃ e, d = e + 1 := ⟨d - 1, by omega⟩
  rw [e_11]
  have hv : Sem e 11 0 [some (vr 37), some (vi a), some (vi b), some (vi v), none] [] (mk w I J) = Sem e 11 42 [some (vr 37), some (vi a), some (vi b), some (vi v), none] [vi (valX I b a)] (mk w I J) := by
    unfold valX
    by_cases c1 : b = 0
    · simp (disch := omega) only [b_11_0, b_11_4, semK, Option.bind_some, mpush, wr_if, wr_tdiv, if_pos, if_neg, ↓reduceIte, b2_t, b2_f, Bool.false_eq_true, up2_ne, up2_sne, up2_s, true_or, or_true, true_and, and_true, false_and, and_false, false_or, or_false]
    · by_cases c2 : b = 1
      · simp (disch := omega) only [b_11_0, b_11_16, b_11_21, semK, Option.bind_some, mpush, wr_if, wr_tdiv, if_pos, if_neg, ↓reduceIte, b2_t, b2_f, Bool.false_eq_true, up2_ne, up2_sne, up2_s, true_or, or_true, true_and, and_true, false_and, and_false, false_or, or_false]
      · simp (disch := omega) only [b_11_0, b_11_16, b_11_33, semK, Option.bind_some, mpush, wr_if, wr_tdiv, if_pos, if_neg, ↓reduceIte, b2_t, b2_f, Bool.false_eq_true, up2_ne, up2_sne, up2_s, true_or, or_true, true_and, and_true, false_and, and_false, false_or, or_false]
  have hp : ∀ (I' : Nat → Nat → Int) (z : Int), 0 ≤ I' 37 7 ∧ I' 37 7 < 40 → I' 4 9 = I 4 9 → Sem e 11 66 [some (vr 37), some (vi a), some (vi b), some (vi v), some (vi z)] [] (mk w I' J) = some (some (vi z), mk w (laysX (pushX I' a b z v) b a v) J) := by
    intro I' z h1 h2
    have t := s_13 e w (pushX I' a b z v) J a b v (by omega) ha (by rw [show pushX I' a b z v 4 9 = I' 4 9 from rfl, h2]; exact h49)
    unfold pushX pu4 at t
    simp (disch := omega) only [b_11_66, b_11_132, t, semK, Option.bind_some, mpush, wr_if, wr_tdiv, if_pos, if_neg, ↓reduceIte, b2_t, b2_f, Bool.false_eq_true, up2_ne, up2_sne, up2_s, true_or, or_true, true_and, and_true, false_and, and_false, false_or, or_false]
    rfl
  rw [hv, b_11_42]
  unfold makeX
  by_cases c1 : v = valX I b a
  · rw [if_pos c1, if_pos c1, b_11_50]
  · rw [if_neg c1, if_neg c1, b_11_53]
    unfold dropX
    by_cases c2 : I 37 7 = 40
    · rw [if_neg (by omega), if_pos c2, b_11_62]
      rw [semK_of (s_12 e w I J (by omega))]
      exact hp _ _ (by rw [show up2 (cp4 38 39 40 41 I 39) 37 7 39 37 7 = 39 from rfl]; omega) rfl
    · rw [if_pos (by omega), if_neg c2]
      exact hp I _ (by omega) rfl
theorem s_10 (d : Nat) (w : Nat × Bool) (I J : Nat → Nat → Int) (a b v : Int) (hd : 2 ≤ d) : semC d 10 [vr 37, vi a, vi b, vi v] (mk w I J) =
    some (some (vi (if (b = 0 ∧ (0 ≤ a ∧ a < I 10 6) ∧ 0 ≤ v ∧ v ≤ 99) ∨ (b = 1 ∧ (0 ≤ a ∧ a < I 10 6) ∧ 0 ≤ v ∧ v ≤ 9) ∨ (b = 2 ∧ (0 ≤ a ∧ a < I 4 8) ∧ 1 ≤ v ∧ v ≤ 9) then 1 else 0)), mk w I J) := by
  obtain ⟨e, rfl⟩ : ∃ e, d = e + 1 := ⟨d - 1, by omega⟩
  rw [e_10]
  by_cases c1 : b = 0
  · by_cases c2 : 0 ≤ a ∧ a < I 10 6 <;> by_cases c3 : 0 ≤ v ∧ v ≤ 99
    all_goals simp (disch := omega) only [b_10_0, b_10_28, b_10_36, b_10_39, b_10_46, b_10_49, b_10_53, b_10_54, b_10_55, b_10_63, b_10_66, b_10_73, b_10_76, b_10_80, b_10_81, b_10_82, b_10_90, b_10_93, b_10_100, b_10_103, b_10_107, b_10_108, b_10_109, s_80 _ _ _ _ _ _, s_133 _ _ _ _ _ _ _ _, semK, Option.bind_some, mpush, wr_if, wr_tdiv, if_pos, if_neg, ↓reduceIte, b2_t, b2_f, Bool.false_eq_true, up2_ne, up2_sne, up2_s, true_or, or_true, true_and, and_true, false_and, and_false, false_or, or_false]
  · by_cases c4 : b = 1
    · by_cases c2 : 0 ≤ a ∧ a < I 10 6 <;> by_cases c3 : 0 ≤ v ∧ v ≤ 9
      all_goals simp (disch := omega) only [b_10_0, b_10_28, b_10_36, b_10_39, b_10_46, b_10_49, b_10_53, b_10_54, b_10_55, b_10_63, b_10_66, b_10_73, b_10_76, b_10_80, b_10_81, b_10_82, b_10_90, b_10_93, b_10_100, b_10_103, b_10_107, b_10_108, b_10_109, s_80 _ _ _ _ _ _, s_133 _ _ _ _ _ _ _ _, semK, Option.bind_some, mpush, wr_if, wr_tdiv, if_pos, if_neg, ↓reduceIte, b2_t, b2_f, Bool.false_eq_true, up2_ne, up2_sne, up2_s, true_or, or_true, true_and, and_true, false_and, and_false, false_or, or_false]
    · by_cases c5 : b = 2
      · by_cases c2 : 0 ≤ a ∧ a < I 4 8 <;> by_cases c3 : 1 ≤ v ∧ v ≤ 9
        all_goals simp (disch := omega) only [b_10_0, b_10_28, b_10_36, b_10_39, b_10_46, b_10_49, b_10_53, b_10_54, b_10_55, b_10_63, b_10_66, b_10_73, b_10_76, b_10_80, b_10_81, b_10_82, b_10_90, b_10_93, b_10_100, b_10_103, b_10_107, b_10_108, b_10_109, s_22 _ _ _ _ _ _, s_133 _ _ _ _ _ _ _ _, semK, Option.bind_some, mpush, wr_if, wr_tdiv, if_pos, if_neg, ↓reduceIte, b2_t, b2_f, Bool.false_eq_true, up2_ne, up2_sne, up2_s, true_or, or_true, true_and, and_true, false_and, and_false, false_or, or_false]
      · simp (disch := omega) only [b_10_0, b_10_28, b_10_36, b_10_39, b_10_46, b_10_49, b_10_53, b_10_54, b_10_55, b_10_63, b_10_66, b_10_73, b_10_76, b_10_80, b_10_81, b_10_82, b_10_90, b_10_93, b_10_100, b_10_103, b_10_107, b_10_108, b_10_109, semK, Option.bind_some, mpush, wr_if, wr_tdiv, if_pos, if_neg, ↓reduceIte, b2_t, b2_f, Bool.false_eq_true, up2_ne, up2_sne, up2_s, true_or, or_true, true_and, and_true, false_and, and_false, false_or, or_false]
def mOK (nw ns a b v : Int) : Prop := (b = 0 ∧ (0 ≤ a ∧ a < nw) ∧ 0 ≤ v ∧ v ≤ 99) ∨ (b = 1 ∧ (0 ≤ a ∧ a < nw) ∧ 0 ≤ v ∧ v ≤ 9) ∨ (b = 2 ∧ (0 ≤ a ∧ a < ns) ∧ 1 ≤ v ∧ v ≤ 9)
theorem s_100a (d : Nat) (w : Nat × Bool) (I J : Nat → Nat → Int) (a b v : Int) (hd : 4 ≤ d) (h1 : 0 ≤ I 10 6 ∧ I 10 6 ≤ 10) (h2 : 0 ≤ I 4 8 ∧ I 4 8 ≤ 10) (hn : 0 ≤ I 37 7 ∧ I 37 7 ≤ 40) (h49 : 0 ≤ I 4 9 ∧ I 4 9 ≤ 1000000) (hk : mOK (I 10 6) (I 4 8) a b v) : semC d 100 [vr 3, vi a, vi b, vi v] (mk w I J) = some (some (vi (valX I b a)), mk w (makeX I a b v) J) := by
  obtain ⟨e, rfl⟩ : ∃ e, d = e + 1 := ⟨d - 1, by omega⟩
  rw [e_100]
  unfold mOK at hk
  simp (disch := omega) only [b_100_0, b_100_10, b_100_13, b_100_15, b_100_25, s_10 _ _ _ _ _ _ _ _, s_11 _ _ _ _ _ _ _ _ _ hn h49, semK, Option.bind_some, mpush, wr_if, wr_tdiv, if_pos, if_neg, ↓reduceIte, b2_t, b2_f, Bool.false_eq_true, up2_ne, up2_sne, up2_s, true_or, or_true, true_and, and_true, false_and, and_false, false_or, or_false]
theorem s_100b (d : Nat) (w : Nat × Bool) (I J : Nat → Nat → Int) (a b v : Int) (hd : 4 ≤ d) (hk : ¬ mOK (I 10 6) (I 4 8) a b v) : semC d 100 [vr 3, vi a, vi b, vi v] (mk w I J) = some (some (vi (-1)), mk w I J) := by
  obtain ⟨e, rfl⟩ : ∃ e, d = e + 1 := ⟨d - 1, by omega⟩
  rw [e_100]
  unfold mOK at hk
  simp (disch := omega) only [b_100_0, b_100_10, b_100_13, b_100_15, b_100_25, s_10 _ _ _ _ _ _ _ _, semK, Option.bind_some, mpush, wr_if, wr_tdiv, if_pos, if_neg, ↓reduceIte, b2_t, b2_f, Bool.false_eq_true, up2_ne, up2_sne, up2_s, true_or, or_true, true_and, and_true, false_and, and_false, false_or, or_false]
def undoX (I : Nat → Nat → Int) : Nat → Nat → Int := laysX (up2 I 37 7 (I 37 7 - 1)) (I 39 (I 37 7 - 1).toNat) (I 38 (I 37 7 - 1).toNat) (I 40 (I 37 7 - 1).toNat)
def redoX (I : Nat → Nat → Int) : Nat → Nat → Int := up2 (laysX I (I 39 (I 37 7).toNat) (I 38 (I 37 7).toNat) (I 41 (I 37 7).toNat)) 37 7 (I 37 7 + 1)
theorem laysX_37 (I : Nat → Nat → Int) (of at_ v : Int) : laysX I of at_ v 37 = I 37 := by
  unfold laysX
  split
  · simp [up2_row]
  · split <;> simp [up2_row]
theorem s_119 (d : Nat) (w : Nat × Bool) (I J : Nat → Nat → Int) (hd : 4 ≤ d) (hn : 0 ≤ I 37 7 ∧ I 37 7 ≤ 40) (h49 : 0 ≤ I 4 9 ∧ I 4 9 ≤ 1000000) (ha : ∀ k, 0 ≤ I 38 k ∧ I 38 k < 10) : semC d 119 [vr 3] (mk w I J) = if I 37 7 = 0 then some (some (vi (-5)), mk w I J) else some (some (vi (I 37 7 - 1)), mk w (undoX I) J) := by
  obtain ⟨e, rfl⟩ : ∃ e, d = e + 1 := ⟨d - 1, by omega⟩
  rw [e_119]
  obtain ⟨e, rfl⟩ : ∃ e', e = e' + 1 := ⟨e - 1, by omega⟩
  have g := ha (I 37 7 - 1).toNat
  by_cases c1 : I 37 7 = 0
  · simp (disch := omega) only [b_119_0, b_119_7, b_119_10, b_119_20, b_119_22, e_14, b_14_0, b_14_7, b_14_9, b_14_50, c1, semK, Option.bind_some, mpush, wr_if, wr_tdiv, if_pos, if_neg, ↓reduceIte, b2_t, b2_f, Bool.false_eq_true, up2_ne, up2_sne, up2_s, true_or, or_true, true_and, and_true, false_and, and_false, false_or, or_false]
  · have t := s_13 e w (up2 I 37 7 (I 37 7 - 1)) J (I 38 (I 37 7 - 1).toNat) (I 39 (I 37 7 - 1).toNat) (I 40 (I 37 7 - 1).toNat) (by omega) g h49
    simp (disch := omega) only [b_119_0, b_119_7, b_119_10, b_119_20, b_119_22, e_14, b_14_0, b_14_7, b_14_9, b_14_50, t, semK, Option.bind_some, mpush, wr_if, wr_tdiv, if_pos, if_neg, ↓reduceIte, b2_t, b2_f, Bool.false_eq_true, up2_ne, up2_sne, up2_s, true_or, or_true, true_and, and_true, false_and, and_false, false_or, or_false]
    unfold undoX
    rw [laysX_37]
    rfl
theorem s_120 (d : Nat) (w : Nat × Bool) (I J : Nat → Nat → Int) (hd : 4 ≤ d) (hn : 0 ≤ I 37 7 ∧ I 37 7 ≤ I 37 6 ∧ I 37 6 ≤ 40) (h49 : 0 ≤ I 4 9 ∧ I 4 9 ≤ 1000000) (ha : ∀ k, 0 ≤ I 38 k ∧ I 38 k < 10) : semC d 120 [vr 3] (mk w I J) = if I 37 6 = I 37 7 then some (some (vi (-5)), mk w I J) else some (some (vi (I 37 6 - (I 37 7 + 1))), mk w (redoX I) J) := by
  obtain ⟨e, rfl⟩ : ∃ e, d = e + 1 := ⟨d - 1, by omega⟩
  rw [e_120]
  obtain ⟨e, rfl⟩ : ∃ e', e = e' + 1 := ⟨e - 1, by omega⟩
  have g := ha (I 37 7).toNat
  by_cases c1 : I 37 6 = I 37 7
  · simp (disch := omega) only [b_120_0, b_120_7, b_120_10, b_120_28, b_120_30, e_15, b_15_0, b_15_11, b_15_13, b_15_44, semK, Option.bind_some, mpush, wr_if, wr_tdiv, if_pos, if_neg, ↓reduceIte, b2_t, b2_f, Bool.false_eq_true, up2_ne, up2_sne, up2_s, true_or, or_true, true_and, and_true, false_and, and_false, false_or, or_false]
  · have t := s_13 e w I J (I 38 (I 37 7).toNat) (I 39 (I 37 7).toNat) (I 41 (I 37 7).toNat) (by omega) g h49
    simp (disch := omega) only [b_120_0, b_120_7, b_120_10, b_120_28, b_120_30, e_15, b_15_0, b_15_11, b_15_13, b_15_44, t, semK, Option.bind_some, mpush, wr_if, wr_tdiv, if_pos, if_neg, ↓reduceIte, b2_t, b2_f, Bool.false_eq_true, up2_ne, up2_sne, up2_s, true_or, or_true, true_and, and_true, false_and, and_false, false_or, or_false, laysX_37]
    unfold redoX
    rfl
theorem cp4_step (I : Nat → Nat → Int) (u : Nat) : up2 (up2 (up2 (up2 (cp4 70 71 72 73 I u) 70 u (cp4 70 71 72 73 I u 70 (u + 1))) 71 u (cp4 70 71 72 73 I u 71 (u + 1))) 72 u (cp4 70 71 72 73 I u 72 (u + 1))) 73 u (cp4 70 71 72 73 I u 73 (u + 1)) = cp4 70 71 72 73 I (u + 1) := by
  have key : ∀ (f : Nat → Int), rs (cr f f 1 0 u) u (cr f f 1 0 u (u + 1)) = cr f f 1 0 (u + 1) := by
    intro f
    funext j
    unfold rs cr
    by_cases h1 : j = u
    · subst h1
      rw [if_pos rfl, if_neg (by omega), if_pos (by omega)]
      congr 1
      omega
    · rw [if_neg h1]
      by_cases h2 : j < u
      · rw [if_pos (by omega), if_pos (by omega)]
      · rw [if_neg (by omega), if_neg (by omega)]
  funext c
  unfold cp4
  by_cases h0 : c = 70
  · subst h0; simp [up2_row, cpy_row, key]
  · by_cases h1 : c = 71
    · subst h1; simp [up2_row, cpy_row, key]
    · by_cases h2 : c = 72
      · subst h2; simp [up2_row, cpy_row, key]
      · by_cases h3 : c = 73
        · subst h3; simp [up2_row, cpy_row, key]
        · simp [up2_row, cpy_row, h0, h1, h2, h3]
theorem cp4_0 (I : Nat → Nat → Int) : cp4 70 71 72 73 I 0 = I := by
  have key : ∀ (f : Nat → Int), cr f f 1 0 0 = f := by
    intro f; funext j; unfold cr; rw [if_neg (by omega)]
  funext c
  unfold cp4
  by_cases h0 : c = 70
  · subst h0; simp [cpy_row, key]
  · by_cases h1 : c = 71
    · subst h1; simp [cpy_row, key]
    · by_cases h2 : c = 72
      · subst h2; simp [cpy_row, key]
      · by_cases h3 : c = 73
        · subst h3; simp [cpy_row, key]
        · simp [cpy_row, h0, h1, h2, h3]
theorem l_152 (e : Nat) (w : Nat × Bool) (I J : Nat → Nat → Int) (a b v z : Int) : Sem e 152 34 [some (vr 58), some (vi b), some (vi a), some (vi v), some (vi z), some (vi (1 : Int))] [] (mk w I J) = Sem e 152 111 [some (vr 58), some (vi b), some (vi a), some (vi v), some (vi z), some (vi (40 : Int))] [] (mk w (cp4 70 71 72 73 I 39) J) := by
  have l := loop (fun (u : Nat) (I' : Nat → Nat → Int) => Sem e 152 34 [some (vr 58), some (vi b), some (vi a), some (vi v), some (vi z), some (vi ((u : Int) + 1))] [] (mk w I' J)) (fun u _ => cp4 70 71 72 73 I (u + 1)) (fun u I' => I' = cp4 70 71 72 73 I u) 39 I (cp4_0 I).symm (by
    intro u I' hu hI
    subst hI
    refine ⟨?_, rfl⟩
    have e1 : wr ((u : Int) + 1 - 1) = (u : Int) := by rw [wr_if (by omega)]; omega
    have e2 : ((u : Int) + 1).toNat = u + 1 := by omega
    rw [b_152_34, if_pos (by omega), b_152_41]
    simp (disch := omega) only [e1, e2, nat_i, if_pos, wr_if]
    rw [cp4_step]
    rfl)
  have h1 := l.1
  have h2 := l.2
  rw [h2] at h1
  rw [show ((0 : Nat) : Int) + 1 = 1 from rfl] at h1
  rw [h1, show ((39 : Nat) : Int) + 1 = 40 from rfl, b_152_34, if_neg (by omega)]
theorem s_152 (d : Nat) (w : Nat × Bool) (I J : Nat → Nat → Int) (a b v : Int) (hd : 3 ≤ d) (ha : 0 ≤ a ∧ a < 10) (hn : 0 ≤ I 58 20 ∧ I 58 20 ≤ 40) : semC d 152 [vr 58, vi b, vi a, vi v] (mk w I J) = some (some (vi (valM I b a)), mk w (makeM I a b v) J) := by
  obtain ⟨e, rfl⟩ : ∃ e, d = e + 1 := ⟨d - 1, by omega⟩
  rw [e_152, b_152_0, semK_of (s_150 e w I J a b (by omega) ha)]
  simp only [mpush]
  rw [b_152_6]
  have hp : ∀ (I' : Nat → Nat → Int) (z : Int) (u5 : Option mVal), 0 ≤ I' 58 20 ∧ I' 58 20 < 40 → Sem e 152 121 [some (vr 58), some (vi b), some (vi a), some (vi v), some (vi z), u5] [] (mk w I' J) = some (some (vi z), mk w (laysM (pushM I' a b z v) b a v) J) := by
    intro I' z u5 h1
    have t := s_151 e w (pushM I' a b z v) J a b v (by omega) ha
    unfold pushM pu4 at t
    simp (disch := omega) only [b_152_121, b_152_179, t, semK, Option.bind_some, mpush, wr_if, wr_tdiv, if_pos, if_neg, ↓reduceIte, b2_t, b2_f, Bool.false_eq_true, up2_ne, up2_sne, up2_s, true_or, or_true, true_and, and_true, false_and, and_false, false_or, or_false]
    rfl
  show (if valM I b a = v then _ else _) = _
  unfold makeM
  by_cases c1 : v = valM I b a
  · rw [if_pos c1.symm, if_pos c1, b_152_14]; rfl
  · rw [if_neg (fun z => c1 z.symm), if_neg c1, b_152_17]
    unfold dropM
    by_cases c2 : I 58 20 = 40
    · rw [if_pos c2, if_pos c2, b_152_31, l_152, b_152_111]
      have e3 : wr (cp4 70 71 72 73 (up2 I 58 21 0) 39 58 20 - 1) = 39 := by rw [show cp4 70 71 72 73 (up2 I 58 21 0) 39 58 20 = I 58 20 from rfl, c2]; decide
      rw [e3]
      exact hp _ _ _ (by rw [show up2 (cp4 70 71 72 73 (up2 I 58 21 0) 39) 58 20 39 58 20 = 39 from rfl]; omega)
    · rw [if_neg c2, if_neg c2]
      exact hp _ _ _ (by rw [show up2 I 58 21 0 58 20 = I 58 20 from rfl]; omega)
theorem s_155a (d : Nat) (w : Nat × Bool) (I J : Nat → Nat → Int) (a b v : Int) (hd : 4 ≤ d) (h1 : 0 ≤ I 58 10 ∧ I 58 10 ≤ 10) (h2 : 0 ≤ I 58 6 ∧ I 58 6 ≤ 10) (hn : 0 ≤ I 58 20 ∧ I 58 20 ≤ 40) (hk : mOK (I 58 10) (I 58 6) a b v) : semC d 155 [vr 58, vi a, vi b, vi v] (mk w I J) = some (some (vi (valM I b a)), mk w (makeM I a b v) J) := by
  obtain ⟨e, rfl⟩ : ∃ e, d = e + 1 := ⟨d - 1, by omega⟩
  rw [e_155]
  unfold mOK at hk
  rcases hk with ⟨rfl, hk⟩ | ⟨rfl, hk⟩ | ⟨rfl, hk⟩
  all_goals simp (disch := omega) only [b_155_0, b_155_28, b_155_33, b_155_36, b_155_43, b_155_46, b_155_53, b_155_56, b_155_57, b_155_58, b_155_63, b_155_66, b_155_73, b_155_76, b_155_83, b_155_86, b_155_87, b_155_88, b_155_99, b_155_102, b_155_109, b_155_112, b_155_119, b_155_122, b_155_123, b_155_124, s_139 _ _ _ _ _ _ h1, s_135 _ _ _ _ _ _ _ _, s_152 _ _ _ _ _ _ _ _ _ hn, semK, Option.bind_some, mpush, wr_if, wr_tdiv, if_pos, if_neg, ↓reduceIte, b2_t, b2_f, Bool.false_eq_true, up2_ne, up2_sne, up2_s, true_or, or_true, true_and, and_true, false_and, and_false, false_or, or_false]
theorem s_155b (d : Nat) (w : Nat × Bool) (I J : Nat → Nat → Int) (a b v : Int) (hd : 4 ≤ d) (h1 : 0 ≤ I 58 10 ∧ I 58 10 ≤ 10) (h2 : 0 ≤ I 58 6 ∧ I 58 6 ≤ 10) (hk : ¬ mOK (I 58 10) (I 58 6) a b v) : semC d 155 [vr 58, vi a, vi b, vi v] (mk w I J) = some (some (vi (-1)), mk w I J) := by
  obtain ⟨e, rfl⟩ : ∃ e, d = e + 1 := ⟨d - 1, by omega⟩
  rw [e_155]
  unfold mOK at hk
  by_cases c1 : b = 0
  · by_cases c2 : 0 ≤ a ∧ a < I 58 10 <;> simp (disch := omega) only [b_155_0, b_155_28, b_155_33, b_155_36, b_155_43, b_155_46, b_155_53, b_155_56, b_155_57, b_155_58, b_155_63, b_155_66, b_155_73, b_155_76, b_155_83, b_155_86, b_155_87, b_155_88, b_155_99, b_155_102, b_155_109, b_155_112, b_155_119, b_155_122, b_155_123, b_155_124, s_139 _ _ _ _ _ _ h1, s_135 _ _ _ _ _ _ _ _, semK, Option.bind_some, mpush, wr_if, wr_tdiv, if_pos, if_neg, ↓reduceIte, b2_t, b2_f, Bool.false_eq_true, up2_ne, up2_sne, up2_s, true_or, or_true, true_and, and_true, false_and, and_false, false_or, or_false]
  · by_cases c3 : b = 1
    · by_cases c2 : 0 ≤ a ∧ a < I 58 10 <;> simp (disch := omega) only [b_155_0, b_155_28, b_155_33, b_155_36, b_155_43, b_155_46, b_155_53, b_155_56, b_155_57, b_155_58, b_155_63, b_155_66, b_155_73, b_155_76, b_155_83, b_155_86, b_155_87, b_155_88, b_155_99, b_155_102, b_155_109, b_155_112, b_155_119, b_155_122, b_155_123, b_155_124, s_139 _ _ _ _ _ _ h1, s_135 _ _ _ _ _ _ _ _, semK, Option.bind_some, mpush, wr_if, wr_tdiv, if_pos, if_neg, ↓reduceIte, b2_t, b2_f, Bool.false_eq_true, up2_ne, up2_sne, up2_s, true_or, or_true, true_and, and_true, false_and, and_false, false_or, or_false]
    · by_cases c4 : b = 2
      · by_cases c2 : 0 ≤ a ∧ a < I 58 6 <;> simp (disch := omega) only [b_155_0, b_155_28, b_155_33, b_155_36, b_155_43, b_155_46, b_155_53, b_155_56, b_155_57, b_155_58, b_155_63, b_155_66, b_155_73, b_155_76, b_155_83, b_155_86, b_155_87, b_155_88, b_155_99, b_155_102, b_155_109, b_155_112, b_155_119, b_155_122, b_155_123, b_155_124, s_139 _ _ _ _ _ _ h1, s_135 _ _ _ _ _ _ _ _, semK, Option.bind_some, mpush, wr_if, wr_tdiv, if_pos, if_neg, ↓reduceIte, b2_t, b2_f, Bool.false_eq_true, up2_ne, up2_sne, up2_s, true_or, or_true, true_and, and_true, false_and, and_false, false_or, or_false]
      · simp (disch := omega) only [b_155_0, b_155_28, b_155_33, b_155_36, b_155_43, b_155_46, b_155_53, b_155_56, b_155_57, b_155_58, b_155_63, b_155_66, b_155_73, b_155_76, b_155_83, b_155_86, b_155_87, b_155_88, b_155_99, b_155_102, b_155_109, b_155_112, b_155_119, b_155_122, b_155_123, b_155_124, semK, Option.bind_some, mpush, wr_if, wr_tdiv, if_pos, if_neg, ↓reduceIte, b2_t, b2_f, Bool.false_eq_true, up2_ne, up2_sne, up2_s, true_or, or_true, true_and, and_true, false_and, and_false, false_or, or_false]
def undoM (I : Nat → Nat → Int) : Nat → Nat → Int := laysM (up2 (up2 I 58 20 (I 58 20 - 1)) 58 21 (I 58 21 + 1)) (I 70 (I 58 20 - 1).toNat) (I 71 (I 58 20 - 1).toNat) (I 72 (I 58 20 - 1).toNat)
def redoM (I : Nat → Nat → Int) : Nat → Nat → Int := up2 (up2 (laysM I (I 70 (I 58 20).toNat) (I 71 (I 58 20).toNat) (I 73 (I 58 20).toNat)) 58 20 (I 58 20 + 1)) 58 21 (I 58 21 - 1)
theorem laysM_58 (I : Nat → Nat → Int) (of at_ v : Int) : laysM I of at_ v 58 = I 58 := by
  unfold laysM
  split
  · simp [up2_row]
  · split <;> simp [up2_row]
theorem s_153 (d : Nat) (w : Nat × Bool) (I J : Nat → Nat → Int) (hd : 2 ≤ d) (hn : 0 ≤ I 58 20 ∧ I 58 20 ≤ 40) (hm : 0 ≤ I 58 21 ∧ I 58 21 ≤ 40) (ha : ∀ k, 0 ≤ I 71 k ∧ I 71 k < 10) : semC d 153 [vr 58] (mk w I J) = if I 58 20 = 0 then some (some (vi (-5)), mk w I J) else some (some (vi (I 58 20 - 1)), mk w (undoM I) J) := by
  obtain ⟨e, rfl⟩ : ∃ e, d = e + 1 := ⟨d - 1, by omega⟩
  rw [e_153]
  have g := ha (I 58 20 - 1).toNat
  by_cases c1 : I 58 20 = 0
  · simp (disch := omega) only [b_153_0, b_153_7, b_153_10, b_153_61, semK, Option.bind_some, mpush, wr_if, wr_tdiv, if_pos, if_neg, ↓reduceIte, b2_t, b2_f, Bool.false_eq_true, up2_ne, up2_sne, up2_s, true_or, or_true, true_and, and_true, false_and, and_false, false_or, or_false]
  · have t := s_151 e w (up2 (up2 I 58 20 (I 58 20 - 1)) 58 21 (I 58 21 + 1)) J (I 71 (I 58 20 - 1).toNat) (I 70 (I 58 20 - 1).toNat) (I 72 (I 58 20 - 1).toNat) (by omega) g
    simp (disch := omega) only [b_153_0, b_153_7, b_153_10, b_153_61, t, semK, Option.bind_some, mpush, wr_if, wr_tdiv, if_pos, if_neg, ↓reduceIte, b2_t, b2_f, Bool.false_eq_true, up2_ne, up2_sne, up2_s, true_or, or_true, true_and, and_true, false_and, and_false, false_or, or_false, laysM_58]
    rfl
theorem s_154 (d : Nat) (w : Nat × Bool) (I J : Nat → Nat → Int) (hd : 2 ≤ d) (hn : 0 ≤ I 58 20 ∧ I 58 20 + I 58 21 ≤ 40) (hm : 0 ≤ I 58 21) (ha : ∀ k, 0 ≤ I 71 k ∧ I 71 k < 10) : semC d 154 [vr 58] (mk w I J) = if I 58 21 = 0 then some (some (vi (-5)), mk w I J) else some (some (vi (I 58 21 - 1)), mk w (redoM I) J) := by
  obtain ⟨e, rfl⟩ : ∃ e, d = e + 1 := ⟨d - 1, by omega⟩
  rw [e_154]
  have g := ha (I 58 20).toNat
  by_cases c1 : I 58 21 = 0
  · simp (disch := omega) only [b_154_0, b_154_7, b_154_10, b_154_41, semK, Option.bind_some, mpush, wr_if, wr_tdiv, if_pos, if_neg, ↓reduceIte, b2_t, b2_f, Bool.false_eq_true, up2_ne, up2_sne, up2_s, true_or, or_true, true_and, and_true, false_and, and_false, false_or, or_false]
  · have t := s_151 e w I J (I 71 (I 58 20).toNat) (I 70 (I 58 20).toNat) (I 73 (I 58 20).toNat) (by omega) g
    simp (disch := omega) only [b_154_0, b_154_7, b_154_10, b_154_41, t, semK, Option.bind_some, mpush, wr_if, wr_tdiv, if_pos, if_neg, ↓reduceIte, b2_t, b2_f, Bool.false_eq_true, up2_ne, up2_sne, up2_s, true_or, or_true, true_and, and_true, false_and, and_false, false_or, or_false, laysM_58]
    rfl
