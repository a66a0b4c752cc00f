def sSX (I : Nat → Nat → Int) (x y h : Int) : Nat → Nat → Int := up2 (up2 (up2 (up2 (up2 I 7 (I 4 8).toNat x) 8 (I 4 8).toNat y) 9 (I 4 8).toNat h) 4 9 (I 4 9 + 1)) 4 8 (I 4 8 + 1)
def sSM (I : Nat → Nat → Int) (x y h : Int) : Nat → Nat → Int := up2 (up2 (up2 (up2 I 61 (I 58 6).toNat x) 62 (I 58 6).toNat y) 63 (I 58 6).toNat h) 58 6 (I 58 6 + 1)
theorem s_25 (d : Nat) (w : Nat × Bool) (I J : Nat → Nat → Int) (x y z : Int) (hd : 3 ≤ d) (h : rFX I) : semC d 25 [vr 4, vi x, vi y, vi z] (mk w I J) =
    if frX I x y = true ∧ 1 ≤ z ∧ z ≤ 9 then (if I 4 8 = 10 then some (some (vi (-3)), mk w I J) else some (some (vi (I 4 8)), mk w (sSX I x y z) J)) else some (some (vi (-1)), mk w I J) := by
  obtain ⟨e, rfl⟩ : ∃ e, d = e + 1 := ⟨d - 1, by omega⟩
  rw [e_25]
  have h' := h
  obtain ⟨h1, h2, h3, h4, h5⟩ := h'
  cases hf : frX I x y <;> by_cases h9 : I 4 8 = 10 <;> by_cases hz : 1 ≤ z ∧ z ≤ 9
  all_goals simp (disch := omega) only [b_25_0, b_25_6, b_25_9, b_25_16, b_25_19, b_25_21, b_25_30, b_25_33, t_23 _ _ _ _ _ _ _ h, s_133 _ _ _ _ _ _ _ _, hf, h9, semK, Option.bind_some, mpush, wr_if, wr_tdiv, if_pos, if_neg, ↓reduceIte, b2_t, b2_f, Bool.false_eq_true, up2_ne, up2_sne, up2_s, true_or, or_true, true_and, and_true, false_and, and_false, false_or, or_false]
  all_goals first | rfl | (simp; done) | (simp_all; done) | ((repeat' split) <;> first | rfl | (exfalso; omega) | (simp_all; done))
theorem s_96 (d : Nat) (w : Nat × Bool) (I J : Nat → Nat → Int) (x z : Int) (hd : 4 ≤ d) (hx : iR x) (h : rFX I) : semC d 96 [vr 3, vi x, vi z] (mk w I J) =
    if 0 ≤ x ∧ frX I (x.tdiv 100) (x.tmod 100) = true ∧ 1 ≤ z ∧ z ≤ 9 then (if I 4 8 = 10 then some (some (vi (-3)), mk w I J) else some (some (vi (I 4 8)), mk w (sSX I (x.tdiv 100) (x.tmod 100) z) J)) else some (some (vi (-1)), mk w I J) := by
  obtain ⟨e, rfl⟩ : ∃ e, d = e + 1 := ⟨d - 1, by omega⟩
  rw [e_96]
  obtain ⟨hx1, hx2⟩ := id hx
  by_cases h0 : x < 0
  · simp (disch := omega) only [b_96_0, b_96_4, b_96_6, b_96_22, semK, Option.bind_some, mpush, wr_if, wr_tdiv, if_pos, if_neg, ↓reduceIte, b2_t, b2_f, Bool.false_eq_true, up2_ne, up2_sne, up2_s, true_or, or_true, true_and, and_true, false_and, and_false, false_or, or_false]
  · cases hf : frX I (x.tdiv 100) (x.tmod 100) <;> by_cases h9 : I 4 8 = 10 <;> by_cases hz : 1 ≤ z ∧ z ≤ 9
    all_goals simp (disch := omega) only [b_96_0, b_96_4, b_96_6, b_96_22, s_25 _ _ _ _ _ _ _ _ h, hf, h9, hz, and_self, and_true, true_and, and_false, false_and, semK, Option.bind_some, mpush, wr_if, wr_tdiv, if_pos, if_neg, ↓reduceIte, b2_t, b2_f, Bool.false_eq_true, up2_ne, up2_sne, up2_s, true_or, or_true, true_and, and_true, false_and, and_false, false_or, or_false]
    all_goals first | rfl | (simp; done) | (simp_all; done) | ((repeat' split) <;> first | rfl | (exfalso; omega) | (simp_all; done))
theorem s_145 (d : Nat) (w : Nat × Bool) (I J : Nat → Nat → Int) (x z : Int) (hd : 3 ≤ d) (hx : iR x) (h : rFM I) : semC d 145 [vr 58, vi x, vi z] (mk w I J) =
    if 0 ≤ x ∧ frM I (x.tdiv 100) (x.tmod 100) = true ∧ 1 ≤ z ∧ z ≤ 9 then (if I 58 6 = 10 then some (some (vi (-3)), mk w I J) else some (some (vi (I 58 6)), mk w (sSM I (x.tdiv 100) (x.tmod 100) z) J)) else some (some (vi (-1)), mk w I J) := by
  obtain ⟨e, rfl⟩ : ∃ e, d = e + 1 := ⟨d - 1, by omega⟩
  rw [e_145]
  obtain ⟨hx1, hx2⟩ := id hx
  have h' := h
  obtain ⟨h1, h2, h3, h4⟩ := h'
  by_cases h0 : x < 0
  · simp (disch := omega) only [b_145_0, b_145_4, b_145_16, b_145_19, b_145_26, b_145_29, b_145_31, b_145_40, b_145_43, semK, Option.bind_some, mpush, wr_if, wr_tdiv, if_pos, if_neg, ↓reduceIte, b2_t, b2_f, Bool.false_eq_true, up2_ne, up2_sne, up2_s, true_or, or_true, true_and, and_true, false_and, and_false, false_or, or_false]
  · cases hf : frM I (x.tdiv 100) (x.tmod 100) <;> by_cases h9 : I 58 6 = 10 <;> by_cases hz : 1 ≤ z ∧ z ≤ 9
    all_goals simp (disch := omega) only [b_145_0, b_145_4, b_145_16, b_145_19, b_145_26, b_145_29, b_145_31, b_145_40, b_145_43, t_141 _ _ _ _ _ _ _ h, s_135 _ _ _ _ _ _ _ _, hf, h9, hz, and_self, and_true, true_and, and_false, false_and, semK, Option.bind_some, mpush, wr_if, wr_tdiv, if_pos, if_neg, ↓reduceIte, b2_t, b2_f, Bool.false_eq_true, up2_ne, up2_sne, up2_s, true_or, or_true, true_and, and_true, false_and, and_false, false_or, or_false, Int.add_sub_cancel]
    all_goals first | rfl | (simp; done) | (simp_all; done) | ((repeat' split) <;> first | rfl | (exfalso; omega) | (simp_all; done))
theorem sit1_neg (n : Nat) (f : Nat → Int) (x : Int) : sit1 n f x < 0 ↔ sit1 n f x = -1 := by
  unfold sit1
  cases fnd (fun u => decide (f u = x)) n with
  | none => simp
  | some k => simp
def wk5 (a b c e g : Nat) (I : Nat → Nat → Int) (n : Nat) (vm ne wt : Int) : Nat → Nat → Int := up2 (up2 (up2 (up2 (up2 I a n (vm.tdiv 10)) b n (vm.tmod 10)) c n ne) e n (wt.tdiv 1000)) g n (wt.tmod 1000)
def sits (nw nd : Int) (se : Nat → Int) : Int := if nw < nd ∧ sit1 nw.toNat se nw = -1 then nw else -1
def aWX (I : Nat → Nat → Int) (vm ne wt : Int) : Nat → Nat → Int := up2 (up2 (wk5 11 12 13 14 15 I (I 10 6).toNat vm ne wt) 16 (I 10 6).toNat (sits (I 10 6) (I 4 4) (I 16))) 10 6 (I 10 6 + 1)
def aWM (I : Nat → Nat → Int) (vm ne wt : Int) : Nat → Nat → Int := up2 (up2 (wk5 64 65 66 67 68 I (I 58 10).toNat vm ne wt) 69 (I 58 10).toNat (sits (I 58 10) (I 58 3) (I 69))) 58 10 (I 58 10 + 1)
theorem t_82 (d : Nat) (w : Nat × Bool) (I J : Nat → Nat → Int) (x : Int) (n : Int) (hn : I 10 6 = n) (f : Nat → Int) (hf : I 16 = f) (hx : x ≠ -1) (hd : 1 ≤ d) (h : 0 ≤ n ∧ n ≤ 10) : semC d 82 [vr 10, vi x] (mk w I J) = some (some (vi (sit1 n.toNat f x)), mk w I J) := by
  subst hn; subst hf
  rw [s_82 d w I J x hd h, if_neg hx]
theorem t_146 (d : Nat) (w : Nat × Bool) (I J : Nat → Nat → Int) (x : Int) (n : Int) (hn : I 58 10 = n) (f : Nat → Int) (hf : I 69 = f) (hd : 1 ≤ d) (h : 0 ≤ n ∧ n ≤ 10) : semC d 146 [vr 58, vi x] (mk w I J) = some (some (vi (sit1 n.toNat f x)), mk w I J) := by
  subst hn; subst hf
  rw [s_146 d w I J x hd h]
theorem s_81 (d : Nat) (w : Nat × Bool) (I J : Nat → Nat → Int) (vm ne wt nd : Int) (hd : 2 ≤ d) (h1 : iR vm) (h2 : iR wt) (h : 0 ≤ I 10 6 ∧ I 10 6 < 10) : semC d 81 [vr 10, vi vm, vi ne, vi wt, vi nd] (mk w I J) =
    some (some (vi (I 10 6)), mk w (up2 (up2 (wk5 11 12 13 14 15 I (I 10 6).toNat vm ne wt) 16 (I 10 6).toNat (sits (I 10 6) nd (I 16))) 10 6 (I 10 6 + 1)) J) := by
  obtain ⟨e, rfl⟩ : ∃ e, d = e + 1 := ⟨d - 1, by omega⟩
  rw [e_81]
  obtain ⟨v1, v2⟩ := id h1
  obtain ⟨v3, v4⟩ := id h2
  have t82 := t_82 e w (wk5 11 12 13 14 15 I (I 10 6).toNat vm ne wt) J (I 10 6) (I 10 6) rfl (I 16) (by simp [wk5, up2_row]) (by omega) (by omega) (by omega)
  unfold wk5 at t82
  unfold wk5 sits
  by_cases c1 : I 10 6 < nd <;> by_cases c2 : sit1 (I 10 6).toNat (I 16) (I 10 6) = -1
  all_goals simp (disch := omega) only [b_81_0, b_81_67, b_81_73, b_81_77, b_81_81, b_81_82, b_81_95, b_81_100, b_81_101, t82, c1, c2, and_self, and_true, true_and, and_false, false_and, semK, Option.bind_some, mpush, wr_if, wr_tdiv, if_pos, if_neg, ↓reduceIte, b2_t, b2_f, Bool.false_eq_true, up2_ne, up2_sne, up2_s, true_or, or_true, true_and, and_true, false_and, and_false, false_or, or_false]
  all_goals first | rfl | (simp; done) | (simp_all; done) | ((repeat' split) <;> first | rfl | (exfalso; omega) | (simp_all; done))
theorem s_97 (d : Nat) (w : Nat × Bool) (I J : Nat → Nat → Int) (vm ne wt : Int) (hd : 3 ≤ d) (h1 : iR vm) (h2 : iR wt) (h : 0 ≤ I 10 6 ∧ I 10 6 ≤ 10) : semC d 97 [vr 3, vi vm, vi ne, vi wt] (mk w I J) =
    if (0 ≤ vm ∧ vm ≤ 999) ∧ (0 ≤ ne ∧ ne ≤ 1023) ∧ (10 ≤ wt.tdiv 1000 ∧ wt.tdiv 1000 ≤ 30) ∧ 0 ≤ wt.tmod 1000 ∧ wt.tmod 1000 ≤ 100 then
      (if I 10 6 = 10 then some (some (vi (-3)), mk w I J) else some (some (vi (I 10 6)), mk w (aWX I vm ne wt) J)) else some (some (vi (-1)), mk w I J) := by
  obtain ⟨e, rfl⟩ : ∃ e, d = e + 1 := ⟨d - 1, by omega⟩
  rw [e_97]
  obtain ⟨v1, v2⟩ := id h1
  obtain ⟨v3, v4⟩ := id h2
  unfold aWX
  by_cases c1 : 0 ≤ vm ∧ vm ≤ 999 <;> by_cases c2 : 0 ≤ ne ∧ ne ≤ 1023 <;> by_cases c3 : 10 ≤ wt.tdiv 1000 ∧ wt.tdiv 1000 ≤ 30 <;> by_cases c4 : 0 ≤ wt.tmod 1000 ∧ wt.tmod 1000 ≤ 100 <;> by_cases c5 : I 10 6 = 10
  all_goals simp (disch := omega) only [b_97_0, b_97_8, b_97_11, b_97_19, b_97_22, b_97_24, b_97_36, b_97_39, b_97_50, b_97_53, b_97_55, b_97_67, b_97_70, b_97_87, s_133 _ _ _ _ _ _ _ _, c1, c2, c3, c4, semK, Option.bind_some, mpush, wr_if, wr_tdiv, if_pos, if_neg, ↓reduceIte, b2_t, b2_f, Bool.false_eq_true, up2_ne, up2_sne, up2_s, true_or, or_true, true_and, and_true, false_and, and_false, false_or, or_false, and_self, and_true, true_and, and_false, false_and]
  all_goals rw [s_81 _ _ _ _ _ _ _ _ (by omega) h1 h2 (by omega)]
  all_goals simp only [b_97_0, b_97_8, b_97_11, b_97_19, b_97_22, b_97_24, b_97_36, b_97_39, b_97_50, b_97_53, b_97_55, b_97_67, b_97_70, b_97_87, semK, Option.bind_some, mpush, wr_if, wr_tdiv, if_pos, if_neg, ↓reduceIte, b2_t, b2_f, Bool.false_eq_true, up2_ne, up2_sne, up2_s, true_or, or_true, true_and, and_true, false_and, and_false, false_or, or_false]
