/-! acts -/
def ownT (n : Nat) : Int := if n = 0 then 1 else if n = 1 then 10 else if n = 2 then 11 else if n = 3 then 2 else if n = 4 then 20 else if n = 5 then 0 else if n = 6 then 0 else if n = 7 then 0 else if n = 8 then 0 else if n = 9 then 30 else if n = 10 then 0 else if n = 11 then 0 else if n = 12 then 0 else if n = 13 then 41 else if n = 14 then 40 else if n = 15 then 0 else if n = 16 then 0 else if n = 17 then 0 else if n = 18 then 0 else if n = 19 then 50 else if n = 20 then 0 else if n = 21 then 0 else if n = 22 then 60 else if n = 23 then 61 else if n = 24 then 70 else if n = 25 then 0 else if n = 26 then 0 else if n = 27 then 0 else if n = 28 then 81 else if n = 29 then 80 else if n = 30 then 0 else if n = 31 then 0 else 0
def rn (a k : Int) : Int := if a = 0 ∧ k = 0 then 1 else if a = 0 ∧ k = 1 then 20 else if a = 0 ∧ k = 2 then 1 else if a = 0 ∧ k = 3 then 1 else if a = 0 ∧ k = 4 then 20 else if a = 0 ∧ k = 5 then 20 else if a = 0 ∧ k = 6 then 70 else if a = 0 ∧ k = 7 then 81 else if a = 1 ∧ k = 0 then 10 else if a = 1 ∧ k = 1 then 10 else if a = 1 ∧ k = 2 then 30 else if a = 1 ∧ k = 3 then 41 else if a = 1 ∧ k = 4 then 10 else if a = 1 ∧ k = 5 then 10 else if a = 1 ∧ k = 6 then 10 else if a = 1 ∧ k = 7 then 80 else if a = 2 ∧ k = 0 then 11 else if a = 2 ∧ k = 1 then 11 else if a = 2 ∧ k = 2 then 11 else if a = 2 ∧ k = 3 then 40 else if a = 2 ∧ k = 4 then 11 else if a = 2 ∧ k = 5 then 60 else if a = 2 ∧ k = 6 then 11 else if a = 2 ∧ k = 7 then 11 else if a = 3 ∧ k = 0 then 2 else if a = 3 ∧ k = 1 then 2 else if a = 3 ∧ k = 2 then 2 else if a = 3 ∧ k = 3 then 2 else if a = 3 ∧ k = 4 then 50 else if a = 3 ∧ k = 5 then 61 else if a = 3 ∧ k = 6 then 2 else if a = 3 ∧ k = 7 then 2 else 0
def upk (a k : Int) : Int := if a = 0 ∧ k = 0 then -1 else if a = 0 ∧ k = 1 then 0 else if a = 0 ∧ k = 2 then -1 else if a = 0 ∧ k = 3 then -1 else if a = 0 ∧ k = 4 then 0 else if a = 0 ∧ k = 5 then 0 else if a = 0 ∧ k = 6 then 0 else if a = 0 ∧ k = 7 then 6 else if a = 1 ∧ k = 0 then -1 else if a = 1 ∧ k = 1 then -1 else if a = 1 ∧ k = 2 then 0 else if a = 1 ∧ k = 3 then 2 else if a = 1 ∧ k = 4 then -1 else if a = 1 ∧ k = 5 then -1 else if a = 1 ∧ k = 6 then -1 else if a = 1 ∧ k = 7 then 6 else if a = 2 ∧ k = 0 then -1 else if a = 2 ∧ k = 1 then -1 else if a = 2 ∧ k = 2 then -1 else if a = 2 ∧ k = 3 then 2 else if a = 2 ∧ k = 4 then -1 else if a = 2 ∧ k = 5 then 4 else if a = 2 ∧ k = 6 then -1 else if a = 2 ∧ k = 7 then -1 else if a = 3 ∧ k = 0 then -1 else if a = 3 ∧ k = 1 then -1 else if a = 3 ∧ k = 2 then -1 else if a = 3 ∧ k = 3 then -1 else if a = 3 ∧ k = 4 then 1 else if a = 3 ∧ k = 5 then 4 else if a = 3 ∧ k = 6 then -1 else if a = 3 ∧ k = 7 then -1 else 0
def trX (I : Nat → Nat → Int) (r : Int) : Nat → Nat → Int := up2 (if I 42 3 < 24 then up2 I 44 (I 42 3).toNat r else I) 42 3 (I 42 3 + 1)
def trM (I : Nat → Nat → Int) (r : Int) : Nat → Nat → Int := up2 (if I 58 50 < 24 then up2 I 91 (I 58 50).toNat r else I) 58 50 (I 58 50 + 1)
def trsX (I : Nat → Nat → Int) (l : List Int) : Nat → Nat → Int := l.foldl trX I
def trsM (I : Nat → Nat → Int) (l : List Int) : Nat → Nat → Int := l.foldl trM I
theorem trsX_app (I : Nat → Nat → Int) (l l' : List Int) : trsX I (l ++ l') = trsX (trsX I l) l' := List.foldl_append
theorem trsM_app (I : Nat → Nat → Int) (l l' : List Int) : trsM I (l ++ l') = trsM (trsM I l) l' := List.foldl_append
theorem trX_s {I : Nat → Nat → Int} {r : Int} {c : Nat} (h : c ≠ 42) (h4 : c ≠ 44) : trX I r c = I c := by
  unfold trX
  rw [up2_row, if_neg h]
  split
  · rw [up2_row, if_neg h4]
  · rfl
theorem trX_42 {I : Nat → Nat → Int} {r : Int} {k : Nat} : trX I r 42 k = if k = 3 then I 42 3 + 1 else I 42 k := by
  unfold trX
  rw [up2_row, if_pos rfl, rs_at]
  by_cases h : k = 3
  · rw [if_pos h, if_pos h]
  · rw [if_neg h, if_neg h]
    split
    · rw [up2_row, if_neg (by omega)]
    · rfl
def AX (K b m : Int) (I : Nat → Nat → Int) : Prop := I 1 = ownT ∧ I 2 = abv ∧ (0 ≤ I 42 3 ∧ I 42 3 ≤ m) ∧ I 42 4 = b ∧ (0 ≤ b ∧ b < 50) ∧ I 43 b.toNat = K
theorem AX_tr {K b m r : Int} {I : Nat → Nat → Int} (h : AX K b m I) : AX K b (m + 1) (trX I r) := by
  obtain ⟨h1, h2, h3, h4, h5, h6⟩ := h
  refine ⟨?_, ?_, ?_, ?_, h5, ?_⟩
  · rw [trX_s (by omega) (by omega), h1]
  · rw [trX_s (by omega) (by omega), h2]
  · rw [trX_42, if_pos rfl]; omega
  · rw [trX_42, if_neg (by omega), h4]
  · rw [trX_s (by omega) (by omega), h6]
theorem AX_trs {K b : Int} : ∀ {l : List Int} {m n : Int} {I : Nat → Nat → Int}, AX K b m I → m + l.length ≤ n → AX K b n (trsX I l)
  | [], m, n, I, h, hn => by
    obtain ⟨h1, h2, h3, h4, h5, h6⟩ := h
    rw [List.length_nil] at hn
    exact ⟨h1, h2, ⟨h3.1, show I 42 3 ≤ n by omega⟩, h4, h5, h6⟩
  | r :: l, m, n, I, h, hn => by
    rw [List.length_cons] at hn
    exact AX_trs (l := l) (AX_tr h) (by omega)
theorem four {a : Int} (h : 0 ≤ a ∧ a ≤ 3) : a = 0 ∨ a = 1 ∨ a = 2 ∨ a = 3 := by omega
theorem pf (e : Nat) (w : Nat × Bool) (I J : Nat → Nat → Int) (a k x dep v K b m : Int) (I' J' : Nat → Nat → Int) (ha : 0 ≤ a ∧ a ≤ 3) (hk : 0 ≤ k ∧ k ≤ 7) (hp : 0 ≤ dep ∧ dep ≤ 40) (hm : m ≤ 1000) (hA : AX K b m I)
    (h : semC e 7 [vr 42, vi (rn a k), vi x, vi (upk a k), vi (dep + 1)] (mk w (trX I (rn a k)) J) = some (some (vi v), mk w I' J')) : semC (e + 1) 6 [vr 42, vi a, vi x, vi k, vi dep] (mk w I J) = some (some (vi v), mk w I' J') := by
  obtain ⟨h1, h2, h3, -⟩ := hA
  unfold trX at h
  rw [e_6]
  by_cases c : I 42 3 < 24
  · rw [if_pos c] at h
    rcases four ha with rfl | rfl | rfl | rfl <;> rcases eight hk with rfl | rfl | rfl | rfl | rfl | rfl | rfl | rfl
    all_goals (simp only [b_6_0]; simp only [rn, upk, ↓reduceIte, Int.reduceEq, and_false, and_true, and_self, false_and, Int.reduceNeg] at h)
    all_goals (iterate 4 (try (rw [b_6_6]; simp (disch := omega) only [b_6_0, b_6_13, b_6_18, b_6_31, b_6_45, b_6_50, b_6_57, b_6_59, b_6_80, b_6_91, b_6_118, h1, h2, ownT, abv, Int.reduceToNat, Nat.reduceEqDiff, Int.reduceMul, Int.reduceAdd, Int.reduceEq, h, c, up2_row, rs_at, semK, Option.bind_some, mpush, wr_if, wr_tdiv, if_pos, if_neg, ↓reduceIte, b2_t, b2_f, Bool.false_eq_true, up2_ne, up2_sne, up2_s, true_or, or_true, true_and, and_true, false_and, and_false, false_or, or_false])))
  · rw [if_neg c] at h
    rcases four ha with rfl | rfl | rfl | rfl <;> rcases eight hk with rfl | rfl | rfl | rfl | rfl | rfl | rfl | rfl
    all_goals (simp only [b_6_0]; simp only [rn, upk, ↓reduceIte, Int.reduceEq, and_false, and_true, and_self, false_and, Int.reduceNeg] at h)
    all_goals (iterate 4 (try (rw [b_6_6]; simp (disch := omega) only [b_6_0, b_6_13, b_6_18, b_6_31, b_6_45, b_6_50, b_6_57, b_6_59, b_6_80, b_6_91, b_6_118, h1, h2, ownT, abv, Int.reduceToNat, Nat.reduceEqDiff, Int.reduceMul, Int.reduceAdd, Int.reduceEq, h, c, up2_row, rs_at, semK, Option.bind_some, mpush, wr_if, wr_tdiv, if_pos, if_neg, ↓reduceIte, b2_t, b2_f, Bool.false_eq_true, up2_ne, up2_sne, up2_s, true_or, or_true, true_and, and_true, false_and, and_false, false_or, or_false])))

theorem ow (e : Nat) (w : Nat × Bool) (I J : Nat → Nat → Int) (a x dep v K b m : Int) (I' J' : Nat → Nat → Int) (hA : AX K b m I)
    (h : semC e 6 [vr 42, vi a, vi x, vi K, vi dep] (mk w I J) = some (some (vi v), mk w I' J')) : semC (e + 1) 8 [vr 42, vi a, vi x, vi dep] (mk w I J) = some (some (vi v), mk w I' J') := by
  obtain ⟨h1, h2, h3, h4, h5, h6⟩ := hA
  rw [e_8]
  simp (disch := omega) only [b_8_0, b_8_16, h4, h6, h, semK, Option.bind_some, mpush, wr_if, wr_tdiv, if_pos, if_neg, ↓reduceIte, b2_t, b2_f, Bool.false_eq_true, up2_ne, up2_sne, up2_s, true_or, or_true, true_and, and_true, false_and, and_false, false_or, or_false]
/-- what the acts give, and which bodies of acts run -/
def spV (k b x : Int) : Int := if k = 1 ∨ k = 4 ∨ k = 5 then wr (wr (x + b) + 3) else if k = 7 then wr (wr (wr (x + b) * 2) - 1) else if k = 6 then wr (wr (x + b) * 2) else wr (x + b)
def spT (k : Int) : List Int := if k = 1 ∨ k = 4 ∨ k = 5 then [20, 1] else if k = 7 then [81, 70, 1] else if k = 6 then [70, 1] else [1]
def miV (k b x : Int) : Int := if k = 3 then wr (ixor x b * 3) else if k = 5 then wr (ixor x b - spV k b 2) else ixor x b
def miT (k : Int) : List Int := if k = 3 then [40, 11] else if k = 5 then [60, 11] ++ spT k else [11]
def phV (k b x : Int) : Int := wr (spV k b x * 2)
def phT (k : Int) : List Int := [10] ++ spT k
def heV (k b x : Int) : Int := if k = 3 then wr (-phV k b (wr (x + 1))) else if k = 7 then wr (phV k b x + miV k b 2) else if k = 2 then wr (-phV k b x) else phV k b x
def heT (k : Int) : List Int := if k = 3 then [41, 30] ++ phT k else if k = 7 then [80] ++ phT k ++ miT k else if k = 2 then [30] ++ phT k else phT k
def pmV (k b x : Int) : Int := wr (heV k b x - miV k b 1)
def pmT (k : Int) : List Int := [2] ++ heT k ++ miT k
def moV (k b x : Int) : Int := if k = 5 then wr (ixor (pmV k b x) 5 + 1) else if k = 4 then ixor (pmV k b x) 5 else pmV k b x
def moT (k : Int) : List Int := if k = 5 then [61, 50] ++ pmT k else if k = 4 then [50] ++ pmT k else pmT k
theorem spL (k : Int) : (spT k).length ≤ 3 := by
  unfold spT; (repeat' split) <;> simp
theorem miL (k : Int) : (miT k).length ≤ 5 := by
  have := spL k
  unfold miT; (repeat' split) <;> simp <;> omega
theorem heL (k : Int) : (heT k).length ≤ 12 := by
  have := spL k
  have := miL k
  unfold heT phT; (repeat' split) <;> simp <;> omega
theorem sp0 (e : Nat) (w : Nat × Bool) (I J : Nat → Nat → Int) (x dep K b m : Int) (k : Int) (he : 2 ≤ e) (hp : 0 ≤ dep ∧ dep ≤ 35) (hm : m ≤ 990) (hA : AX K b m I) (hk : k = 0 ∨ k = 2 ∨ k = 3) : semC e 6 [vr 42, vi 0, vi x, vi k, vi dep] (mk w I J) = some (some (vi (wr (x + b))), mk w (trsX I [1]) J) := by
  obtain ⟨e, rfl⟩ : ∃ e', e = e' + 2 := ⟨e - 2, by omega⟩
  apply pf _ _ _ _ _ _ _ _ _ K b m _ _ (by omega) (by omega) (by omega) (by omega) hA
  have h4 := (AX_tr (r := 1) hA).2.2.2.1
  rw [e_7]
  rcases hk with rfl | rfl | rfl
  all_goals (simp only [rn, upk, ↓reduceIte, Int.reduceEq, and_false, and_true, and_self, false_and, true_and, or_false, false_or, or_true, true_or, or_self, Int.reduceNeg]; simp (disch := omega) only [b_7_0, b_7_124, b_7_131, b_7_139, b_7_147, b_7_149, b_7_157, b_7_160, b_7_167, b_7_176, b_7_179, b_7_188, b_7_190, b_7_199, b_7_202, b_7_213, b_7_214, b_7_223, b_7_226, b_7_235, b_7_243, b_7_245, b_7_254, b_7_257, b_7_266, b_7_269, b_7_278, b_7_286, b_7_288, b_7_297, b_7_300, h4, trsX, List.foldl, semK, Option.bind_some, mpush, wr_if, wr_tdiv, if_pos, if_neg, ↓reduceIte, b2_t, b2_f, Bool.false_eq_true, up2_ne, up2_sne, up2_s, true_or, or_true, true_and, and_true, false_and, and_false, false_or, or_false])
theorem sp6 (e : Nat) (w : Nat × Bool) (I J : Nat → Nat → Int) (x dep K b m : Int) (he : 4 ≤ e) (hp : 0 ≤ dep ∧ dep ≤ 33) (hm : m ≤ 980) (hA : AX K b m I) : semC e 6 [vr 42, vi 0, vi x, vi 6, vi dep] (mk w I J) = some (some (vi (wr (wr (x + b) * 2))), mk w (trsX I [70, 1]) J) := by
  obtain ⟨e, rfl⟩ : ∃ e', e = e' + 2 := ⟨e - 2, by omega⟩
  apply pf _ _ _ _ _ _ _ _ _ K b m _ _ (by omega) (by omega) (by omega) (by omega) hA
  have h1 := sp0 e w (trX I 70) J x (dep + 1) K b (m + 1) 0 (by omega) (by omega) (by omega) (AX_tr hA) (by omega)
  rw [e_7]
  simp only [rn, upk, ↓reduceIte, Int.reduceEq, and_false, and_true, and_self, false_and, true_and, or_false, false_or, or_true, true_or, or_self, Int.reduceNeg]
  simp (disch := omega) only [b_7_0, b_7_124, b_7_131, b_7_139, b_7_147, b_7_149, b_7_157, b_7_160, b_7_167, b_7_176, b_7_179, b_7_188, b_7_190, b_7_199, b_7_202, b_7_213, b_7_214, b_7_223, b_7_226, b_7_235, b_7_243, b_7_245, b_7_254, b_7_257, b_7_266, b_7_269, b_7_278, b_7_286, b_7_288, b_7_297, b_7_300, h1, trsX, List.foldl, semK, Option.bind_some, mpush, wr_if, wr_tdiv, if_pos, if_neg, ↓reduceIte, b2_t, b2_f, Bool.false_eq_true, up2_ne, up2_sne, up2_s, true_or, or_true, true_and, and_true, false_and, and_false, false_or, or_false]
theorem sp (e : Nat) (w : Nat × Bool) (I J : Nat → Nat → Int) (x dep K b m : Int) (k : Int) (he : 6 ≤ e) (hp : 0 ≤ dep ∧ dep ≤ 31) (hm : m ≤ 970) (hA : AX K b m I) (hk : 0 ≤ k ∧ k ≤ 7) : semC e 6 [vr 42, vi 0, vi x, vi k, vi dep] (mk w I J) = some (some (vi (spV k b x)), mk w (trsX I (spT k)) J) := by
  by_cases c0 : k = 0 ∨ k = 2 ∨ k = 3
  · have h0 := sp0 e w I J x dep K b m k (by omega) (by omega) (by omega) hA c0
    unfold spV spT
    rw [h0, if_neg (by omega), if_neg (by omega), if_neg (by omega), if_neg (by omega), if_neg (by omega), if_neg (by omega)]
  · by_cases c6 : k = 6
    · subst c6
      exact sp6 e w I J x dep K b m (by omega) (by omega) (by omega) hA
    · obtain ⟨e, rfl⟩ : ∃ e', e = e' + 2 := ⟨e - 2, by omega⟩
      apply pf _ _ _ _ _ _ _ _ _ K b m _ _ (by omega) (by omega) (by omega) (by omega) hA
      have h1 := sp0 e w (trX I 20) J x (dep + 1) K b (m + 1) 0 (by omega) (by omega) (by omega) (AX_tr hA) (by omega)
      have h2 := sp6 e w (trX I 81) J x (dep + 1) K b (m + 1) (by omega) (by omega) (by omega) (AX_tr hA)
      rw [e_7]
      have hk' : k = 1 ∨ k = 4 ∨ k = 5 ∨ k = 7 := by omega
      unfold spV spT
      rcases hk' with rfl | rfl | rfl | rfl
      all_goals (simp only [rn, upk, ↓reduceIte, Int.reduceEq, and_false, and_true, and_self, false_and, true_and, or_false, false_or, or_true, true_or, or_self, Int.reduceNeg]; simp (disch := omega) only [b_7_0, b_7_124, b_7_131, b_7_139, b_7_147, b_7_149, b_7_157, b_7_160, b_7_167, b_7_176, b_7_179, b_7_188, b_7_190, b_7_199, b_7_202, b_7_213, b_7_214, b_7_223, b_7_226, b_7_235, b_7_243, b_7_245, b_7_254, b_7_257, b_7_266, b_7_269, b_7_278, b_7_286, b_7_288, b_7_297, b_7_300, h1, h2, trsX, List.foldl, semK, Option.bind_some, mpush, wr_if, wr_tdiv, if_pos, if_neg, ↓reduceIte, b2_t, b2_f, Bool.false_eq_true, up2_ne, up2_sne, up2_s, true_or, or_true, true_and, and_true, false_and, and_false, false_or, or_false])
theorem mi0 (e : Nat) (w : Nat × Bool) (I J : Nat → Nat → Int) (x dep K b m : Int) (k : Int) (he : 2 ≤ e) (hp : 0 ≤ dep ∧ dep ≤ 35) (hm : m ≤ 990) (hA : AX K b m I) (hk : k = 0 ∨ k = 1 ∨ k = 2 ∨ k = 4 ∨ k = 6 ∨ k = 7) : semC e 6 [vr 42, vi 2, vi x, vi k, vi dep] (mk w I J) = some (some (vi (ixor x b)), mk w (trsX I [11]) J) := by
  obtain ⟨e, rfl⟩ : ∃ e', e = e' + 2 := ⟨e - 2, by omega⟩
  apply pf _ _ _ _ _ _ _ _ _ K b m _ _ (by omega) (by omega) (by omega) (by omega) hA
  have h4 := (AX_tr (r := 11) hA).2.2.2.1
  rw [e_7]
  rcases hk with rfl | rfl | rfl | rfl | rfl | rfl
  all_goals (simp only [rn, upk, ↓reduceIte, Int.reduceEq, and_false, and_true, and_self, false_and, true_and, or_false, false_or, or_true, true_or, or_self, Int.reduceNeg]; simp (disch := omega) only [b_7_0, b_7_124, b_7_131, b_7_139, b_7_147, b_7_149, b_7_157, b_7_160, b_7_167, b_7_176, b_7_179, b_7_188, b_7_190, b_7_199, b_7_202, b_7_213, b_7_214, b_7_223, b_7_226, b_7_235, b_7_243, b_7_245, b_7_254, b_7_257, b_7_266, b_7_269, b_7_278, b_7_286, b_7_288, b_7_297, b_7_300, h4, trsX, List.foldl, semK, Option.bind_some, mpush, wr_if, wr_tdiv, if_pos, if_neg, ↓reduceIte, b2_t, b2_f, Bool.false_eq_true, up2_ne, up2_sne, up2_s, true_or, or_true, true_and, and_true, false_and, and_false, false_or, or_false])
theorem mi (e : Nat) (w : Nat × Bool) (I J : Nat → Nat → Int) (x dep K b m : Int) (he : 10 ≤ e) (hp : 0 ≤ dep ∧ dep ≤ 28) (hm : m ≤ 960) (hA : AX K b m I) (hk : 0 ≤ K ∧ K ≤ 7) : semC e 6 [vr 42, vi 2, vi x, vi K, vi dep] (mk w I J) = some (some (vi (miV K b x)), mk w (trsX I (miT K)) J) := by
  by_cases c0 : K = 0 ∨ K = 1 ∨ K = 2 ∨ K = 4 ∨ K = 6 ∨ K = 7
  · have h0 := mi0 e w I J x dep K b m K (by omega) (by omega) (by omega) hA c0
    unfold miV miT
    rw [h0, if_neg (by omega), if_neg (by omega), if_neg (by omega), if_neg (by omega)]
  · obtain ⟨e, rfl⟩ : ∃ e', e = e' + 3 := ⟨e - 3, by omega⟩
    apply pf _ _ _ _ _ _ _ _ _ K b m _ _ (by omega) (by omega) (by omega) (by omega) hA
    have hk' : K = 3 ∨ K = 5 := by omega
    rw [e_7]
    unfold miV miT
    rcases hk' with rfl | rfl
    · have h1 := mi0 (e + 1) w (trX I 40) J x (dep + 1) 3 b (m + 1) 2 (by omega) (by omega) (by omega) (AX_tr hA) (by omega)
      simp only [rn, upk, ↓reduceIte, Int.reduceEq, and_false, and_true, and_self, false_and, true_and, or_false, false_or, or_true, true_or, or_self, Int.reduceNeg]
      simp (disch := omega) only [b_7_0, b_7_124, b_7_131, b_7_139, b_7_147, b_7_149, b_7_157, b_7_160, b_7_167, b_7_176, b_7_179, b_7_188, b_7_190, b_7_199, b_7_202, b_7_213, b_7_214, b_7_223, b_7_226, b_7_235, b_7_243, b_7_245, b_7_254, b_7_257, b_7_266, b_7_269, b_7_278, b_7_286, b_7_288, b_7_297, b_7_300, h1, trsX, List.foldl, semK, Option.bind_some, mpush, wr_if, wr_tdiv, if_pos, if_neg, ↓reduceIte, b2_t, b2_f, Bool.false_eq_true, up2_ne, up2_sne, up2_s, true_or, or_true, true_and, and_true, false_and, and_false, false_or, or_false]
    · have h1 := mi0 (e + 1) w (trX I 60) J x (dep + 1) 5 b (m + 1) 4 (by omega) (by omega) (by omega) (AX_tr hA) (by omega)
      have hA2 : AX 5 b (m + 2) (trsX (trX I 60) [11]) := AX_trs (AX_tr hA) (by simp; omega)
      have h2 := ow e w _ J 0 2 (dep + 1) _ 5 b _ _ J hA2 (sp e w _ J 2 (dep + 1) 5 b _ 5 (by omega) (by omega) (by omega) hA2 (by omega))
      simp only [rn, upk, ↓reduceIte, Int.reduceEq, and_false, and_true, and_self, false_and, true_and, or_false, false_or, or_true, true_or, or_self, Int.reduceNeg, trsX_app]
      simp (disch := omega) only [b_7_0, b_7_124, b_7_131, b_7_139, b_7_147, b_7_149, b_7_157, b_7_160, b_7_167, b_7_176, b_7_179, b_7_188, b_7_190, b_7_199, b_7_202, b_7_213, b_7_214, b_7_223, b_7_226, b_7_235, b_7_243, b_7_245, b_7_254, b_7_257, b_7_266, b_7_269, b_7_278, b_7_286, b_7_288, b_7_297, b_7_300, h1, h2, semK, Option.bind_some, mpush, wr_if, wr_tdiv, if_pos, if_neg, ↓reduceIte, b2_t, b2_f, Bool.false_eq_true, up2_ne, up2_sne, up2_s, true_or, or_true, true_and, and_true, false_and, and_false, false_or, or_false]
      rfl
theorem ph (e : Nat) (w : Nat × Bool) (I J : Nat → Nat → Int) (x dep K b m : Int) (k : Int) (he : 10 ≤ e) (hp : 0 ≤ dep ∧ dep ≤ 26) (hm : m ≤ 950) (hA : AX K b m I) (hK : 0 ≤ K ∧ K ≤ 7) (hk : k = 0 ∨ k = 1 ∨ k = 4 ∨ k = 5 ∨ k = 6) : semC e 6 [vr 42, vi 1, vi x, vi k, vi dep] (mk w I J) = some (some (vi (phV K b x)), mk w (trsX I (phT K)) J) := by
  obtain ⟨e, rfl⟩ : ∃ e', e = e' + 3 := ⟨e - 3, by omega⟩
  apply pf _ _ _ _ _ _ _ _ _ K b m _ _ (by omega) (by omega) (by omega) (by omega) hA
  have h2 := ow e w _ J 0 x (dep + 1) _ K b _ _ J (AX_tr (r := 10) hA) (sp e w _ J x (dep + 1) K b _ K (by omega) (by omega) (by omega) (AX_tr hA) hK)
  rw [e_7]
  unfold phV phT
  rcases hk with rfl | rfl | rfl | rfl | rfl
  all_goals (simp only [rn, upk, ↓reduceIte, Int.reduceEq, and_false, and_true, and_self, false_and, true_and, or_false, false_or, or_true, true_or, or_self, Int.reduceNeg, trsX_app]; simp (disch := omega) only [b_7_0, b_7_124, b_7_131, b_7_139, b_7_147, b_7_149, b_7_157, b_7_160, b_7_167, b_7_176, b_7_179, b_7_188, b_7_190, b_7_199, b_7_202, b_7_213, b_7_214, b_7_223, b_7_226, b_7_235, b_7_243, b_7_245, b_7_254, b_7_257, b_7_266, b_7_269, b_7_278, b_7_286, b_7_288, b_7_297, b_7_300, h2, semK, Option.bind_some, mpush, wr_if, wr_tdiv, if_pos, if_neg, ↓reduceIte, b2_t, b2_f, Bool.false_eq_true, up2_ne, up2_sne, up2_s, true_or, or_true, true_and, and_true, false_and, and_false, false_or, or_false]; rfl)
theorem h2 (e : Nat) (w : Nat × Bool) (I J : Nat → Nat → Int) (x dep K b m : Int) (he : 12 ≤ e) (hp : 0 ≤ dep ∧ dep ≤ 24) (hm : m ≤ 940) (hA : AX K b m I) (hK : 0 ≤ K ∧ K ≤ 7) : semC e 6 [vr 42, vi 1, vi x, vi 2, vi dep] (mk w I J) = some (some (vi (wr (-phV K b x))), mk w (trsX I ([30] ++ phT K)) J) := by
  obtain ⟨e, rfl⟩ : ∃ e', e = e' + 2 := ⟨e - 2, by omega⟩
  apply pf _ _ _ _ _ _ _ _ _ K b m _ _ (by omega) (by omega) (by omega) (by omega) hA
  have h1 := ph e w (trX I 30) J x (dep + 1) K b (m + 1) 0 (by omega) (by omega) (by omega) (AX_tr hA) hK (by omega)
  rw [e_7]
  simp only [rn, upk, ↓reduceIte, Int.reduceEq, and_false, and_true, and_self, false_and, true_and, or_false, false_or, or_true, true_or, or_self, Int.reduceNeg, trsX_app]
  simp (disch := omega) only [b_7_0, b_7_124, b_7_131, b_7_139, b_7_147, b_7_149, b_7_157, b_7_160, b_7_167, b_7_176, b_7_179, b_7_188, b_7_190, b_7_199, b_7_202, b_7_213, b_7_214, b_7_223, b_7_226, b_7_235, b_7_243, b_7_245, b_7_254, b_7_257, b_7_266, b_7_269, b_7_278, b_7_286, b_7_288, b_7_297, b_7_300, h1, semK, Option.bind_some, mpush, wr_if, wr_tdiv, if_pos, if_neg, ↓reduceIte, b2_t, b2_f, Bool.false_eq_true, up2_ne, up2_sne, up2_s, true_or, or_true, true_and, and_true, false_and, and_false, false_or, or_false]
  rfl
theorem he (e : Nat) (w : Nat × Bool) (I J : Nat → Nat → Int) (x dep K b m : Int) (he : 16 ≤ e) (hp : 0 ≤ dep ∧ dep ≤ 20) (hm : m ≤ 920) (hA : AX K b m I) (hK : 0 ≤ K ∧ K ≤ 7) : semC e 6 [vr 42, vi 1, vi x, vi K, vi dep] (mk w I J) = some (some (vi (heV K b x)), mk w (trsX I (heT K)) J) := by
  by_cases c0 : K = 0 ∨ K = 1 ∨ K = 4 ∨ K = 5 ∨ K = 6
  · have h0 := ph e w I J x dep K b m K (by omega) (by omega) (by omega) hA hK c0
    unfold heV heT
    rw [h0, if_neg (by omega), if_neg (by omega), if_neg (by omega), if_neg (by omega), if_neg (by omega), if_neg (by omega)]
  · by_cases c2 : K = 2
    · subst c2
      exact h2 e w I J x dep 2 b m (by omega) (by omega) (by omega) hA hK
    · obtain ⟨e, rfl⟩ : ∃ e', e = e' + 3 := ⟨e - 3, by omega⟩
      apply pf _ _ _ _ _ _ _ _ _ K b m _ _ (by omega) (by omega) (by omega) (by omega) hA
      have hk' : K = 3 ∨ K = 7 := by omega
      rw [e_7]
      unfold heV heT
      rcases hk' with rfl | rfl
      · have h1 := h2 (e + 1) w (trX I 41) J (wr (x + 1)) (dep + 1) 3 b (m + 1) (by omega) (by omega) (by omega) (AX_tr hA) hK
        simp only [rn, upk, ↓reduceIte, Int.reduceEq, and_false, and_true, and_self, false_and, true_and, or_false, false_or, or_true, true_or, or_self, Int.reduceNeg]
        simp (disch := omega) only [b_7_0, b_7_202, b_7_213, h1, semK, Option.bind_some, mpush, wr_if (a := dep + 1), ↓reduceIte, Int.reduceEq]
        rfl
      · have h1 := ph (e + 1) w (trX I 80) J x (dep + 1) 7 b (m + 1) 6 (by omega) (by omega) (by omega) (AX_tr hA) hK (by omega)
        have hL : (phT 7).length ≤ 10 := by decide
        have hA2 : AX 7 b (m + 11) (trsX (trX I 80) (phT 7)) := AX_trs (AX_tr hA) (by omega)
        have h3 := ow e w _ J 2 2 (dep + 1) _ 7 b _ _ J hA2 (mi e w _ J 2 (dep + 1) 7 b _ (by omega) (by omega) (by omega) hA2 hK)
        simp only [rn, upk, ↓reduceIte, Int.reduceEq, and_false, and_true, and_self, false_and, true_and, or_false, false_or, or_true, true_or, or_self, Int.reduceNeg, trsX_app]
        simp (disch := omega) only [b_7_0, b_7_124, b_7_131, b_7_139, b_7_147, b_7_149, b_7_157, b_7_160, b_7_167, b_7_176, b_7_179, b_7_188, b_7_190, b_7_199, b_7_202, b_7_213, b_7_214, b_7_223, b_7_226, b_7_235, b_7_243, b_7_245, b_7_254, b_7_257, b_7_266, b_7_269, b_7_278, b_7_286, b_7_288, b_7_297, b_7_300, h1, h3, semK, Option.bind_some, mpush, wr_if, wr_tdiv, if_pos, if_neg, ↓reduceIte, b2_t, b2_f, Bool.false_eq_true, up2_ne, up2_sne, up2_s, true_or, or_true, true_and, and_true, false_and, and_false, false_or, or_false]
        rfl
theorem pm (e : Nat) (w : Nat × Bool) (I J : Nat → Nat → Int) (x dep K b m : Int) (k : Int) (he' : 20 ≤ e) (hp : 0 ≤ dep ∧ dep ≤ 18) (hm : m ≤ 900) (hA : AX K b m I) (hK : 0 ≤ K ∧ K ≤ 7) (hk : k = 0 ∨ k = 1 ∨ k = 2 ∨ k = 3 ∨ k = 6 ∨ k = 7) : semC e 6 [vr 42, vi 3, vi x, vi k, vi dep] (mk w I J) = some (some (vi (pmV K b x)), mk w (trsX I (pmT K)) J) := by
  obtain ⟨e, rfl⟩ : ∃ e', e = e' + 3 := ⟨e - 3, by omega⟩
  apply pf _ _ _ _ _ _ _ _ _ K b m _ _ (by omega) (by omega) (by omega) (by omega) hA
  have g1 := ow e w _ J 1 x (dep + 1) _ K b _ _ J (AX_tr (r := 2) hA) (he e w _ J x (dep + 1) K b _ (by omega) (by omega) (by omega) (AX_tr hA) hK)
  have hL := heL K
  have hA2 : AX K b (m + 13) (trsX (trX I 2) (heT K)) := AX_trs (AX_tr hA) (by omega)
  have g2 := ow e w _ J 2 1 (dep + 1) _ K b _ _ J hA2 (mi e w _ J 1 (dep + 1) K b _ (by omega) (by omega) (by omega) hA2 hK)
  rw [e_7]
  unfold pmV pmT
  rcases hk with rfl | rfl | rfl | rfl | rfl | rfl
  all_goals (simp only [rn, upk, ↓reduceIte, Int.reduceEq, and_false, and_true, and_self, false_and, true_and, or_false, false_or, or_true, true_or, or_self, Int.reduceNeg, trsX_app]; simp (disch := omega) only [b_7_0, b_7_124, b_7_131, b_7_139, b_7_147, b_7_149, b_7_157, b_7_160, b_7_167, b_7_176, b_7_179, b_7_188, b_7_190, b_7_199, b_7_202, b_7_213, b_7_214, b_7_223, b_7_226, b_7_235, b_7_243, b_7_245, b_7_254, b_7_257, b_7_266, b_7_269, b_7_278, b_7_286, b_7_288, b_7_297, b_7_300, g1, g2, semK, Option.bind_some, mpush, wr_if, wr_tdiv, if_pos, if_neg, ↓reduceIte, b2_t, b2_f, Bool.false_eq_true, up2_ne, up2_sne, up2_s, true_or, or_true, true_and, and_true, false_and, and_false, false_or, or_false]; rfl)
theorem m4 (e : Nat) (w : Nat × Bool) (I J : Nat → Nat → Int) (x dep K b m : Int) (k : Int) (he' : 22 ≤ e) (hp : 0 ≤ dep ∧ dep ≤ 16) (hm : m ≤ 890) (hA : AX K b m I) (hK : 0 ≤ K ∧ K ≤ 7) : semC e 6 [vr 42, vi 3, vi x, vi 4, vi dep] (mk w I J) = some (some (vi (ixor (pmV K b x) 5)), mk w (trsX I ([50] ++ pmT K)) J) := by
  obtain ⟨e, rfl⟩ : ∃ e', e = e' + 2 := ⟨e - 2, by omega⟩
  apply pf _ _ _ _ _ _ _ _ _ K b m _ _ (by omega) (by omega) (by omega) (by omega) hA
  have h1 := pm e w (trX I 50) J x (dep + 1) K b (m + 1) 1 (by omega) (by omega) (by omega) (AX_tr hA) hK (by omega)
  rw [e_7]
  simp only [rn, upk, ↓reduceIte, Int.reduceEq, and_false, and_true, and_self, false_and, true_and, or_false, false_or, or_true, true_or, or_self, Int.reduceNeg, trsX_app]
  simp (disch := omega) only [b_7_0, b_7_124, b_7_131, b_7_139, b_7_147, b_7_149, b_7_157, b_7_160, b_7_167, b_7_176, b_7_179, b_7_188, b_7_190, b_7_199, b_7_202, b_7_213, b_7_214, b_7_223, b_7_226, b_7_235, b_7_243, b_7_245, b_7_254, b_7_257, b_7_266, b_7_269, b_7_278, b_7_286, b_7_288, b_7_297, b_7_300, h1, semK, Option.bind_some, mpush, wr_if, wr_tdiv, if_pos, if_neg, ↓reduceIte, b2_t, b2_f, Bool.false_eq_true, up2_ne, up2_sne, up2_s, true_or, or_true, true_and, and_true, false_and, and_false, false_or, or_false]
  rfl
theorem mo (e : Nat) (w : Nat × Bool) (I J : Nat → Nat → Int) (x dep K b m : Int) (he' : 24 ≤ e) (hp : 0 ≤ dep ∧ dep ≤ 10) (hm : m ≤ 880) (hA : AX K b m I) (hK : 0 ≤ K ∧ K ≤ 7) : semC e 6 [vr 42, vi 3, vi x, vi K, vi dep] (mk w I J) = some (some (vi (moV K b x)), mk w (trsX I (moT K)) J) := by
  by_cases c0 : K = 0 ∨ K = 1 ∨ K = 2 ∨ K = 3 ∨ K = 6 ∨ K = 7
  · have h0 := pm e w I J x dep K b m K (by omega) (by omega) (by omega) hA hK c0
    unfold moV moT
    rw [h0, if_neg (by omega), if_neg (by omega), if_neg (by omega), if_neg (by omega)]
  · by_cases c4 : K = 4
    · subst c4
      exact m4 e w I J x dep 4 b m 4 (by omega) (by omega) (by omega) hA hK
    · have c5 : K = 5 := by omega
      subst c5
      obtain ⟨e, rfl⟩ : ∃ e', e = e' + 2 := ⟨e - 2, by omega⟩
      apply pf _ _ _ _ _ _ _ _ _ 5 b m _ _ (by omega) (by omega) (by omega) (by omega) hA
      have h1 := m4 e w (trX I 61) J x (dep + 1) 5 b (m + 1) 4 (by omega) (by omega) (by omega) (AX_tr hA) hK
      rw [e_7]
      unfold moV moT
      simp only [rn, upk, ↓reduceIte, Int.reduceEq, and_false, and_true, and_self, false_and, true_and, or_false, false_or, or_true, true_or, or_self, Int.reduceNeg]
      simp (disch := omega) only [b_7_0, b_7_124, b_7_131, b_7_139, b_7_147, b_7_149, b_7_157, b_7_160, b_7_167, b_7_176, b_7_179, b_7_188, b_7_190, b_7_199, b_7_202, b_7_213, b_7_214, b_7_223, b_7_226, b_7_235, b_7_243, b_7_245, b_7_254, b_7_257, b_7_266, b_7_269, b_7_278, b_7_286, b_7_288, b_7_297, b_7_300, h1, semK, Option.bind_some, mpush, wr_if, wr_tdiv, if_pos, if_neg, ↓reduceIte, b2_t, b2_f, Bool.false_eq_true, up2_ne, up2_sne, up2_s, true_or, or_true, true_and, and_true, false_and, and_false, false_or, or_false]
      rfl
def acV (a k b x : Int) : Int := if a = 0 then spV k b x else if a = 1 then heV k b x else if a = 2 then miV k b x else moV k b x
def acT (a k : Int) : List Int := if a = 0 then spT k else if a = 1 then heT k else if a = 2 then miT k else moT k
theorem s_122 (d : Nat) (w : Nat × Bool) (I J : Nat → Nat → Int) (b a x : Int) (hd : 30 ≤ d) (h1 : I 1 = ownT) (h2 : I 2 = abv) (hn : 0 ≤ I 42 1 ∧ I 42 1 ≤ 50) (hk : ∀ k, 0 ≤ I 43 k ∧ I 43 k ≤ 7) : semC d 122 [vr 3, vi b, vi a, vi x] (mk w I J) =
    if (0 ≤ b ∧ b < I 42 1) ∧ 0 ≤ a ∧ a ≤ 3 then some (some (vi (acV a (I 43 b.toNat) b x)), mk w (trsX (up2 (up2 I 42 3 0) 42 4 b) (acT a (I 43 b.toNat))) J) else some (some (vi 0), mk w (up2 I 42 3 0) J) := by
  obtain ⟨e, rfl⟩ : ∃ e, d = e + 2 := ⟨d - 2, by omega⟩
  rw [e_122, b_122_0]
  have h4 : semC (e + 1) 4 [vr 42, vi b, vi a, vi x] (mk w I J) = if (0 ≤ b ∧ b < I 42 1) ∧ 0 ≤ a ∧ a ≤ 3 then some (some (vi (acV a (I 43 b.toNat) b x)), mk w (trsX (up2 (up2 I 42 3 0) 42 4 b) (acT a (I 43 b.toNat))) J) else some (some (vi 0), mk w (up2 I 42 3 0) J) := by
    rw [e_4]
    have hn' : up2 I 42 3 0 42 1 = I 42 1 := up2_sne _ _ _ (by omega)
    by_cases c1 : 0 ≤ b ∧ b < I 42 1
    · by_cases c2 : 0 ≤ a ∧ a ≤ 3
      · rw [if_pos ⟨c1, c2⟩]
        have hA : AX (I 43 b.toNat) b 0 (up2 (up2 I 42 3 0) 42 4 b) := by
          refine ⟨?_, ?_, ?_, up2_s _ _ _ _, by omega, ?_⟩
          · rw [up2_ne _ _ _ (by omega), up2_ne _ _ _ (by omega), h1]
          · rw [up2_ne _ _ _ (by omega), up2_ne _ _ _ (by omega), h2]
          · rw [up2_sne _ _ _ (by omega), up2_s]; omega
          · rw [up2_ne _ _ _ (by omega), up2_ne _ _ _ (by omega)]
        have q0 := sp e w _ J x 0 (I 43 b.toNat) b 0 (I 43 b.toNat) (by omega) (by omega) (by omega) hA (hk _)
        have q1 := he e w _ J x 0 (I 43 b.toNat) b 0 (by omega) (by omega) (by omega) hA (hk _)
        have q2 := mi e w _ J x 0 (I 43 b.toNat) b 0 (by omega) (by omega) (by omega) hA (hk _)
        have q3 := mo e w _ J x 0 (I 43 b.toNat) b 0 (by omega) (by omega) (by omega) hA (hk _)
        unfold acV acT
        rcases four c2 with rfl | rfl | rfl | rfl
        all_goals simp (disch := omega) only [b_4_0, b_4_10, b_4_13, b_4_19, b_4_22, b_4_24, b_4_42, s_1 _ _ _ _ _ _, s_133 _ _ _ _ _ _ _ _, hn', q0, q1, q2, q3, semK, Option.bind_some, mpush, wr_if, wr_tdiv, if_pos, if_neg, ↓reduceIte, b2_t, b2_f, Bool.false_eq_true, up2_ne, up2_sne, up2_s, true_or, or_true, true_and, and_true, false_and, and_false, false_or, or_false, Int.reduceEq]
      · rw [if_neg (by omega)]
        simp (disch := omega) only [b_4_0, b_4_10, b_4_13, b_4_19, b_4_22, b_4_24, b_4_42, s_1 _ _ _ _ _ _, s_133 _ _ _ _ _ _ _ _, hn', semK, Option.bind_some, mpush, wr_if, wr_tdiv, if_pos, if_neg, ↓reduceIte, b2_t, b2_f, Bool.false_eq_true, up2_ne, up2_sne, up2_s, true_or, or_true, true_and, and_true, false_and, and_false, false_or, or_false]
    · rw [if_neg (by omega)]
      simp (disch := omega) only [b_4_0, b_4_10, b_4_13, b_4_19, b_4_22, b_4_24, b_4_42, s_1 _ _ _ _ _ _, hn', semK, Option.bind_some, mpush, wr_if, wr_tdiv, if_pos, if_neg, ↓reduceIte, b2_t, b2_f, Bool.false_eq_true, up2_ne, up2_sne, up2_s, true_or, or_true, true_and, and_true, false_and, and_false, false_or, or_false]
  unfold semK
  rw [h4]
  split
  · simp only [Option.bind_some, mpush, b_122_10]
  · simp only [Option.bind_some, mpush, b_122_10]


