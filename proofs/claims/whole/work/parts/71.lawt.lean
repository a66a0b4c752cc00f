/-! the law taken: the class -/
theorem llay_a (row : Nat → Int) (L : cLn) : ∀ A n, llay row n (A ++ [L]) ↔ llay row n A ∧ lok row (n + tsz A) L
  | [], n => by
    show lok row n L ∧ True ↔ True ∧ lok row (n + 0) L
    rw [Nat.add_zero, and_true, true_and]
  | B :: A, n => by
    show lok row n B ∧ llay row (n + lsz B) (A ++ [L]) ↔ (lok row n B ∧ llay row (n + lsz B) A) ∧ lok row (n + (lsz B + tsz A)) L
    rw [llay_a row L A (n + lsz B), Nat.add_assoc, and_assoc]
theorem tsz_a (L : cLn) : ∀ A, tsz (A ++ [L]) = tsz A + lsz L
  | [] => by show lsz L + 0 = 0 + lsz L; omega
  | B :: A => by show lsz B + tsz (A ++ [L]) = lsz B + tsz A + lsz L; rw [tsz_a L A]; omega
theorem llay_x {row row' : Nat → Int} : ∀ A n, (∀ i, n ≤ i → i < n + tsz A → row' i = row i) → llay row n A → llay row' n A
  | [], _, _, _ => trivial
  | B :: A, n, h, hl => ⟨lok_x (fun i h1 h2 => h i h1 (by show i < n + (lsz B + tsz A); omega)) hl.1, llay_x A _ (fun i h1 h2 => h i (by omega) (by show i < n + (lsz B + tsz A); omega)) hl.2⟩
theorem s_39 (d : Nat) (w : Nat × Bool) (I J : Nat → Nat → Int) (tp : Nat → Int) (len : Nat) (hd : 101 ≤ d) (hT : TC0 I tp len) :
    ∃ o b', semC d 39 [vr 17] (mk w I J) = some (some (vi o), mk w b' J) ∧ (((lns tp 61 0).1 = true ∧ o = 1 ∧ CL w I len b' (lns tp 61 0).2.1 (tsz (lns tp 61 0).2.2) ∧ llay (b' (wdr w)) 0 (lns tp 61 0).2.2) ∨ ((lns tp 61 0).1 = false ∧ o = 0 ∧ ∃ n', CL w I len b' (lns tp 61 0).2.1 n')) := by
  obtain ⟨e, rfl⟩ : ∃ e, d = e + 1 := ⟨d - 1, by omega⟩
  have htk := hT.2.1
  have hlen := htk.1
  have hw := wdr_or w
  rw [e_39, b_39_0]
  have h0 : CL w I len (up2 (up2 I 17 2 0) 17 6 0) 0 0 := by
    refine ⟨fun c a1 a2 => by rw [up2_ne _ _ _ a1, up2_ne _ _ _ a1], fun k a1 a2 => by rw [up2_sne _ _ _ a2, up2_sne _ _ _ a1], ?_, ?_, by omega, by omega⟩
    · rw [up2_sne _ _ _ (by omega), up2_s]; rfl
    · rw [up2_s]; rfl
  refine lpQ (fun (i : Nat) (q : (Nat → Nat → Int) × Nat × List cLn) => Sem e 39 12 [some (vr 17), some (vi (i : Int))] [] (mk w q.1 J)) (fun i q => CL w I len q.1 q.2.1 (tsz q.2.2) ∧ tsz q.2.2 ≤ q.2.1 ∧ 2 * i ≤ q.2.1 ∧ llay (q.1 (wdr w)) 0 q.2.2 ∧ (lns tp 61 0).1 = (lns tp (61 - i) q.2.1).1 ∧ (lns tp 61 0).2.1 = (lns tp (61 - i) q.2.1).2.1 ∧ ((lns tp (61 - i) q.2.1).1 = true → (lns tp 61 0).2.2 = q.2.2 ++ (lns tp (61 - i) q.2.1).2.2))
    (fun out => ∃ o b', out = some (some (vi o), mk w b' J) ∧ (((lns tp 61 0).1 = true ∧ o = 1 ∧ CL w I len b' (lns tp 61 0).2.1 (tsz (lns tp 61 0).2.2) ∧ llay (b' (wdr w)) 0 (lns tp 61 0).2.2) ∨ ((lns tp 61 0).1 = false ∧ o = 0 ∧ ∃ n', CL w I len b' (lns tp 61 0).2.1 n'))) 61 ?_ ?_ (up2 (up2 I 17 2 0) 17 6 0, 0, []) ⟨h0, Nat.le_refl _, Nat.le_refl _, trivial, rfl, rfl, fun _ => rfl⟩
  · rintro i ⟨b, p, A⟩ hi ⟨p1, p2, p3, p4, p5, p6, p7⟩
    try dsimp only at p1 p2 p3 p4 p5 p6 p7 ⊢
    have hplen : p ≤ len := p1.2.2.2.2.2
    obtain ⟨o, b1, k1, n', m1, m2, m3, m4⟩ := s_40 e w I J b tp len p (tsz A) (by omega) hT p1 p2
    have hlR := ln_R htk hplen
    have h37 := s_37 e w I J b1 tp len _ n' (by omega) hT m1
    have hls : lns tp (61 - i) p = lns tp ((60 - i) + 1) p := by rw [show 61 - i = 60 - i + 1 by omega]
    rw [hls, lns_s tp (60 - i) p] at p5 p6 p7
    rw [b_39_12, if_pos (by omega), b_39_18, semK_of k1]
    simp only [mpush]
    rw [b_39_22]
    rcases m4 with ⟨q1, q2, q3, q4⟩ | ⟨q1, q2⟩
    · rw [if_pos q1] at p5 p6 p7
      obtain ⟨hl1, hl2, hl3⟩ := hlR.2.2 q1
      have hlay : llay (b1 (wdr w)) 0 (A ++ [(ln tp p).2.2]) := by
        rw [llay_a]
        refine ⟨llay_x A 0 (fun i _ h2 => m2 i (by omega)) p4, ?_⟩
        rw [Nat.zero_add]; exact q4
      have htz : tsz (A ++ [(ln tp p).2.2]) = n' := by rw [tsz_a, q3]
      rw [if_neg (by omega), b_39_27, semK_of h37]
      simp only [mpush]
      rw [b_39_31]
      by_cases ce : tp (ln tp p).2.1 = -1
      · rw [if_neg (by omega), if_pos ce] at p5 p6 p7
        right
        rw [if_pos ce, b_39_35]
        have hL := p7 rfl
        refine ⟨1, b1, rfl, Or.inl ⟨p5, rfl, ?_, ?_⟩⟩
        · rw [p6, hL]
          show CL w I len b1 (ln tp p).2.1 (tsz (A ++ [(ln tp p).2.2]))
          rw [htz]; exact m1
        · rw [hL]; exact hlay
      · rw [if_neg ce, b_39_37, semK_of h37]
        simp only [mpush]
        rw [b_39_41]
        by_cases c59 : tp (ln tp p).2.1 = 59
        · rw [if_pos c59] at p5 p6 p7
          left
          have hin : (ln tp p).2.1 < len := by
            by_cases q : (ln tp p).2.1 < len
            · exact q
            · exact absurd (htk.2.2 _ (by omega)) ce
          obtain ⟨z1, z2⟩ := CL_n m1 hin hlen
          rw [if_pos c59, b_39_48, wr_n1 (by omega)]
          refine ⟨(_, (ln tp p).2.1 + 1, A ++ [(ln tp p).2.2]), rfl, ?_, ?_, ?_, ?_, ?_, ?_, ?_⟩
          · show CL w I len _ ((ln tp p).2.1 + 1) (tsz (A ++ [(ln tp p).2.2]))
            rw [htz]; exact z1
          · show tsz (A ++ [(ln tp p).2.2]) ≤ (ln tp p).2.1 + 1
            rw [htz]; omega
          · show 2 * (i + 1) ≤ (ln tp p).2.1 + 1
            omega
          · show llay (up2 b1 17 2 (wr (b1 17 2 + 1)) (wdr w)) 0 _
            rw [z2]; exact hlay
          · rw [p5, show 61 - (i + 1) = 60 - i by omega]
          · rw [p6, show 61 - (i + 1) = 60 - i by omega]
          · rw [show 61 - (i + 1) = 60 - i by omega]
            intro h
            rw [p7 h, List.append_assoc]
            rfl
        · rw [if_neg c59, if_neg ce] at p5 p6
          right
          rw [if_neg c59, b_39_46]
          exact ⟨0, b1, rfl, Or.inr ⟨p5, rfl, n', by rw [p6]; exact m1⟩⟩
    · have hno : ¬ (ln tp p).1 = true := by rw [q1]; simp
      rw [if_neg hno] at p5 p6
      right
      rcases q2 with q2 | ⟨q2, q5⟩
      · rw [if_pos q2, b_39_25]
        exact ⟨0, b1, rfl, Or.inr ⟨p5, rfl, n', by rw [p6]; exact m1⟩⟩
      · have hdg := q5
        unfold dig at hdg
        have hdg := of_decide_eq_true hdg
        rw [if_neg (by omega), b_39_27, semK_of h37]
        simp only [mpush]
        rw [b_39_31, if_neg (by omega), b_39_37, semK_of h37]
        simp only [mpush]
        rw [b_39_41, if_neg (by omega), b_39_46]
        exact ⟨0, b1, rfl, Or.inr ⟨p5, rfl, n', by rw [p6]; exact m1⟩⟩
  · rintro ⟨b, p, A⟩ ⟨p1, p2, p3, p4, p5, p6, p7⟩
    try dsimp only at p1 p3
    have hplen : p ≤ len := p1.2.2.2.2.2
    omega
def wsw (w : Nat × Bool) : Nat × Bool := (w.1, !w.2)
theorem wst_sw (w : Nat × Bool) : wst (wsw w) = wdr w := by
  obtain ⟨L, b⟩ := w
  cases b <;> rfl
theorem wdr_sw (w : Nat × Bool) : wdr (wsw w) = wst w := by
  obtain ⟨L, b⟩ := w
  cases b <;> rfl
theorem sw_mk (w : Nat × Bool) (I J : Nat → Nat → Int) : sR (sR (mk w I J) 17 3 (wdr w)) 17 4 (wst w) = mk (wsw w) I J := by
  have h : up2 (up2 (R0q w) 17 3 (some (wdr w))) 17 4 (some (wst w)) = R0q (wsw w) := by
    funext c k
    unfold up2 R0q
    rw [wst_sw, wdr_sw]
    by_cases c1 : c = 17 ∧ k = 4
    · rw [if_pos c1, if_neg (by omega), if_pos c1]
    · rw [if_neg c1]
      by_cases c2 : c = 17 ∧ k = 3
      · rw [if_pos c2, if_pos c2]
      · rw [if_neg c2, if_neg c2, if_neg c2, if_neg c1, if_neg c1]
  unfold sR mk
  show ((96, 7812, T0q w.1, up2 (up2 (R0q w) 17 3 (some (wdr w))) 17 4 (some (wst w))), I, J) = _
  rw [h]
  rfl
theorem s_103 (d : Nat) (w : Nat × Bool) (I J : Nat → Nat → Int) (tp : Nat → Int) (len : Nat) (hd : 103 ≤ d) (hT : TC0 I tp len) (h9 : 0 ≤ I 17 9 ∧ I 17 9 ≤ 1000000) :
    ∃ b', (∀ c, c ≠ 17 → c ≠ wdr w → b' c = I c) ∧ b' 17 1 = 0 ∧ (((lns tp 61 0).1 = true ∧ semC d 103 [vr 3] (mk w I J) = some (some (vi 1), mk (wsw w) b' J) ∧ b' 17 9 = I 17 9 + 1 ∧ b' 17 5 = (tsz (lns tp 61 0).2.2 : Nat) ∧ tsz (lns tp 61 0).2.2 ≤ 121 ∧ llay (b' (wdr w)) 0 (lns tp 61 0).2.2) ∨ ((lns tp 61 0).1 = false ∧ semC d 103 [vr 3] (mk w I J) = some (some (vi (-100 - ((lns tp 61 0).2.1 : Int))), mk w b' J) ∧ b' 17 9 = I 17 9 ∧ b' 17 5 = I 17 5)) := by
  obtain ⟨e, rfl⟩ : ∃ e, d = e + 2 := ⟨d - 2, by omega⟩
  have hw := wdr_or w
  have hlen := hT.2.1.1
  obtain ⟨o, b, k1, k2⟩ := s_39 e w I J tp len (by omega) hT
  rcases k2 with ⟨q1, q2, q3, q4⟩ | ⟨q1, q2, n', q3⟩
  · refine ⟨up2 (up2 (up2 b 17 1 0) 17 5 (up2 b 17 1 0 17 6)) 17 9 (wr (up2 b 17 1 0 17 9 + 1)), ?_, ?_, Or.inl ⟨q1, ?_, ?_, ?_, q3.2.2.2.2.1, ?_⟩⟩
    · intro c a1 a2
      rw [up2_ne _ _ _ a1, up2_ne _ _ _ a1, up2_ne _ _ _ a1, q3.1 c a1 a2]
    · rw [up2_sne _ _ _ (by omega), up2_sne _ _ _ (by omega), up2_s]
    · have h36 : semC (e + 1) 36 [vr 17] (mk w I J) = some (some (vi 1), mk (wsw w) (up2 (up2 (up2 b 17 1 0) 17 5 (up2 b 17 1 0 17 6)) 17 9 (wr (up2 b 17 1 0 17 9 + 1))) J) := by
        rw [e_36, b_36_0, semK_of k1]
        simp only [mpush]
        rw [b_36_4, if_neg (by omega), b_36_22, sw_mk]
      rw [e_103, b_103_0, semK_of h36]
      simp only [mpush]
      rw [b_103_7]
    · rw [up2_s, up2_sne _ _ _ (by omega), q3.2.1 9 (by omega) (by omega), wr_if (by omega)]
    · rw [up2_sne _ _ _ (by omega), up2_s, up2_sne _ _ _ (by omega), q3.2.2.2.1]
    · rw [up2_ne _ _ _ (by omega), up2_ne _ _ _ (by omega), up2_ne _ _ _ (by omega)]
      exact q4
  · refine ⟨up2 b 17 1 0, ?_, up2_s _ _ _ _, Or.inr ⟨q1, ?_, ?_, ?_⟩⟩
    · intro c a1 a2
      rw [up2_ne _ _ _ a1, q3.1 c a1 a2]
    · have hp := q3.2.2.2.2.2
      have h36 : semC (e + 1) 36 [vr 17] (mk w I J) = some (some (vi (-100 - ((lns tp 61 0).2.1 : Int))), mk w (up2 b 17 1 0) J) := by
        rw [e_36, b_36_0, semK_of k1]
        simp only [mpush]
        rw [b_36_4, if_pos q2, b_36_14, up2_sne _ _ _ (by omega), q3.2.2.1, wr_if (by omega)]
      rw [e_103, b_103_0, semK_of h36]
      simp only [mpush]
      rw [b_103_7]
    · rw [up2_sne _ _ _ (by omega), q3.2.1 9 (by omega) (by omega)]
    · rw [up2_sne _ _ _ (by omega), q3.2.1 5 (by omega) (by omega)]
