/-! room, desk, screen, higher of both -/
theorem up2_r (I : Nat → Nat → Int) (c k : Nat) (v : Int) : up2 I c k v c = rs (I c) k v := by rw [up2_row, if_pos rfl]
theorem pos_rs {f : Nat → Int} (h : pos f) (n : Nat) {v : Int} (hv : 0 ≤ v ∧ v < 100) : pos (rs f n v) := by
  intro k
  rw [rs_at]
  split
  · exact hv
  · exact h k
theorem nine_rs {f : Nat → Int} (h : ∀ k, 0 ≤ f k ∧ f k ≤ 9) (n : Nat) {v : Int} (hv : 0 ≤ v ∧ v ≤ 9) : ∀ k, 0 ≤ rs f n v k ∧ rs f n v k ≤ 9 := by
  intro k
  rw [rs_at]
  split
  · exact hv
  · exact h k
theorem free_R {wd dp nd ns : Int} {dx dy sx sy : Nat → Int} {x y : Int} (h : free wd dp nd ns dx dy sx sy x y = true) : (0 ≤ x ∧ x < wd) ∧ 0 ≤ y ∧ y < dp := by
  unfold free at h
  simp only [Bool.and_eq_true, decide_eq_true_eq] at h
  exact ⟨h.1.1.1, h.1.1.2⟩
theorem Inv_rX {L : Nat} {B : Nat → Int} {t : Nat} {w : Nat × Bool} {I J : Nat → Nat → Int} (h : Inv L B t w I J) (ht : t ≤ 1000) : rFX I ∧ GC I := by
  obtain ⟨_, ⟨g1, g2, g3, g4, g5, g6, g7, g8, g9, _⟩, _, _, _, _, _, _, ⟨f, ⟨hg, _⟩, _, b1, b2, b3⟩⟩ := h
  have h9 := hg.2.2.2.2.2.2.1
  exact ⟨⟨g1, g2, g3, g4, h9⟩, hg⟩
theorem q_93 (L : Nat) (B : Nat → Int) (t d : Nat) (w : Nat × Bool) (I J : Nat → Nat → Int) (x : Int) (hx : iR x) (hd : 1000 ≤ d) (ht : t ≤ 1000) (h : Inv L B t w I J) : StpI L B t w I J d 93 140 [vi x] := by
  obtain ⟨f, hK, hM, _⟩ := h.2.2.2.2.2.2.2.2
  obtain ⟨⟨h0, h0'⟩, hF, hS, hN, hT, hC, hA, hH, hL⟩ := id h
  obtain ⟨g1, g2, g3, g4, g5, g6, g7, g8, g9, f1, f2, f3, f4, f5, f6, f7, f8, f9⟩ := id hF
  have k1 := s_93 d w I J x (by omega) hx g1 g2
  by_cases c : (4 ≤ x.tdiv 100 ∧ x.tdiv 100 ≤ 20) ∧ 4 ≤ x.tmod 100 ∧ x.tmod 100 ≤ 20
  · have hx0 : 0 ≤ x := by
      by_cases q : 0 ≤ x
      · exact q
      · have := tdiv_neg (x := x) (c := 100) (by omega) (by omega); omega
    rw [if_pos c] at k1
    by_cases c2 : 0 < I 4 4 ∨ 0 < I 4 8
    · rw [if_pos c2] at k1
      have m1 := s_140 d w I J x (by omega) hx (by rw [f1]; exact g1) (by rw [f2]; exact g2) (by rw [f3]; exact g3) (by rw [f4]; exact g4)
      rw [if_pos ⟨hx0, c⟩, if_pos (by rw [f3, f4]; omega)] at m1
      exact Stp_id h k1 m1
    · rw [if_neg c2] at k1
      have m1 := s_140 d w (up2 (up2 I 4 0 (x.tdiv 100)) 4 1 (x.tmod 100)) J x (by omega) hx (by simp (disch := omega) only [up2_ne, up2_r, rs_same, rs_ne, and_self]; rw [f1]; exact g1) (by simp (disch := omega) only [up2_ne, up2_r, rs_same, rs_ne, and_self]; rw [f2]; exact g2) (by simp (disch := omega) only [up2_ne, up2_r, rs_same, rs_ne, and_self]; rw [f3]; exact g3) (by simp (disch := omega) only [up2_ne, up2_r, rs_same, rs_ne, and_self]; rw [f4]; exact g4)
      rw [if_pos ⟨hx0, c⟩, if_neg (by simp (disch := omega) only [up2_ne, up2_r, rs_same, rs_ne, and_self]; rw [f3, f4]; omega)] at m1
      have e1 : 100 * up2 (up2 I 4 0 (x.tdiv 100)) 4 1 (x.tmod 100) 58 1 + up2 (up2 I 4 0 (x.tdiv 100)) 4 1 (x.tmod 100) 58 2 = 100 * I 4 0 + I 4 1 := by simp (disch := omega) only [up2_ne, up2_r, rs_same, rs_ne, and_self]; rw [f1, f2]
      rw [e1] at m1
      refine ⟨_, _, _, _, _, _, _, k1, ⟨h0, by simp (disch := omega) only [up2_ne, up2_r, rs_same, rs_ne, and_self]; exact h0'⟩, m1, ⟨h0, by simp (disch := omega) only [up2_ne, up2_r, rs_same, rs_ne, and_self]; exact h0'⟩, ?_, ST_x hS (by unfold STe; simp (disch := omega) only [up2_ne, up2_r, rs_same, rs_ne, and_self]), SN_x hN (by unfold SNe; simp (disch := omega) only [up2_ne, up2_r, rs_same, rs_ne, and_self]), TP_x hT (by unfold TPe; simp (disch := omega) only [up2_ne, up2_r, rs_same, rs_ne, and_self]), CH_x hC (by unfold CHe; simp (disch := omega) only [up2_ne, up2_r, rs_same, rs_ne, and_self]), AT_x hA (by unfold ATe; simp (disch := omega) only [up2_ne, up2_r, rs_same, rs_ne, and_self]), SH_x hH (by unfold SHe; simp (disch := omega) only [up2_ne, up2_r, rs_same, rs_ne, and_self]), LW_x hL (by unfold LWe; simp (disch := omega) only [up2_ne, up2_r, rs_same, rs_ne, and_self])⟩
      unfold FL
      simp (disch := omega) only [up2_ne, up2_r, rs_same, rs_ne, and_self]
      exact ⟨by omega, by omega, g3, g4, g5, g6, g7, g8, g9, trivial, trivial, f3, f4, f5, f6, f7, f8, f9⟩
  · rw [if_neg c] at k1
    have m1 := s_140 d w I J x (by omega) hx (by rw [f1]; exact g1) (by rw [f2]; exact g2) (by rw [f3]; exact g3) (by rw [f4]; exact g4)
    rw [if_neg (fun q => c q.2)] at m1
    exact Stp_id h k1 m1
theorem q_109 (L : Nat) (B : Nat → Int) (t d : Nat) (w : Nat × Bool) (I J : Nat → Nat → Int) (x : Int) (hd : 1000 ≤ d) (ht : t ≤ 1000) (h : Inv L B t w I J) : StpI L B t w I J d 109 192 [vi x] := by
  obtain ⟨⟨h0, h0'⟩, hF, hS, hN, hT, hC, hA, hH, ⟨f, hK, hM, b1, b2, b3⟩⟩ := id h
  have g9 := hF.2.2.2.2.2.2.2.2.1
  obtain ⟨I1, k1, k2, k3⟩ := s_109 d w I J f x (by omega) hK (Inv_SC h) (Inv_se h) g9 (by omega)
  obtain ⟨p1, p2, p3, p4⟩ := k2
  obtain ⟨hKM, hSM⟩ := cp_KM (I1 := I1) h hM (fun c a1 a2 => p1 c (by omega) (by omega) (by omega) (by omega))
  obtain ⟨c1, c2, c3, c4, c5, c6, c7, c8, c9, c10, c11, c12, c13, c14, c15, c16, c17, c18, c19, c20⟩ := Inv_cp (I1 := I1) f h (fun c a1 a2 => p1 c (by omega) (by omega) (by omega) (by omega))
  obtain ⟨I2, m1, m2⟩ := s_192 d w I1 J f x (by omega) hKM hSM (by rw [c14]; exact g9)
  have hq := eQ_M m2
  have hN1 : Nm f I1 = Nc f I := by
    funext s
    unfold Nm Nc
    rw [c1, c2, c3, c4, c7, c9, c10, c11, c12, c13, c14, c15, c16]
  rw [hN1, c1, c18, c15, c4, c3, c2, c7, c9] at m1
  have r1 : ∀ c, c ≠ 4 → c ≠ 21 → c ≠ 22 → c ≠ 24 → (c < 80 ∨ 89 < c) → I2 c = I c := fun c a1 a2 a3 a4 a5 => (hq c a5).trans (p1 c a1 a2 a3 a4)
  have r4 : ∀ k, k ≠ 9 → I2 4 k = I 4 k := fun k hk => by rw [hq 4 (by omega)]; exact p2 k hk
  refine ⟨_, _, _, _, _, _, _, k1, ⟨h0, by rw [p1 0 (by omega) (by omega) (by omega) (by omega)]; exact h0'⟩, m1, ⟨h0, by rw [r1 0 (by omega) (by omega) (by omega) (by omega) (by omega)]; exact h0'⟩, FL_x hF ?_, ST_x hS ?_, SN_x hN ?_, TP_x hT ?_, CH_x hC ?_, AT_x hA ?_, SH_x hH ?_, ⟨f, KC_q k3 hq, lawM_x hM (by rw [r1 58 (by omega) (by omega) (by omega) (by omega) (by omega)]) (agM_e (fun c a1 a2 => r1 c (by omega) (by omega) (by omega) (by omega) (by omega))), ?_, ?_, ?_⟩⟩
  · unfold FLe; simp (disch := omega) only [r1, r4, and_self]
  · unfold STe; simp (disch := omega) only [r1, and_self]
  · unfold SNe; simp (disch := omega) only [r1, and_self]
  · unfold TPe; simp (disch := omega) only [r1, and_self]
  · unfold CHe; simp (disch := omega) only [r1, and_self]
  · unfold ATe; simp (disch := omega) only [r1, and_self]
  · unfold SHe; simp (disch := omega) only [r1, and_self]
  · rw [hq 4 (by omega)]; omega
  · rw [r1 17 (by omega) (by omega) (by omega) (by omega) (by omega)]; omega
  · rw [r1 23 (by omega) (by omega) (by omega) (by omega) (by omega)]; omega
/-- a desk more of both -/
theorem Inv_aD {L : Nat} {B : Nat → Int} {t t' : Nat} {w : Nat × Bool} {I J : Nat → Nat → Int} {x y : Int} (h : Inv L B t w I J) (ht : t ≤ 1000) (hx : 0 ≤ x ∧ x < 100) (hy : 0 ≤ y ∧ y < 100) (hn : I 4 4 ≠ 10) : (w.1 = L ∧ aDM (aDX I x y) x y 0 = B) ∧ FL (aDM (aDX I x y) x y) ∧ ST (aDM (aDX I x y) x y) ∧ SN (aDM (aDX I x y) x y) ∧ TP (aDM (aDX I x y) x y) ∧ CH (aDM (aDX I x y) x y) ∧ AT (aDM (aDX I x y) x y) ∧ SHV (aDM (aDX I x y) x y) J ∧ LW (t + 1) w (aDM (aDX I x y) x y) := by
  obtain ⟨⟨h0, h0'⟩, hF, hS, hN, hT, hC, hA, hH, hL⟩ := id h
  obtain ⟨g1, g2, g3, g4, g5, g6, g7, g8, g9, f1, f2, f3, f4, f5, f6, f7, f8, f9⟩ := id hF
  obtain ⟨hr, hg⟩ := Inv_rX h ht
  obtain ⟨_, _, _, b1, b2, b3⟩ := id hL
  have h9 := hr.2.2.2.2
  unfold aDM aDX
  refine ⟨⟨h0, by simp (disch := omega) only [up2_ne, up2_r, rs_same, rs_ne, and_self]; exact h0'⟩, ?_, ST_x hS (by unfold STe; simp (disch := omega) only [up2_ne, up2_r, rs_same, rs_ne, and_self]), SN_x hN (by unfold SNe; simp (disch := omega) only [up2_ne, up2_r, rs_same, rs_ne, and_self]), TP_x hT (by unfold TPe; simp (disch := omega) only [up2_ne, up2_r, rs_same, rs_ne, and_self]), CH_x hC (by unfold CHe; simp (disch := omega) only [up2_ne, up2_r, rs_same, rs_ne, and_self]), AT_x hA (by unfold ATe; simp (disch := omega) only [up2_ne, up2_r, rs_same, rs_ne, and_self]), SH_x hH (by unfold SHe; simp (disch := omega) only [up2_ne, up2_r, rs_same, rs_ne, and_self]), LW_b hL ?_ (by simp (disch := omega) only [up2_ne, up2_r, rs_same, rs_ne, and_self]) (by simp (disch := omega) only [up2_ne, up2_r, rs_same, rs_ne, and_self]) (by simp (disch := omega) only [up2_ne, up2_r, rs_same, rs_ne, and_self]) (by simp (disch := omega) only [up2_ne, up2_r, rs_same, rs_ne, and_self]) ?_ (by simp (disch := omega) only [up2_ne, up2_r, rs_same, rs_ne, and_self]) (by simp (disch := omega) only [up2_ne, up2_r, rs_same, rs_ne, and_self]) (by simp (disch := omega) only [up2_ne, up2_r, rs_same, rs_ne, and_self]) (by simp (disch := omega) only [up2_ne, up2_r, rs_same, rs_ne, and_self]) (by simp (disch := omega) only [up2_ne, up2_r, rs_same, rs_ne, and_self]) (by simp (disch := omega) only [up2_ne, up2_r, rs_same, rs_ne, and_self]) (by simp (disch := omega) only [up2_ne, up2_r, rs_same, rs_ne, and_self]; omega) (by simp (disch := omega) only [up2_ne, up2_r, rs_same, rs_ne, and_self]; omega) (by simp (disch := omega) only [up2_ne, up2_r, rs_same, rs_ne, and_self]; omega)⟩
  · unfold FL
    simp (disch := omega) only [up2_ne, up2_r, rs_same, rs_ne, and_self]
    rw [f3, f5, f6]
    exact ⟨g1, g2, by omega, g4, pos_rs g5 _ hx, pos_rs g6 _ hy, g7, g8, g9, f1, f2, rfl, f4, rfl, rfl, f7, f8, f9⟩
  · unfold GC at hg ⊢
    simp (disch := omega) only [up2_ne, up2_r, rs_same, rs_ne, and_self]
    exact ⟨by omega, hg.2.1, pos_rs g5 _ hx, pos_rs g6 _ hy, hg.2.2.2.2.1, hg.2.2.2.2.2.1, by omega, hg.2.2.2.2.2.2.2.1, hg.2.2.2.2.2.2.2.2⟩
  · unfold st
    simp (disch := omega) only [up2_ne, up2_r, rs_same, rs_ne, and_self]
    omega
theorem q_94 (L : Nat) (B : Nat → Int) (t d : Nat) (w : Nat × Bool) (I J : Nat → Nat → Int) (x : Int) (hx : iR x) (hd : 1000 ≤ d) (ht : t ≤ 1000) (h : Inv L B t w I J) : StpI L B t w I J d 94 143 [vi x] := by
  obtain ⟨f, hK, hM, _⟩ := h.2.2.2.2.2.2.2.2
  obtain ⟨⟨h0, h0'⟩, hF, hS, hN, hT, hC, hA, hH, hL⟩ := id h
  obtain ⟨g1, g2, g3, g4, g5, g6, g7, g8, g9, f1, f2, f3, f4, f5, f6, f7, f8, f9⟩ := id hF
  obtain ⟨hr, hg⟩ := Inv_rX h ht
  have k1 := s_94 d w I J x (by omega) hx hr
  have hfr : ∀ I1 : Nat → Nat → Int, (∀ c, 58 ≤ c → c < 70 → I1 c = I c) → rFM I1 ∧ (∀ u v, frM I1 u v = frX I u v) ∧ I1 58 3 = I 4 4 := by
    intro I1 he
    obtain ⟨c1, c2, c3, c4, c5, c6, c7, c8, c9, c10, c11, c12, c13, c14, c15, c16, c17, c18, c19, c20⟩ := Inv_cp (I1 := I1) f h he
    refine ⟨?_, fun u v => ?_, c8⟩
    · unfold rFM; rw [c19, c20, c8, c9]; exact ⟨g1, g2, g3, g4⟩
    · unfold frM frX; rw [c19, c20, c8, c9, c10, c11, c12, c13]
  by_cases c : 0 ≤ x ∧ frX I (x.tdiv 100) (x.tmod 100) = true
  · rw [if_pos c] at k1
    by_cases c2 : I 4 4 = 10
    · obtain ⟨q1, q2, q3⟩ := hfr I (fun _ _ _ => rfl)
      have m1 := s_143 d w I J x (by omega) hx q1
      rw [q2, if_pos c, q3, if_pos c2] at m1
      rw [if_pos c2] at k1
      exact Stp_id h k1 m1
    · obtain ⟨q1, q2, q3⟩ := hfr (aDX I (x.tdiv 100) (x.tmod 100)) (fun c a1 a2 => aDX_s (by omega) (by omega) (by omega))
      have m1 := s_143 d w _ J x (by omega) hx q1
      rw [q2, if_pos c, q3, if_neg c2] at m1
      rw [if_neg c2] at k1
      have hR := free_R c.2
      exact ⟨_, _, _, _, _, _, _, k1, ⟨h0, by rw [aDX_s (by omega) (by omega) (by omega)]; exact h0'⟩, m1, Inv_aD (t' := t) h ht (by omega) (by omega) c2⟩
  · obtain ⟨q1, q2, q3⟩ := hfr I (fun _ _ _ => rfl)
    have m1 := s_143 d w I J x (by omega) hx q1
    rw [q2, if_neg c] at m1
    rw [if_neg c] at k1
    exact Stp_id h k1 m1
theorem q_96 (L : Nat) (B : Nat → Int) (t d : Nat) (w : Nat × Bool) (I J : Nat → Nat → Int) (x z : Int) (hx : iR x) (hd : 1000 ≤ d) (ht : t ≤ 1000) (h : Inv L B t w I J) : StpI L B t w I J d 96 145 [vi x, vi z] := by
  obtain ⟨f, hK, hM, _⟩ := h.2.2.2.2.2.2.2.2
  obtain ⟨⟨h0, h0'⟩, hF, hS, hN, hT, hC, hA, hH, hL⟩ := id h
  obtain ⟨g1, g2, g3, g4, g5, g6, g7, g8, g9, f1, f2, f3, f4, f5, f6, f7, f8, f9⟩ := id hF
  obtain ⟨hr, hg⟩ := Inv_rX h ht
  obtain ⟨_, _, _, b1, b2, b3⟩ := id hL
  have h9 := hr.2.2.2.2
  have k1 := s_96 d w I J x z (by omega) hx hr
  have hfr : ∀ I1 : Nat → Nat → Int, (∀ c, 58 ≤ c → c < 70 → I1 c = I c) → rFM I1 ∧ (∀ u v, frM I1 u v = frX I u v) ∧ I1 58 6 = I 4 8 := by
    intro I1 he
    obtain ⟨c1, c2, c3, c4, c5, c6, c7, c8, c9, c10, c11, c12, c13, c14, c15, c16, c17, c18, c19, c20⟩ := Inv_cp (I1 := I1) f h he
    refine ⟨?_, fun u v => ?_, c9⟩
    · unfold rFM; rw [c19, c20, c8, c9]; exact ⟨g1, g2, g3, g4⟩
    · unfold frM frX; rw [c19, c20, c8, c9, c10, c11, c12, c13]
  by_cases c : 0 ≤ x ∧ frX I (x.tdiv 100) (x.tmod 100) = true ∧ 1 ≤ z ∧ z ≤ 9
  · rw [if_pos c] at k1
    by_cases c2 : I 4 8 = 10
    · obtain ⟨q1, q2, q3⟩ := hfr I (fun _ _ _ => rfl)
      have m1 := s_145 d w I J x z (by omega) hx q1
      rw [q2, if_pos c, q3, if_pos c2] at m1
      rw [if_pos c2] at k1
      exact Stp_id h k1 m1
    · obtain ⟨q1, q2, q3⟩ := hfr (sSX I (x.tdiv 100) (x.tmod 100) z) (fun c a1 a2 => by unfold sSX; simp (disch := omega) only [up2_ne, up2_r, rs_same, rs_ne, and_self])
      have m1 := s_145 d w _ J x z (by omega) hx q1
      rw [q2, if_pos c, q3, if_neg c2] at m1
      rw [if_neg c2] at k1
      have hR := free_R c.2.1
      refine ⟨_, _, _, _, _, _, _, k1, ⟨h0, by unfold sSX; simp (disch := omega) only [up2_ne, up2_r, rs_same, rs_ne, and_self]; exact h0'⟩, m1, ?_⟩
      unfold sSM sSX
      refine ⟨⟨h0, by simp (disch := omega) only [up2_ne, up2_r, rs_same, rs_ne, and_self]; exact h0'⟩, ?_, ST_x hS (by unfold STe; simp (disch := omega) only [up2_ne, up2_r, rs_same, rs_ne, and_self]), SN_x hN (by unfold SNe; simp (disch := omega) only [up2_ne, up2_r, rs_same, rs_ne, and_self]), TP_x hT (by unfold TPe; simp (disch := omega) only [up2_ne, up2_r, rs_same, rs_ne, and_self]), CH_x hC (by unfold CHe; simp (disch := omega) only [up2_ne, up2_r, rs_same, rs_ne, and_self]), AT_x hA (by unfold ATe; simp (disch := omega) only [up2_ne, up2_r, rs_same, rs_ne, and_self]), SH_x hH (by unfold SHe; simp (disch := omega) only [up2_ne, up2_r, rs_same, rs_ne, and_self]), LW_b hL ?_ (by simp (disch := omega) only [up2_ne, up2_r, rs_same, rs_ne, and_self]) (by simp (disch := omega) only [up2_ne, up2_r, rs_same, rs_ne, and_self]) (by simp (disch := omega) only [up2_ne, up2_r, rs_same, rs_ne, and_self]) (by simp (disch := omega) only [up2_ne, up2_r, rs_same, rs_ne, and_self]) ?_ (by simp (disch := omega) only [up2_ne, up2_r, rs_same, rs_ne, and_self]) (by simp (disch := omega) only [up2_ne, up2_r, rs_same, rs_ne, and_self]) (by simp (disch := omega) only [up2_ne, up2_r, rs_same, rs_ne, and_self]) (by simp (disch := omega) only [up2_ne, up2_r, rs_same, rs_ne, and_self]) (by simp (disch := omega) only [up2_ne, up2_r, rs_same, rs_ne, and_self]) (by simp (disch := omega) only [up2_ne, up2_r, rs_same, rs_ne, and_self]) (by simp (disch := omega) only [up2_ne, up2_r, rs_same, rs_ne, and_self]; omega) (by simp (disch := omega) only [up2_ne, up2_r, rs_same, rs_ne, and_self]; omega) (by simp (disch := omega) only [up2_ne, up2_r, rs_same, rs_ne, and_self]; omega)⟩
      · unfold FL
        simp (disch := omega) only [up2_ne, up2_r, rs_same, rs_ne, and_self]
        rw [f4, f7, f8, f9]
        exact ⟨g1, g2, g3, by omega, g5, g6, pos_rs g7 _ (by omega), pos_rs g8 _ (by omega), nine_rs g9 _ (by omega), f1, f2, f3, rfl, f5, f6, rfl, rfl, rfl⟩
      · unfold GC at hg ⊢
        simp (disch := omega) only [up2_ne, up2_r, rs_same, rs_ne, and_self]
        exact ⟨hg.1, by omega, hg.2.2.1, hg.2.2.2.1, pos9 (nine_rs g9 _ (by omega)), hg.2.2.2.2.2.1, by omega, hg.2.2.2.2.2.2.2.1, hg.2.2.2.2.2.2.2.2⟩
      · unfold st
        simp (disch := omega) only [up2_ne, up2_r, rs_same, rs_ne, and_self]
        omega
  · obtain ⟨q1, q2, q3⟩ := hfr I (fun _ _ _ => rfl)
    have m1 := s_145 d w I J x z (by omega) hx q1
    rw [q2, if_neg c] at m1
    rw [if_neg c] at k1
    exact Stp_id h k1 m1
