/-! bodies, acts, shelves of both -/
theorem SH_m {I I' J : Nat → Nat → Int} (h : SHV I J) (hr : ∀ i, i < 6 → I' (46 + 2 * i) = I (46 + 2 * i)) (h92 : I' 92 = I 92) (h93 : I' 93 = I 93) (h42 : I 42 1 ≤ I' 42 1) : SHV I' J := by
  intro i hi
  have h := h i hi
  unfold SV at h ⊢
  rw [hr i hi, h92, h93]
  refine ⟨?_, h.2⟩
  rcases h.1 with q | ⟨q1, q2, q3, q4⟩ | q
  · exact Or.inl q
  · exact Or.inr (Or.inl ⟨q1, q2, q3, by omega⟩)
  · exact Or.inr (Or.inr q)
theorem SH_i {I I' J J' : Nat → Nat → Int} (h : SHV I J) (i : Nat) (hr : ∀ j, j < 6 → j ≠ i → I' (46 + 2 * j) = I (46 + 2 * j) ∧ I' 92 j = I 92 j ∧ I' 93 j = I 93 j ∧ ∀ k, k < 60 → J' (47 + 2 * j) k = J (47 + 2 * j) k ∧ J' 94 (60 * j + k) = J 94 (60 * j + k)) (h42 : I' 42 1 = I 42 1) (hi : SV I' J' i) : SHV I' J' := by
  intro j hj
  by_cases c : j = i
  · subst c; exact hi
  · obtain ⟨r1, r2, r3, r4⟩ := hr j hj c
    have h := h j hj
    unfold SV at h ⊢
    rw [r1, r2, r3, h42]
    refine ⟨?_, h.2⟩
    rcases h.1 with q | q | ⟨q1, q2, q3, q4⟩
    · exact Or.inl q
    · exact Or.inr (Or.inl q)
    · refine Or.inr (Or.inr ⟨q1, q2, q3, fun k hk => ?_⟩)
      obtain ⟨u1, u2⟩ := r4 k (by omega)
      rw [u1, u2]; exact q4 k hk
theorem q_121 (L : Nat) (B : Nat → Int) (t d : Nat) (w : Nat × Bool) (I J : Nat → Nat → Int) (x : Int) (hd : 1000 ≤ d) (ht : t ≤ 1000) (h : Inv L B t w I J) : StpI L B t w I J d 121 212 [vi x] := by
  obtain ⟨⟨h0, h0'⟩, hF, hS, hN, hT, hC, hA, hH, hL⟩ := id h
  obtain ⟨a1, a2, a3, a4, a5, a6, a7, a8⟩ := id hA
  have k1 := s_121 d w I J x (by omega) a3
  have m0 := s_212 d w I J x (by omega) (by rw [a5]; exact a3)
  by_cases c : 0 ≤ x ∧ x ≤ 7
  · rw [if_pos c] at k1 m0
    by_cases c2 : I 42 1 = 50
    · rw [if_pos c2] at k1
      rw [if_pos (by rw [a5]; exact c2)] at m0
      exact Stp_id h k1 m0
    · rw [if_neg c2] at k1
      have e58 : up2 (up2 I 43 (I 42 1).toNat x) 42 1 (I 42 1 + 1) 58 48 = I 42 1 := by simp (disch := omega) only [up2_ne, up2_r, rs_same, rs_ne, and_self]; exact a5
      have m1 := s_212 d w (up2 (up2 I 43 (I 42 1).toNat x) 42 1 (I 42 1 + 1)) J x (by omega) (by rw [e58]; exact a3)
      rw [if_pos c, e58, if_neg c2] at m1
      refine ⟨_, _, _, _, _, _, _, k1, ⟨h0, by simp (disch := omega) only [up2_ne, up2_r, rs_same, rs_ne, and_self]; exact h0'⟩, m1, ⟨h0, by simp (disch := omega) only [up2_ne, up2_r, rs_same, rs_ne, and_self]; exact h0'⟩, FL_x hF (by unfold FLe; simp (disch := omega) only [up2_ne, up2_r, rs_same, rs_ne, and_self]), ST_x hS (by unfold STe; simp (disch := omega) only [up2_ne, up2_r, rs_same, rs_ne, and_self]), SN_x hN (by unfold SNe; simp (disch := omega) only [up2_ne, up2_r, rs_same, rs_ne, and_self]), TP_x hT (by unfold TPe; simp (disch := omega) only [up2_ne, up2_r, rs_same, rs_ne, and_self]), CH_x hC (by unfold CHe; simp (disch := omega) only [up2_ne, up2_r, rs_same, rs_ne, and_self]), ?_, SH_m hH (fun i hi => by simp (disch := omega) only [up2_ne, up2_r, rs_same, rs_ne, and_self]) (by simp (disch := omega) only [up2_ne, up2_r, rs_same, rs_ne, and_self]) (by simp (disch := omega) only [up2_ne, up2_r, rs_same, rs_ne, and_self]) (by simp (disch := omega) only [up2_ne, up2_r, rs_same, rs_ne, and_self]; omega), LW_x hL (by unfold LWe; simp (disch := omega) only [up2_ne, up2_r, rs_same, rs_ne, and_self])⟩
      unfold AT
      simp (disch := omega) only [up2_ne, up2_r, rs_same, rs_ne, and_self]
      rw [a7]
      refine ⟨a1, a2, by omega, ?_, trivial, a6, rfl, a8⟩
      intro k
      rw [rs_at]
      split
      · exact c
      · exact a4 k
  · rw [if_neg c] at k1 m0
    exact Stp_id h k1 m0
theorem trsX_w : ∀ (l : List Int) (A : Nat → Nat → Int), (∀ c, c ≠ 42 → c ≠ 44 → trsX A l c = A c) ∧ ∀ k, k ≠ 3 → trsX A l 42 k = A 42 k
  | [], A => ⟨fun _ _ _ => rfl, fun _ _ => rfl⟩
  | r :: l, A => by
    obtain ⟨h1, h2⟩ := trsX_w l (trX A r)
    refine ⟨fun c c1 c2 => ?_, fun k hk => ?_⟩
    · show trsX (trX A r) l c = A c
      rw [h1 c c1 c2, trX_s c1 c2]
    · show trsX (trX A r) l 42 k = A 42 k
      rw [h2 k hk, trX_42, if_neg hk]
theorem trsM_w : ∀ (l : List Int) (A : Nat → Nat → Int), (∀ c, c ≠ 58 → c ≠ 91 → trsM A l c = A c) ∧ ∀ k, k ≠ 50 → trsM A l 58 k = A 58 k
  | [], A => ⟨fun _ _ _ => rfl, fun _ _ => rfl⟩
  | r :: l, A => by
    obtain ⟨h1, h2⟩ := trsM_w l (trM A r)
    refine ⟨fun c c1 c2 => ?_, fun k hk => ?_⟩
    · show trsM (trM A r) l c = A c
      rw [h1 c c1 c2, trM_s c1 c2]
    · show trsM (trM A r) l 58 k = A 58 k
      rw [h2 k hk, trM_58, if_neg hk]
theorem trs_c : ∀ (l : List Int) (A C : Nat → Nat → Int), C 58 50 = A 42 3 → C 91 = A 44 → trsM C l 58 50 = trsX A l 42 3 ∧ trsM C l 91 = trsX A l 44
  | [], A, C, h1, h2 => ⟨h1, h2⟩
  | r :: l, A, C, h1, h2 => by
    refine trs_c l (trX A r) (trM C r) ?_ ?_
    · rw [trM_58, trX_42, if_pos rfl, if_pos rfl, h1]
    · unfold trM trX
      rw [h1]
      by_cases q : A 42 3 < 24
      · rw [if_pos q, if_pos q]
        simp (disch := omega) only [up2_ne, up2_r, rs_same, rs_ne, and_self]
        rw [h2]
      · rw [if_neg q, if_neg q]
        simp (disch := omega) only [up2_ne, up2_r, rs_same, rs_ne, and_self]
        exact h2
theorem q_122 (L : Nat) (B : Nat → Int) (t d : Nat) (w : Nat × Bool) (I J : Nat → Nat → Int) (b a x : Int) (hd : 1000 ≤ d) (ht : t ≤ 1000) (h : Inv L B t w I J) : StpI L B t w I J d 122 225 [vi b, vi a, vi x] := by
  obtain ⟨⟨h0, h0'⟩, hF, hS, hN, hT, hC, hA, hH, hL⟩ := id h
  obtain ⟨a1, a2, a3, a4, a5, a6, a7, a8⟩ := id hA
  have k1 := s_122 d w I J b a x (by omega) a1 a2 a3 a4
  by_cases c : (0 ≤ b ∧ b < I 42 1) ∧ 0 ≤ a ∧ a ≤ 3
  · rw [if_pos c] at k1
    obtain ⟨x1, x2⟩ := trsX_w (acT a (I 43 b.toNat)) (up2 (up2 I 42 3 0) 42 4 b)
    have z1 : ∀ c, c ≠ 42 → c ≠ 44 → trsX (up2 (up2 I 42 3 0) 42 4 b) (acT a (I 43 b.toNat)) c = I c := fun c c1 c2 => by rw [x1 c c1 c2]; simp (disch := omega) only [up2_ne, up2_r, rs_same, rs_ne, and_self]
    have z2 : trsX (up2 (up2 I 42 3 0) 42 4 b) (acT a (I 43 b.toNat)) 42 1 = I 42 1 := by rw [x2 1 (by omega)]; simp (disch := omega) only [up2_ne, up2_r, rs_same, rs_ne, and_self]
    have m1 := s_225 d w (trsX (up2 (up2 I 42 3 0) 42 4 b) (acT a (I 43 b.toNat))) J b a x (by omega) (by rw [z1 58 (by omega) (by omega), a5]; exact a3)
    rw [z1 58 (by omega) (by omega), z1 90 (by omega) (by omega), a5, a7, if_pos c] at m1
    obtain ⟨y1, y2⟩ := trsM_w (acT a (I 43 b.toNat)) (up2 (trsX (up2 (up2 I 42 3 0) 42 4 b) (acT a (I 43 b.toNat))) 58 50 0)
    have hc := trs_c (acT a (I 43 b.toNat)) (up2 (up2 I 42 3 0) 42 4 b) (up2 (trsX (up2 (up2 I 42 3 0) 42 4 b) (acT a (I 43 b.toNat))) 58 50 0) (by simp (disch := omega) only [up2_ne, up2_r, rs_same, rs_ne, and_self]) (by simp (disch := omega) only [up2_ne, up2_r, rs_same, rs_ne, and_self]; rw [z1 91 (by omega) (by omega)]; exact a8)
    have r1 : ∀ c, c ≠ 42 → c ≠ 44 → c ≠ 58 → c ≠ 91 → trsM (up2 (trsX (up2 (up2 I 42 3 0) 42 4 b) (acT a (I 43 b.toNat))) 58 50 0) (acT a (I 43 b.toNat)) c = I c := fun c c1 c2 c3 c4 => by rw [y1 c c3 c4, up2_ne _ _ _ c3, z1 c c1 c2]
    have r58 : ∀ k, k ≠ 50 → trsM (up2 (trsX (up2 (up2 I 42 3 0) 42 4 b) (acT a (I 43 b.toNat))) 58 50 0) (acT a (I 43 b.toNat)) 58 k = I 58 k := fun k hk => by rw [y2 k hk, up2_sne _ _ _ hk, z1 58 (by omega) (by omega)]
    have r42 : trsM (up2 (trsX (up2 (up2 I 42 3 0) 42 4 b) (acT a (I 43 b.toNat))) 58 50 0) (acT a (I 43 b.toNat)) 42 = trsX (up2 (up2 I 42 3 0) 42 4 b) (acT a (I 43 b.toNat)) 42 := by rw [y1 42 (by omega) (by omega), up2_ne _ _ _ (by omega)]
    have r44 : trsM (up2 (trsX (up2 (up2 I 42 3 0) 42 4 b) (acT a (I 43 b.toNat))) 58 50 0) (acT a (I 43 b.toNat)) 44 = trsX (up2 (up2 I 42 3 0) 42 4 b) (acT a (I 43 b.toNat)) 44 := by rw [y1 44 (by omega) (by omega), up2_ne _ _ _ (by omega)]
    generalize trsM (up2 (trsX (up2 (up2 I 42 3 0) 42 4 b) (acT a (I 43 b.toNat))) 58 50 0) (acT a (I 43 b.toNat)) = F at m1 hc r1 r58 r42 r44
    refine ⟨_, _, _, _, _, _, _, k1, ⟨h0, by rw [z1 0 (by omega) (by omega)]; exact h0'⟩, m1, ⟨h0, by rw [r1 0 (by omega) (by omega) (by omega) (by omega)]; exact h0'⟩, FL_x hF (by unfold FLe; simp (disch := omega) only [r1, r58, and_self]), ST_x hS (by unfold STe; simp (disch := omega) only [r1, r58, and_self]), SN_x hN (by unfold SNe; simp (disch := omega) only [r1, r58, and_self]), TP_x hT (by unfold TPe; simp (disch := omega) only [r1, r58, and_self]), CH_x hC (by unfold CHe; simp (disch := omega) only [r1, r58, and_self]), ?_, SH_x hH (by unfold SHe; simp (disch := omega) only [r1, r58, r42, z2, and_self]), LW_x hL (by unfold LWe; simp (disch := omega) only [r1, r58, and_self])⟩
    unfold AT
    rw [r1 1 (by omega) (by omega) (by omega) (by omega), r1 2 (by omega) (by omega) (by omega) (by omega), r1 43 (by omega) (by omega) (by omega) (by omega), r1 90 (by omega) (by omega) (by omega) (by omega), r58 48 (by omega), r42, z2, r44]
    exact ⟨a1, a2, a3, a4, a5, hc.1, a7, hc.2⟩
  · rw [if_neg c] at k1
    have m1 := s_225 d w (up2 I 42 3 0) J b a x (by omega) (by simp (disch := omega) only [up2_ne, up2_r, rs_same, rs_ne, and_self]; rw [a5]; exact a3)
    rw [show up2 I 42 3 0 58 = I 58 from up2_ne _ _ _ (by omega), a5, if_neg c] at m1
    refine ⟨_, _, _, _, _, _, _, k1, ⟨h0, by simp (disch := omega) only [up2_ne, up2_r, rs_same, rs_ne, and_self]; exact h0'⟩, m1, ⟨h0, by simp (disch := omega) only [up2_ne, up2_r, rs_same, rs_ne, and_self]; exact h0'⟩, FL_x hF (by unfold FLe; simp (disch := omega) only [up2_ne, up2_r, rs_same, rs_ne, and_self]), ST_x hS (by unfold STe; simp (disch := omega) only [up2_ne, up2_r, rs_same, rs_ne, and_self]), SN_x hN (by unfold SNe; simp (disch := omega) only [up2_ne, up2_r, rs_same, rs_ne, and_self]), TP_x hT (by unfold TPe; simp (disch := omega) only [up2_ne, up2_r, rs_same, rs_ne, and_self]), CH_x hC (by unfold CHe; simp (disch := omega) only [up2_ne, up2_r, rs_same, rs_ne, and_self]), ?_, SH_x hH (by unfold SHe; simp (disch := omega) only [up2_ne, up2_r, rs_same, rs_ne, and_self]), LW_x hL (by unfold LWe; simp (disch := omega) only [up2_ne, up2_r, rs_same, rs_ne, and_self])⟩
    unfold AT
    simp (disch := omega) only [up2_ne, up2_r, rs_same, rs_ne, and_self]
    exact ⟨a1, a2, a3, a4, a5, trivial, a7, a8⟩
theorem q_124 (L : Nat) (B : Nat → Int) (t d : Nat) (w : Nat × Bool) (I J : Nat → Nat → Int) (s b : Int) (hd : 1000 ≤ d) (ht : t ≤ 1000) (h : Inv L B t w I J) : StpI L B t w I J d 124 228 [vi s, vi b] := by
  obtain ⟨⟨h0, h0'⟩, hF, hS, hN, hT, hC, hA, hH, hL⟩ := id h
  obtain ⟨a1, a2, a3, a4, a5, a6, a7, a8⟩ := id hA
  by_cases cs : 0 ≤ s ∧ s < 6
  · obtain ⟨i, hi, rfl⟩ := to_n (n := 6) (x := s) cs
    have k1 := s_124 d w I J i b hi (by omega)
    by_cases c : b = -1
    · rw [if_pos c] at k1
      have m1 := s_228 d w (up2 (up2 I (46 + 2 * i) 0 (-1)) (46 + 2 * i) 2 0) J i b hi (by omega) (by simp (disch := omega) only [up2_ne, up2_r, rs_same, rs_ne, and_self]; rw [a5]; exact a3)
      rw [if_pos c] at m1
      refine ⟨_, _, _, _, _, _, _, k1, ⟨h0, by simp (disch := omega) only [up2_ne, up2_r, rs_same, rs_ne, and_self]; exact h0'⟩, m1, ⟨h0, by simp (disch := omega) only [up2_ne, up2_r, rs_same, rs_ne, and_self]; exact h0'⟩, FL_x hF (by unfold FLe; simp (disch := omega) only [up2_ne, up2_r, rs_same, rs_ne, and_self]), ST_x hS (by unfold STe; simp (disch := omega) only [up2_ne, up2_r, rs_same, rs_ne, and_self]), SN_x hN (by unfold SNe; simp (disch := omega) only [up2_ne, up2_r, rs_same, rs_ne, and_self]), TP_x hT (by unfold TPe; simp (disch := omega) only [up2_ne, up2_r, rs_same, rs_ne, and_self]), CH_x hC (by unfold CHe; simp (disch := omega) only [up2_ne, up2_r, rs_same, rs_ne, and_self]), AT_x hA (by unfold ATe; simp (disch := omega) only [up2_ne, up2_r, rs_same, rs_ne, and_self]), SH_i hH i (fun j hj hji => ⟨by simp (disch := omega) only [up2_ne, up2_r, rs_same, rs_ne, and_self], by simp (disch := omega) only [up2_ne, up2_r, rs_same, rs_ne, and_self], by simp (disch := omega) only [up2_ne, up2_r, rs_same, rs_ne, and_self], fun k _ => ⟨rfl, rfl⟩⟩) (by simp (disch := omega) only [up2_ne, up2_r, rs_same, rs_ne, and_self]) ?_, LW_x hL (by unfold LWe; simp (disch := omega) only [up2_ne, up2_r, rs_same, rs_ne, and_self])⟩
      unfold SV
      simp (disch := omega) only [up2_ne, up2_r, rs_same, rs_ne, and_self]
      exact ⟨Or.inl trivial, by omega, by omega⟩
    · rw [if_neg c] at k1
      by_cases c2 : 0 ≤ b ∧ b < I 42 1
      · rw [if_pos c2] at k1
        have m1 := s_228 d w (up2 (up2 (up2 I (46 + 2 * i) 0 5) (46 + 2 * i) 1 b) (46 + 2 * i) 2 0) J i b hi (by omega) (by simp (disch := omega) only [up2_ne, up2_r, rs_same, rs_ne, and_self]; rw [a5]; exact a3)
        rw [if_neg c, show up2 (up2 (up2 I (46 + 2 * i) 0 5) (46 + 2 * i) 1 b) (46 + 2 * i) 2 0 58 = I 58 by simp (disch := omega) only [up2_ne, up2_r, rs_same, rs_ne, and_self], a5, if_pos c2] at m1
        refine ⟨_, _, _, _, _, _, _, k1, ⟨h0, by simp (disch := omega) only [up2_ne, up2_r, rs_same, rs_ne, and_self]; exact h0'⟩, m1, ⟨h0, by simp (disch := omega) only [up2_ne, up2_r, rs_same, rs_ne, and_self]; exact h0'⟩, FL_x hF (by unfold FLe; simp (disch := omega) only [up2_ne, up2_r, rs_same, rs_ne, and_self]), ST_x hS (by unfold STe; simp (disch := omega) only [up2_ne, up2_r, rs_same, rs_ne, and_self]), SN_x hN (by unfold SNe; simp (disch := omega) only [up2_ne, up2_r, rs_same, rs_ne, and_self]), TP_x hT (by unfold TPe; simp (disch := omega) only [up2_ne, up2_r, rs_same, rs_ne, and_self]), CH_x hC (by unfold CHe; simp (disch := omega) only [up2_ne, up2_r, rs_same, rs_ne, and_self]), AT_x hA (by unfold ATe; simp (disch := omega) only [up2_ne, up2_r, rs_same, rs_ne, and_self]), SH_i hH i (fun j hj hji => ⟨by simp (disch := omega) only [up2_ne, up2_r, rs_same, rs_ne, and_self], by simp (disch := omega) only [up2_ne, up2_r, rs_same, rs_ne, and_self], by simp (disch := omega) only [up2_ne, up2_r, rs_same, rs_ne, and_self], fun k _ => ⟨rfl, rfl⟩⟩) (by simp (disch := omega) only [up2_ne, up2_r, rs_same, rs_ne, and_self]) ?_, LW_x hL (by unfold LWe; simp (disch := omega) only [up2_ne, up2_r, rs_same, rs_ne, and_self])⟩
        unfold SV
        simp (disch := omega) only [up2_ne, up2_r, rs_same, rs_ne, and_self]
        exact ⟨Or.inr (Or.inl ⟨trivial, c2.1, trivial, c2.2⟩), by omega, by omega⟩
      · rw [if_neg c2] at k1
        have m1 := s_228 d w I J i b hi (by omega) (by rw [a5]; exact a3)
        rw [if_neg c, a5, if_neg c2] at m1
        exact Stp_id h k1 m1
  · exact Stp_id h (s_124n d w I J s b cs (by omega)) (s_228n d w I J s b cs (by omega))
theorem q_125 (L : Nat) (B : Nat → Int) (t d : Nat) (w : Nat × Bool) (I J : Nat → Nat → Int) (s x n : Int) (hd : 1000 ≤ d) (ht : t ≤ 1000) (h : Inv L B t w I J) : StpI L B t w I J d 125 229 [vi s, vi x, vi n] := by
  obtain ⟨⟨h0, h0'⟩, hF, hS, hN, hT, hC, hA, hH, hL⟩ := id h
  by_cases cs : 0 ≤ s ∧ s < 6
  · obtain ⟨i, hi, rfl⟩ := to_n (n := 6) (x := s) cs
    have k1 := s_125 d w I J i x n hi (by omega)
    by_cases c : (0 ≤ x ∧ x ≤ 4) ∧ n ≤ 60
    · rw [if_pos c] at k1
      by_cases c2 : n < 0
      · rw [if_pos c2] at k1
        have m1 := s_229 d w I J i x n hi (by omega)
        rw [if_pos c, if_pos c2] at m1
        exact Stp_id h k1 m1
      · rw [if_neg c2] at k1
        have m1 := s_229 d w (up2 (up2 I (46 + 2 * i) 0 x) (46 + 2 * i) 2 n) (zr J (47 + 2 * i) 0 n.toNat) i x n hi (by omega)
        rw [if_pos c, if_neg c2] at m1
        refine ⟨_, _, _, _, _, _, _, k1, ⟨h0, by simp (disch := omega) only [up2_ne, up2_r, rs_same, rs_ne, and_self]; exact h0'⟩, m1, ⟨h0, by simp (disch := omega) only [up2_ne, up2_r, rs_same, rs_ne, and_self]; exact h0'⟩, FL_x hF (by unfold FLe; simp (disch := omega) only [up2_ne, up2_r, rs_same, rs_ne, and_self]), ST_x hS (by unfold STe; simp (disch := omega) only [up2_ne, up2_r, rs_same, rs_ne, and_self]), SN_x hN (by unfold SNe; simp (disch := omega) only [up2_ne, up2_r, rs_same, rs_ne, and_self]), TP_x hT (by unfold TPe; simp (disch := omega) only [up2_ne, up2_r, rs_same, rs_ne, and_self]), CH_x hC (by unfold CHe; simp (disch := omega) only [up2_ne, up2_r, rs_same, rs_ne, and_self]), AT_x hA (by unfold ATe; simp (disch := omega) only [up2_ne, up2_r, rs_same, rs_ne, and_self]), SH_i hH i (fun j hj hji => ⟨by simp (disch := omega) only [up2_ne, up2_r, rs_same, rs_ne, and_self], by simp (disch := omega) only [up2_ne, up2_r, rs_same, rs_ne, and_self], by simp (disch := omega) only [up2_ne, up2_r, rs_same, rs_ne, and_self], fun k hk => ⟨?_, ?_⟩⟩) (by simp (disch := omega) only [up2_ne, up2_r, rs_same, rs_ne, and_self]) ?_, LW_x hL (by unfold LWe; simp (disch := omega) only [up2_ne, up2_r, rs_same, rs_ne, and_self])⟩
        · unfold zr
          rw [if_neg (by omega), if_neg (by omega)]
        · unfold zr
          rw [if_neg (by omega), if_neg (by omega)]
        · unfold SV
          simp (disch := omega) only [up2_ne, up2_r, rs_same, rs_ne, and_self]
          refine ⟨Or.inr (Or.inr ⟨c.1, trivial, trivial, fun k hk => ?_⟩), by omega, c.2⟩
          unfold zr
          rw [if_neg (by omega), if_pos (by omega), if_pos (by omega)]
    · rw [if_neg c] at k1
      have m1 := s_229 d w I J i x n hi (by omega)
      rw [if_neg c] at m1
      exact Stp_id h k1 m1
  · exact Stp_id h (s_125n d w I J s x n cs (by omega)) (s_229n d w I J s x n cs (by omega))
theorem q_126 (L : Nat) (B : Nat → Int) (t d : Nat) (w : Nat × Bool) (I J : Nat → Nat → Int) (s x v : Int) (hd : 1000 ≤ d) (ht : t ≤ 1000) (h : Inv L B t w I J) : StpI L B t w I J d 126 231 [vi s, vi x, vl v] := by
  obtain ⟨⟨h0, h0'⟩, hF, hS, hN, hT, hC, hA, hH, hL⟩ := id h
  by_cases cs : 0 ≤ s ∧ s < 6
  · obtain ⟨i, hi, rfl⟩ := to_n (n := 6) (x := s) cs
    obtain ⟨sv, z1, z2⟩ := hH i hi
    have k1 := s_126 d w I J i x v hi (by omega) z2
    have m0 := s_231 d w I J i x v hi (by omega) (fun q => by omega)
    rcases sv with ⟨v1, v2⟩ | ⟨v1, v2, v3, v4⟩ | ⟨v1, v2, v3, v4⟩
    · rw [if_pos v1] at k1
      rw [if_pos v2] at m0
      exact Stp_id h k1 m0
    · rw [if_neg (by omega), if_pos v1] at k1
      rw [if_neg (by omega), if_pos v2] at m0
      exact Stp_id h k1 m0
    · rw [if_neg (by omega), if_neg (by omega)] at k1
      by_cases c : 0 ≤ x ∧ x < I (46 + 2 * i) 2
      · rw [if_pos c] at k1
        have m1 := s_231 d w I (up2 J (47 + 2 * i) x.toNat (cutQ (I (46 + 2 * i) 0) v)) i x v hi (by omega) (fun q => by omega)
        rw [if_neg (by omega), if_neg (by omega), if_pos (by omega), show -2 - I 92 i = I (46 + 2 * i) 0 by omega] at m1
        refine ⟨_, _, _, _, _, _, _, k1, ⟨h0, h0'⟩, m1, ⟨h0, h0'⟩, hF, hS, hN, hT, hC, hA, SH_i hH i (fun j hj hji => ⟨rfl, rfl, rfl, fun k hk => ⟨?_, ?_⟩⟩) rfl ?_, LW_x hL (by unfold LWe; simp only [and_self])⟩
        · rw [up2_ne _ _ _ (by omega), up2_ne _ _ _ (by omega)]
        · rw [up2_sne _ _ _ (by omega), up2_ne _ _ _ (by omega)]
        · refine ⟨Or.inr (Or.inr ⟨v1, v2, v3, fun k hk => ?_⟩), z1, z2⟩
          by_cases q : k = x.toNat
          · subst q
            rw [up2_ne _ _ _ (by omega), up2_s, up2_s]
          · rw [up2_ne _ _ _ (by omega), up2_sne _ _ _ q, up2_sne _ _ _ (by omega), up2_ne _ _ _ (by omega)]
            exact v4 k hk
      · rw [if_neg c] at k1
        rw [if_neg (by omega), if_neg (by omega), if_neg (by rw [v3]; exact c)] at m0
        exact Stp_id h k1 m0
  · exact Stp_id h (s_126n d w I J s x v cs (by omega)) (s_231n d w I J s x v cs (by omega))
def StpL (L : Nat) (B : Nat → Int) (t : Nat) (w : Nat × Bool) (I J : Nat → Nat → Int) (d y y' : Nat) (as : List mVal) : Prop :=
  ∃ v : Int, semC d y (vr 3 :: as) (mk w I J) = some (some (vl v), mk w I J) ∧ semC d y' (vr 58 :: as) (mk w I J) = some (some (vl v), mk w I J) ∧ Inv L B t w I J
theorem Stp_idL {L : Nat} {B : Nat → Int} {t : Nat} {w : Nat × Bool} {I J : Nat → Nat → Int} {d y y' : Nat} {as : List mVal} {v : Int} (h : Inv L B t w I J) (k1 : semC d y (vr 3 :: as) (mk w I J) = some (some (vl v), mk w I J)) (m1 : semC d y' (vr 58 :: as) (mk w I J) = some (some (vl v), mk w I J)) : StpL L B t w I J d y y' as := ⟨v, k1, m1, h⟩
theorem q_127 (L : Nat) (B : Nat → Int) (t d : Nat) (w : Nat × Bool) (I J : Nat → Nat → Int) (s x : Int) (hd : 1000 ≤ d) (ht : t ≤ 1000) (h : Inv L B t w I J) : StpL L B t w I J d 127 232 [vi s, vi x] := by
  obtain ⟨⟨h0, h0'⟩, hF, hS, hN, hT, hC, hA, hH, hL⟩ := id h
  by_cases cs : 0 ≤ s ∧ s < 6
  · obtain ⟨i, hi, rfl⟩ := to_n (n := 6) (x := s) cs
    obtain ⟨sv, z1, z2⟩ := hH i hi
    have k1 := s_127 d w I J i x hi (by omega) z2
    have m0 := s_232 d w I J i x hi (by omega) (fun q => by omega)
    rcases sv with ⟨v1, v2⟩ | ⟨v1, v2, v3, v4⟩ | ⟨v1, v2, v3, v4⟩
    · rw [if_pos (by omega)] at k1
      rw [if_pos (by omega)] at m0
      exact Stp_idL h k1 m0
    · rw [if_pos (by omega)] at k1
      rw [if_pos (by omega)] at m0
      exact Stp_idL h k1 m0
    · by_cases c : 0 ≤ x ∧ x < I (46 + 2 * i) 2
      · rw [if_neg (by omega), v4 x.toNat (by omega)] at k1
        rw [if_neg (by omega)] at m0
        exact Stp_idL h k1 m0
      · rw [if_pos (by omega)] at k1
        rw [if_pos (by omega)] at m0
        exact Stp_idL h k1 m0
  · exact Stp_idL h (s_127n d w I J s x cs (by omega)) (s_232n d w I J s x cs (by omega))
theorem q_128 (L : Nat) (B : Nat → Int) (t d : Nat) (w : Nat × Bool) (I J : Nat → Nat → Int) (s x o y n : Int) (hx : iR x) (hy : iR y) (hn : iR n) (hd : 1000 ≤ d) (ht : t ≤ 1000) (h : Inv L B t w I J) : StpI L B t w I J d 128 233 [vi s, vi x, vi o, vi y, vi n] := by
  obtain ⟨⟨h0, h0'⟩, hF, hS, hN, hT, hC, hA, hH, hL⟩ := id h
  by_cases cs : (0 ≤ s ∧ s < 6) ∧ 0 ≤ o ∧ o < 6
  · obtain ⟨i, hi, rfl⟩ := to_n (n := 6) (x := s) cs.1
    obtain ⟨j, hj, rfl⟩ := to_n (n := 6) (x := o) cs.2
    obtain ⟨sv, z1, z2⟩ := hH i hi
    obtain ⟨sv', z1', z2'⟩ := hH j hj
    have k1 := s_128 d w I J i j x y n hi hj hx hy hn (by omega) z2 z2'
    have m0 := s_233 d w I J i j x y n hi hj hx hy hn (by omega) (fun q => by omega) (fun q => by omega)
    by_cases c1 : I (46 + 2 * i) 0 = -1 ∨ I (46 + 2 * j) 0 = -1
    · rw [if_pos c1] at k1
      rw [if_pos (by omega)] at m0
      exact Stp_id h k1 m0
    · rw [if_neg c1] at k1
      rw [if_neg (by omega)] at m0
      by_cases c2 : I (46 + 2 * i) 0 = 5 ∨ I (46 + 2 * i) 0 ≠ I (46 + 2 * j) 0
      · rw [if_pos c2] at k1
        rw [if_pos (by omega)] at m0
        exact Stp_id h k1 m0
      · rw [if_neg c2] at k1
        rw [if_neg (by omega)] at m0
        obtain ⟨v1, v2, v3, v4⟩ : (0 ≤ I (46 + 2 * i) 0 ∧ I (46 + 2 * i) 0 ≤ 4) ∧ I 92 i = -2 - I (46 + 2 * i) 0 ∧ I 93 i = I (46 + 2 * i) 2 ∧ ∀ k : Nat, (k : Int) < I 93 i → J (47 + 2 * i) k = J 94 (60 * i + k) := by
          rcases sv with q | q | q
          · omega
          · omega
          · exact q
        obtain ⟨u1, u2, u3, u4⟩ : (0 ≤ I (46 + 2 * j) 0 ∧ I (46 + 2 * j) 0 ≤ 4) ∧ I 92 j = -2 - I (46 + 2 * j) 0 ∧ I 93 j = I (46 + 2 * j) 2 ∧ ∀ k : Nat, (k : Int) < I 93 j → J (47 + 2 * j) k = J 94 (60 * j + k) := by
          rcases sv' with q | q | q
          · omega
          · omega
          · exact q
        by_cases c3 : (0 ≤ x ∧ 0 ≤ n ∧ x + n ≤ I (46 + 2 * i) 2) ∧ 0 ≤ y ∧ y + n ≤ I (46 + 2 * j) 2
        · rw [if_pos c3] at k1
          have m1 := s_233 d w I (cpy J (47 + 2 * i) (47 + 2 * j) x.toNat y.toNat n.toNat) i j x y n hi hj hx hy hn (by omega) (fun q => by omega) (fun q => by omega)
          rw [if_neg (by omega), if_neg (by omega), if_pos (by omega)] at m1
          refine ⟨_, _, _, _, _, _, _, k1, ⟨h0, h0'⟩, m1, ⟨h0, h0'⟩, hF, hS, hN, hT, hC, hA, SH_i hH j (fun m hm hmj => ⟨rfl, rfl, rfl, fun k hk => ⟨?_, ?_⟩⟩) rfl ?_, LW_x hL (by unfold LWe; simp only [and_self])⟩
          · unfold cpy
            rw [if_neg (by omega), if_neg (by omega), if_neg (by omega)]
          · unfold cpy
            rw [if_neg (by omega), if_neg (by omega), if_neg (by omega)]
          · refine ⟨Or.inr (Or.inr ⟨u1, u2, u3, fun k hk => ?_⟩), z1', z2'⟩
            unfold cpy
            by_cases q : y.toNat ≤ k ∧ k < y.toNat + n.toNat
            · rw [if_neg (by omega), if_neg (by omega), if_pos (by omega), if_pos (by omega), if_pos (by omega), if_neg (by omega)]
              rw [show 60 * i + x.toNat + (0 + (60 * j + k - (60 * j + y.toNat)) - 0) = 60 * i + (x.toNat + (k - y.toNat)) by omega]
              exact v4 _ (by omega)
            · rw [if_neg (by omega), if_neg (by omega), if_neg (by omega), if_neg (by omega), if_neg (by omega), if_neg (by omega)]
              exact u4 k hk
        · rw [if_neg c3] at k1
          rw [if_neg (by rw [v3, u3]; exact c3)] at m0
          exact Stp_id h k1 m0
  · exact Stp_id h (s_128n d w I J s o x y n cs (by omega)) (s_233n d w I J s o x y n cs (by omega))
theorem q_129 (L : Nat) (B : Nat → Int) (t d : Nat) (w : Nat × Bool) (I J : Nat → Nat → Int) (s a : Int) (hd : 1000 ≤ d) (ht : t ≤ 1000) (h : Inv L B t w I J) : StpI L B t w I J d 129 234 [vi s, vi a] := by
  obtain ⟨⟨h0, h0'⟩, hF, hS, hN, hT, hC, hA, hH, hL⟩ := id h
  obtain ⟨a1, a2, a3, a4, a5, a6, a7, a8⟩ := id hA
  by_cases cs : 0 ≤ s ∧ s < 6
  · obtain ⟨i, hi, rfl⟩ := to_n (n := 6) (x := s) cs
    obtain ⟨sv, z1, z2⟩ := hH i hi
    have k1 := s_129 d w I J i a hi (by omega) a2 a4 a3
    have m0 := s_234 d w I J i a hi (by omega) (by omega)
    rw [a7] at m0
    by_cases c : 0 ≤ a ∧ a ≤ 7
    · rw [if_pos c] at k1 m0
      rcases sv with ⟨v1, v2⟩ | ⟨v1, v2, v3, v4⟩ | ⟨v1, v2, v3, v4⟩
      · rw [if_pos v1] at k1
        rw [if_pos v2] at m0
        exact Stp_id h k1 m0
      · rw [if_neg (by omega), v3] at k1
        rw [if_neg (by omega)] at m0
        by_cases q : undr (I 43 (I 92 i).toNat) a = true
        · rw [if_pos ⟨v1, ⟨v2, v4⟩, q⟩] at k1
          rw [if_pos ⟨v2, q⟩] at m0
          exact Stp_id h k1 m0
        · rw [if_neg (fun z => q z.2.2)] at k1
          rw [if_neg (fun z => q z.2)] at m0
          exact Stp_id h k1 m0
      · rw [if_neg (by omega), if_neg (by omega)] at k1
        rw [if_neg (by omega), if_neg (by omega)] at m0
        exact Stp_id h k1 m0
    · rw [if_neg c] at k1 m0
      exact Stp_id h k1 m0
  · exact Stp_id h (s_129n d w I J s a cs (by omega)) (s_234n d w I J s a cs (by omega))
