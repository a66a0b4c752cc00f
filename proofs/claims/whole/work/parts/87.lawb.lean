/-! law of both -/
theorem CO_b2 {f f' : Int → Int → Int → Int → Int} {I I' : Nat → Nat → Int} (h : CO f I) (h24 : I' 24 = I 24) (hs : st I < st I') : CO f' I' := by
  intro k hk
  obtain ⟨c1, c2, c3⟩ := h k hk
  rw [h24]
  exact ⟨c1, by omega, fun e => by omega⟩
theorem tsz_1 {Ls : List cLn} (h : Ls ≠ []) : 1 ≤ tsz Ls := by
  cases Ls with
  | nil => exact absurd rfl h
  | cons L Ls =>
    show 1 ≤ lsz L + tsz Ls
    have : 1 ≤ lsz L := by unfold lsz; split <;> omega
    omega
theorem w_dif (w : Nat × Bool) : wst w ≠ wdr w := by
  obtain ⟨L, b⟩ := w
  unfold wst wdr
  cases b <;> simp
theorem q_103 (L : Nat) (B : Nat → Int) (t d : Nat) (w : Nat × Bool) (I J : Nat → Nat → Int) (hd : 1000 ≤ d) (ht : t ≤ 1000) (h : Inv L B t w I J) : StpI L B t w I J d 103 175 [] := by
  obtain ⟨⟨h0, h0'⟩, hF, hS, hN, hT, hC, hA, hH, ⟨f, hK, hM, b1, b2, b3⟩⟩ := id h
  obtain ⟨p1, p2, p3⟩ := id hT
  obtain ⟨hg, hl, hco⟩ := id hK
  have hg9 := hg.2.2.2.2.2.2.2.1
  obtain ⟨len, hlen⟩ : ∃ len : Nat, I 17 1 = (len : Int) := ⟨(I 17 1).toNat, by omega⟩
  have htp : tpk (fun p => if p < len then I 18 p else -1) len := by
    refine ⟨by omega, fun p hp => ?_, fun p hp => ?_⟩
    · show 0 ≤ (if p < len then I 18 p else -1) ∧ (if p < len then I 18 p else -1) ≤ 255
      rw [if_pos hp]; exact (p3 p (by omega)).1
    · show (if p < len then I 18 p else -1) = -1
      rw [if_neg (by omega)]
  have hTC : TC0 I (fun p => if p < len then I 18 p else -1) len := ⟨hlen, htp, fun _ => rfl⟩
  have hwd := wdr_or w
  obtain ⟨X, k0, k1, k2⟩ := s_103 d w I J (fun p => if p < len then I 18 p else -1) len (by omega) hTC hg9
  have hTM : TM0 X (fun p => if p < len then I 18 p else -1) len := by
    refine ⟨by rw [k0 58 (by omega) (by omega), p2]; exact hlen, htp, fun p => ?_⟩
    unfold tm
    rw [k0 74 (by omega) (by omega)]
    by_cases q : p < len
    · simp only [if_pos q]
      exact (p3 p (by omega)).2
    · simp only [if_neg q]
      exact Or.inl trivial
  generalize hlns : lns (fun p => if p < len then I 18 p else -1) 61 0 = R at k2
  rcases k2 with ⟨q1, q2, q3, q4, q5, q6⟩ | ⟨q1, q2, q3, q4⟩
  · obtain ⟨F, m0, m1, m2, m3⟩ := s_175 d (wsw w) X J (fun p => if p < len then I 18 p else -1) len (by omega) hTM
    have hG := lns_G htp 61 0 (Nat.zero_le _)
    rw [hlns] at m3 hG
    obtain ⟨gg1, gg2, _, _⟩ := hG q1
    rcases m3 with ⟨n1, n2, n3, n4, n5, n6, n7, n8⟩ | ⟨n1, _⟩
    · have r1 : ∀ c, c ≠ 17 → c ≠ wdr w → c ≠ 58 → (c < 75 ∨ 79 < c) → F c = I c := fun c a1 a2 a3 a4 => by rw [m0 c a3 (by omega) (by omega) (by omega) (by omega) (by omega), k0 c a1 a2]
      have r17 : F 17 = X 17 := m0 17 (by omega) (by omega) (by omega) (by omega) (by omega) (by omega)
      have rwd : F (wdr w) = X (wdr w) := m0 (wdr w) (by omega) (by omega) (by omega) (by omega) (by omega) (by omega)
      have r58 : ∀ k, k ≠ 27 → k ≠ 28 → k ≠ 29 → k ≠ 30 → k ≠ 31 → k ≠ 39 → F 58 k = I 58 k := fun k a1 a2 a3 a4 a5 a6 => by rw [m1 k a1 a2 a3 a4 a5 a6, k0 58 (by omega) (by omega)]
      refine ⟨_, _, _, _, _, _, _, q2, ⟨h0, by rw [k0 0 (by omega) (by omega)]; exact h0'⟩, n2, ⟨h0, by rw [r1 0 (by omega) (by omega) (by omega) (by omega)]; exact h0'⟩, FL_x hF (by unfold FLe; simp (disch := omega) only [r1, r58, and_self]), ST_x hS (by unfold STe; simp (disch := omega) only [r1, r58, and_self]), SN_x hN (by unfold SNe; simp (disch := omega) only [r1, r58, and_self]), ?_, CH_x hC (by unfold CHe; simp (disch := omega) only [r1, r58, and_self]), AT_x hA (by unfold ATe; simp (disch := omega) only [r1, r58, and_self]), SH_x hH (by unfold SHe; simp (disch := omega) only [r1, r58, and_self]), ?_⟩
      · unfold TP
        rw [r17, m2, k1]
        exact ⟨by omega, rfl, fun p hp => by omega⟩
      · refine ⟨fun v a b c => flv (env4 v a b c) R.2.2, ⟨?_, ?_, ?_⟩, lawM_l (by rw [n3]; omega) n5 n4 n6 n7 n8 gg1, ?_, ?_, ?_⟩
        · unfold GC at hg ⊢
          simp (disch := omega) only [r1, r17, q3]
          exact ⟨hg.1, hg.2.1, hg.2.2.1, hg.2.2.2.1, hg.2.2.2.2.1, hg.2.2.2.2.2.1, hg.2.2.2.2.2.2.1, by omega, hg.2.2.2.2.2.2.2.2⟩
        · refine lawC_l (by rw [r17]; exact q4) (tsz_1 gg2) q5 ?_ gg1
          rw [wst_sw, rwd]; exact q6
        · refine CO_b2 hco (r1 24 (by omega) (by omega) (by omega) (by omega)) ?_
          unfold st
          simp (disch := omega) only [r1, r17, q3]
          omega
        · rw [r1 4 (by omega) (by omega) (by omega) (by omega)]; omega
        · rw [r17, q3]; omega
        · rw [r1 23 (by omega) (by omega) (by omega) (by omega)]; omega
    · rw [n1] at q1; cases q1
  · obtain ⟨F, m0, m1, m2, m3⟩ := s_175 d w X J (fun p => if p < len then I 18 p else -1) len (by omega) hTM
    rw [hlns] at m3
    rcases m3 with ⟨n1, _⟩ | ⟨n1, n2, n3, n4⟩
    · rw [n1] at q1; cases q1
    · have r1 : ∀ c, c ≠ 17 → c ≠ wdr w → c ≠ 58 → (c < 75 ∨ 79 < c) → F c = I c := fun c a1 a2 a3 a4 => by rw [m0 c a3 (by omega) (by omega) (by omega) (by omega) (by omega), k0 c a1 a2]
      have r17 : F 17 = X 17 := m0 17 (by omega) (by omega) (by omega) (by omega) (by omega) (by omega)
      have r58 : ∀ k, k ≠ 27 → k ≠ 28 → k ≠ 29 → k ≠ 30 → k ≠ 31 → k ≠ 39 → F 58 k = I 58 k := fun k a1 a2 a3 a4 a5 a6 => by rw [m1 k a1 a2 a3 a4 a5 a6, k0 58 (by omega) (by omega)]
      have hws := wst_or w
      have rws : F (wst w) = I (wst w) := r1 (wst w) (by omega) (w_dif w) (by omega) (by omega)
      have hag : agM I X := agM_e (fun c a1 a2 => k0 c (by omega) (by omega))
      refine ⟨_, _, _, _, _, _, _, q2, ⟨h0, by rw [k0 0 (by omega) (by omega)]; exact h0'⟩, n2, ⟨h0, by rw [r1 0 (by omega) (by omega) (by omega) (by omega)]; exact h0'⟩, FL_x hF (by unfold FLe; simp (disch := omega) only [r1, r58, and_self]), ST_x hS (by unfold STe; simp (disch := omega) only [r1, r58, and_self]), SN_x hN (by unfold SNe; simp (disch := omega) only [r1, r58, and_self]), ?_, CH_x hC (by unfold CHe; simp (disch := omega) only [r1, r58, and_self]), AT_x hA (by unfold ATe; simp (disch := omega) only [r1, r58, and_self]), SH_x hH (by unfold SHe; simp (disch := omega) only [r1, r58, and_self]), ?_⟩
      · unfold TP
        rw [r17, m2, k1]
        exact ⟨by omega, rfl, fun p hp => by omega⟩
      · refine ⟨f, ⟨?_, ?_, ?_⟩, lawM_x hM (by rw [n3, k0 58 (by omega) (by omega)]) (agM_t hag n4), ?_, ?_, ?_⟩
        · unfold GC at hg ⊢
          simp (disch := omega) only [r1, r17, q3]
          exact hg
        · unfold lawC at hl ⊢
          rw [r17, q4, rws]; exact hl
        · unfold CO st Lc at hco ⊢
          simp (disch := omega) only [r1, r17, q3]
          exact hco
        · rw [r1 4 (by omega) (by omega) (by omega) (by omega)]; omega
        · rw [r17, q3]; omega
        · rw [r1 23 (by omega) (by omega) (by omega) (by omega)]; omega
