/-! desks, worker, sit, set, feed of both -/
def StpJ (L : Nat) (B : Nat → Int) (t : Nat) (w : Nat × Bool) (I J : Nat → Nat → Int) (d y y' : Nat) (as : List mVal) : Prop :=
  ∃ (t' : Nat) (v : Int) (w1 : Nat × Bool) (I1 J1 : Nat → Nat → Int) (w2 : Nat × Bool) (I2 J2 : Nat → Nat → Int), t' ≤ t + 11 ∧ semC d y (vr 3 :: as) (mk w I J) = some (some (vi v), mk w1 I1 J1) ∧ (w1.1 = L ∧ I1 0 = B) ∧ semC d y' (vr 58 :: as) (mk w1 I1 J1) = some (some (vi v), mk w2 I2 J2) ∧ Inv L B t' w2 I2 J2
theorem StpI_J {L : Nat} {B : Nat → Int} {t : Nat} {w : Nat × Bool} {I J : Nat → Nat → Int} {d y y' : Nat} {as : List mVal} (h : StpI L B t w I J d y y' as) : StpJ L B t w I J d y y' as := by
  obtain ⟨v, w1, I1, J1, w2, I2, J2, a, b, c, e⟩ := h
  exact ⟨t + 1, v, w1, I1, J1, w2, I2, J2, by omega, a, b, c, e⟩
theorem aDM_X (I : Nat → Nat → Int) (u v p q : Int) : aDM (aDX I u v) p q = aDX (aDM I p q) u v := by
  have e1 : aDX I u v 58 3 = I 58 3 := by rw [aDX_s (by omega) (by omega) (by omega)]
  have e2 : aDM I p q 4 = I 4 := aDM_s (by omega) (by omega) (by omega)
  have h1 : aDM (aDX I u v) p q = up2 (up2 (up2 (aDX I u v) 59 (I 58 3).toNat p) 60 (I 58 3).toNat q) 58 3 (I 58 3 + 1) := by unfold aDM; rw [e1]
  have h2 : aDX (aDM I p q) u v = up2 (up2 (up2 (up2 (aDM I p q) 5 (I 4 4).toNat u) 6 (I 4 4).toNat v) 4 9 (I 4 9 + 1)) 4 4 (I 4 4 + 1) := by
    unfold aDX
    rw [e2]
  rw [h1, h2]
  unfold aDX aDM
  funext c
  by_cases q4 : c = 4
  · subst q4; simp (disch := omega) only [up2_ne, up2_r, rs_same, rs_ne, and_self]
  · by_cases q5 : c = 5
    · subst q5; simp (disch := omega) only [up2_ne, up2_r, rs_same, rs_ne, and_self]
    · by_cases q6 : c = 6
      · subst q6; simp (disch := omega) only [up2_ne, up2_r, rs_same, rs_ne, and_self]
      · by_cases q58 : c = 58
        · subst q58; simp (disch := omega) only [up2_ne, up2_r, rs_same, rs_ne, and_self]
        · by_cases q59 : c = 59
          · subst q59; simp (disch := omega) only [up2_ne, up2_r, rs_same, rs_ne, and_self]
          · by_cases q60 : c = 60
            · subst q60; simp (disch := omega) only [up2_ne, up2_r, rs_same, rs_ne, and_self]
            · simp (disch := omega) only [up2_ne, up2_r, rs_same, rs_ne, and_self]
theorem dkX_q (R : Nat → Int) (sz x u v : Int) : ∀ m k I, dkX R sz x m k (aDM I u v) = ((dkX R sz x m k I).1, aDM (dkX R sz x m k I).2 u v)
  | 0, k, I => rfl
  | m + 1, k, I => by
    have e4 : aDM I u v 4 = I 4 := aDM_s (by omega) (by omega) (by omega)
    have ef : ∀ a b, frX (aDM I u v) a b = frX I a b := fun a b => by
      unfold frX
      rw [e4, aDM_s (c := 5) (by omega) (by omega) (by omega), aDM_s (c := 6) (by omega) (by omega) (by omega), aDM_s (c := 7) (by omega) (by omega) (by omega), aDM_s (c := 8) (by omega) (by omega) (by omega)]
    show (if _ then _ else _) = ((if _ then _ else _ : Nat × (Nat → Nat → Int)).1, aDM (if _ then _ else _ : Nat × (Nat → Nat → Int)).2 u v)
    rw [ef, e4]
    split
    · rw [← aDM_X, dkX_q R sz x u v m (k + 1)]
    · rfl
theorem dkX_s (R : Nat → Int) (sz x : Int) {c : Nat} (h4 : c ≠ 4) (h5 : c ≠ 5) (h6 : c ≠ 6) : ∀ m k I, (dkX R sz x m k I).2 c = I c
  | 0, k, I => rfl
  | m + 1, k, I => by
    show (if _ then _ else _ : Nat × (Nat → Nat → Int)).2 c = _
    split
    · rw [dkX_s R sz x h4 h5 h6 m (k + 1), aDX_s h4 h5 h6]
    · rfl
theorem dkM_R (R R' : Nat → Int) (sz x : Int) (h : ∀ j : Nat, (j : Int) < sz → R j = R' j) : ∀ m k I, dkM R sz x m k I = dkM R' sz x m k I
  | 0, k, I => rfl
  | m + 1, k, I => by
    show (if _ then _ else _) = (if _ then _ else _)
    by_cases c : 0 ≤ x + 2 * (k : Int) ∧ x + 2 * (k : Int) + 1 < sz
    · rw [h (x + 2 * (k : Int)).toNat (by omega), h ((x + 2 * (k : Int)).toNat + 1) (by omega), dkM_R R R' sz x h m (k + 1)]
    · rw [if_neg (fun q => c ⟨q.1, q.2.1⟩), if_neg (fun q => c ⟨q.1, q.2.1⟩)]
def dkB (R : Nat → Int) (sz x : Int) : Nat → Nat → (Nat → Nat → Int) → (Nat → Nat → Int)
  | 0, _, I => I
  | m + 1, k, I => if 0 ≤ x + 2 * k ∧ x + 2 * k + 1 < sz ∧ frX I (wr (R (x + 2 * k).toNat)) (wr (R ((x + 2 * k).toNat + 1))) = true ∧ I 4 4 ≠ 10 then dkB R sz x m (k + 1) (aDM (aDX I (wr (R (x + 2 * k).toNat)) (wr (R ((x + 2 * k).toNat + 1)))) (wr (R (x + 2 * k).toNat)) (wr (R ((x + 2 * k).toNat + 1)))) else I
theorem dk_2 (R : Nat → Int) (sz x : Int) (L : Nat) (B : Nat → Int) (w : Nat × Bool) (J : Nat → Nat → Int) : ∀ m k I t, Inv L B t w I J → t + m ≤ 1000 → dkM R sz x m k (dkX R sz x m k I).2 = ((dkX R sz x m k I).1, dkB R sz x m k I) ∧ ∃ t', t' ≤ t + m ∧ Inv L B t' w (dkB R sz x m k I) J
  | 0, k, I, t, h, _ => ⟨rfl, t, by omega, h⟩
  | m + 1, k, I, t, h, ht => by
    obtain ⟨f, hK, hM, _⟩ := h.2.2.2.2.2.2.2.2
    have hfr : ∀ I1 : Nat → Nat → Int, (∀ c, 58 ≤ c → c < 70 → I1 c = I c) → (∀ u v, frM I1 u v = frX I u v) ∧ I1 58 3 = I 4 4 := by
      intro I1 he
      obtain ⟨c1, c2, c3, c4, c5, c6, c7, c8, c9, c10, c11, c12, c13, c14, c15, c16, c17, c18, c19, c20⟩ := Inv_cp (I1 := I1) f h he
      refine ⟨fun u v => ?_, c8⟩
      unfold frM frX; rw [c19, c20, c8, c9, c10, c11, c12, c13]
    by_cases c : 0 ≤ x + 2 * (k : Int) ∧ x + 2 * (k : Int) + 1 < sz ∧ frX I (wr (R (x + 2 * (k : Int)).toNat)) (wr (R ((x + 2 * (k : Int)).toNat + 1))) = true ∧ I 4 4 ≠ 10
    · have hX : dkX R sz x (m + 1) k I = dkX R sz x m (k + 1) (aDX I (wr (R (x + 2 * (k : Int)).toNat)) (wr (R ((x + 2 * (k : Int)).toNat + 1)))) := by
        show (if _ then _ else _) = _
        rw [if_pos c]
      have hB : dkB R sz x (m + 1) k I = dkB R sz x m (k + 1) (aDM (aDX I (wr (R (x + 2 * (k : Int)).toNat)) (wr (R ((x + 2 * (k : Int)).toNat + 1)))) (wr (R (x + 2 * (k : Int)).toNat)) (wr (R ((x + 2 * (k : Int)).toNat + 1)))) := by
        show (if _ then _ else _) = _
        rw [if_pos c]
      have hR := free_R c.2.2.1
      have hg := h.2.1
      have hI : Inv L B (t + 1) w (aDM (aDX I (wr (R (x + 2 * (k : Int)).toNat)) (wr (R ((x + 2 * (k : Int)).toNat + 1)))) (wr (R (x + 2 * (k : Int)).toNat)) (wr (R ((x + 2 * (k : Int)).toNat + 1)))) J := Inv_aD (t' := t) h (by omega) (by have := hg.1; omega) (by have := hg.2.1; omega) c.2.2.2
      obtain ⟨i1, t', i2, i3⟩ := dk_2 R sz x L B w J m (k + 1) _ (t + 1) hI (by omega)
      rw [hX, hB]
      refine ⟨?_, t', by omega, i3⟩
      generalize hu : wr (R (x + 2 * (k : Int)).toNat) = u at c i1 ⊢
      generalize hv : wr (R ((x + 2 * (k : Int)).toNat + 1)) = v at c i1 ⊢
      obtain ⟨q2, q3⟩ := hfr (dkX R sz x m (k + 1) (aDX I u v)).2 (fun r a1 a2 => by rw [dkX_s R sz x (by omega) (by omega) (by omega), aDX_s (by omega) (by omega) (by omega)])
      have hM1 : dkM R sz x (m + 1) k (dkX R sz x m (k + 1) (aDX I u v)).2 = dkM R sz x m (k + 1) (aDM (dkX R sz x m (k + 1) (aDX I u v)).2 u v) := by
        show (if _ then _ else _) = _
        rw [hu, hv, q2, q3, if_pos c]
      have hq := dkX_q R sz x u v m (k + 1) (aDX I u v)
      rw [hq] at i1
      rw [hM1]
      exact i1
    · have hX : dkX R sz x (m + 1) k I = (k, I) := by
        show (if _ then _ else _) = _
        rw [if_neg c]
      have hB : dkB R sz x (m + 1) k I = I := by
        show (if _ then _ else _) = _
        rw [if_neg c]
      rw [hX, hB]
      obtain ⟨q2, q3⟩ := hfr I (fun _ _ _ => rfl)
      refine ⟨?_, t, by omega, h⟩
      show dkM R sz x (m + 1) k I = (k, I)
      show (if _ then _ else _) = _
      rw [q2, q3, if_neg c]
theorem q_95 (L : Nat) (B : Nat → Int) (t d : Nat) (w : Nat × Bool) (I J : Nat → Nat → Int) (s x n : Int) (hx : iR x) (hd : 1000 ≤ d) (ht : t ≤ 900) (h : Inv L B t w I J) : StpJ L B t w I J d 95 144 [vi s, vi x, vi n] := by
  obtain ⟨f, hK, hM, _⟩ := h.2.2.2.2.2.2.2.2
  obtain ⟨⟨h0, h0'⟩, hF, hS, hN, hT, hC, hA, hH, hL⟩ := id h
  obtain ⟨g1, g2, g3, g4, g5, g6, g7, g8, g9, f1, f2, f3, f4, f5, f6, f7, f8, f9⟩ := id hF
  obtain ⟨hr, hg⟩ := Inv_rX h (by omega)
  by_cases cs : 0 ≤ s ∧ s < 6
  · obtain ⟨i, hi, rfl⟩ := to_n (n := 6) (x := s) cs
    obtain ⟨sv, z1, z2⟩ := hH i hi
    have b1 := hL
    obtain ⟨_, _, _, b1, _⟩ := b1
    have k1 := s_95 d w I J i x n hi hx (by omega) hr (by omega) ⟨z1, z2⟩
    have hrm : ∀ I1 : Nat → Nat → Int, (∀ c, 58 ≤ c → c < 70 → I1 c = I c) → rFM I1 := by
      intro I1 he
      obtain ⟨c1, c2, c3, c4, c5, c6, c7, c8, c9, c10, c11, c12, c13, c14, c15, c16, c17, c18, c19, c20⟩ := Inv_cp (I1 := I1) f h he
      unfold rFM; rw [c19, c20, c8, c9]; exact ⟨g1, g2, g3, g4⟩
    have m0 := s_144 d w I J i x n hi hx (by omega) (hrm I (fun _ _ _ => rfl)) (fun q => by omega)
    by_cases cn : 1 ≤ n ∧ n ≤ 10
    · rw [if_pos cn] at k1 m0
      rcases sv with ⟨v1, v2⟩ | ⟨v1, v2, v3, v4⟩ | ⟨v1, v2, v3, v4⟩
      · rw [if_pos v1] at k1
        rw [if_pos v2] at m0
        exact StpI_J (Stp_id h k1 m0)
      · rw [if_neg (by omega), if_neg (by omega)] at k1
        rw [if_neg (by omega), if_neg (by omega)] at m0
        exact StpI_J (Stp_id h k1 m0)
      · by_cases c0 : I (46 + 2 * i) 0 = 0
        · rw [if_neg (by omega), if_pos c0] at k1
          have r92 := dkX_s (J (47 + 2 * i)) (I (46 + 2 * i) 2) x (c := 92) (by omega) (by omega) (by omega) n.toNat 0 I
          have r93 := dkX_s (J (47 + 2 * i)) (I (46 + 2 * i) 2) x (c := 93) (by omega) (by omega) (by omega) n.toNat 0 I
          have m1 := s_144 d w (dkX (J (47 + 2 * i)) (I (46 + 2 * i) 2) x n.toNat 0 I).2 J i x n hi hx (by omega) (hrm _ (fun c a1 a2 => dkX_s _ _ _ (by omega) (by omega) (by omega) _ _ _)) (fun q => by rw [r93]; omega)
          obtain ⟨p1, t', p2, p3⟩ := dk_2 (J (47 + 2 * i)) (I (46 + 2 * i) 2) x L B w J n.toNat 0 I t h (by omega)
          rw [if_pos cn, r92, if_neg (by omega), if_pos (by omega), r93, v3, dkM_R (fun j => J 94 (60 * i + j)) (J (47 + 2 * i)) (I (46 + 2 * i) 2) x (fun j hj => (v4 j (by omega)).symm), p1] at m1
          exact ⟨t', _, _, _, _, _, _, _, by omega, k1, ⟨h0, by rw [dkX_s _ _ _ (by omega) (by omega) (by omega)]; exact h0'⟩, m1, p3⟩
        · rw [if_neg (by omega), if_neg c0] at k1
          rw [if_neg (by omega), if_neg (by omega)] at m0
          exact StpI_J (Stp_id h k1 m0)
    · rw [if_neg cn] at k1 m0
      exact StpI_J (Stp_id h k1 m0)
  · exact StpI_J (Stp_id h (s_95n d w I J s x n cs (by omega)) (s_144n d w I J s x n cs (by omega)))
theorem sit1_no {n : Nat} {f : Nat → Int} {x : Int} (h : sit1 n f x = -1) : ∀ j, j < n → f j ≠ x := by
  intro j hj e
  unfold sit1 at h
  cases hf : fnd (fun u => decide (f u = x)) n with
  | some k =>
    rw [hf] at h
    dsimp only at h
    omega
  | none =>
    have := fnd_some.fnd_none hf j hj
    simp at this
    exact this e
theorem sit1_is {n : Nat} {f : Nat → Int} {x y : Int} (h : sit1 n f x = y) (hy : 0 ≤ y) : y.toNat < n ∧ f y.toNat = x := by
  unfold sit1 at h
  cases hf : fnd (fun u => decide (f u = x)) n with
  | some k =>
    rw [hf] at h
    dsimp only at h
    obtain ⟨h1, h2, h3⟩ := fnd_some hf
    have e : y.toNat = k := by omega
    rw [e]
    exact ⟨h1, by simpa using h2⟩
  | none =>
    rw [hf] at h
    dsimp only at h
    omega
theorem q_98 (L : Nat) (B : Nat → Int) (t d : Nat) (w : Nat × Bool) (I J : Nat → Nat → Int) (x y : Int) (hd : 1000 ≤ d) (ht : t ≤ 1000) (h : Inv L B t w I J) : StpI L B t w I J d 98 148 [vi x, vi y] := by
  obtain ⟨⟨h0, h0'⟩, hF, hS, hN, hT, hC, hA, hH, hL⟩ := id h
  obtain ⟨g1, g2, g3, g4, g5, g6, g7, g8, g9, f1, f2, f3, f4, f5, f6, f7, f8, f9⟩ := id hF
  obtain ⟨t1, t2, t3, t4, t5, t6, s1, s2, s3, s4, s5, s6, s7⟩ := id hS
  have k1 := s_98 d w I J x y (by omega) t1
  have m0 := s_148 d w I J x y (by omega) (by rw [s1]; exact t1) (by rw [f3]; exact g3)
  rw [s1, f3, s7] at m0
  by_cases c : (0 ≤ x ∧ x < I 10 6) ∧ (y = -1 ∨ (0 ≤ y ∧ y < I 4 4))
  · rw [if_pos c] at k1 m0
    by_cases c2 : y = -1 ∨ sit1 (I 10 6).toNat (I 16) y = -1 ∨ sit1 (I 10 6).toNat (I 16) y = x
    · rw [if_pos c2] at k1
      have m1 := s_148 d w (up2 I 16 x.toNat y) J x y (by omega) (by simp (disch := omega) only [up2_ne, up2_r, rs_same, rs_ne, and_self]; rw [s1]; exact t1) (by simp (disch := omega) only [up2_ne, up2_r, rs_same, rs_ne, and_self]; rw [f3]; exact g3)
      rw [show up2 I 16 x.toNat y 58 = I 58 from up2_ne _ _ _ (by omega), show up2 I 16 x.toNat y 69 = I 69 from up2_ne _ _ _ (by omega), s1, f3, s7, if_pos c, if_pos c2] at m1
      refine ⟨_, _, _, _, _, _, _, k1, ⟨h0, by simp (disch := omega) only [up2_ne, up2_r, rs_same, rs_ne, and_self]; exact h0'⟩, m1, ⟨h0, by simp (disch := omega) only [up2_ne, up2_r, rs_same, rs_ne, and_self]; exact h0'⟩, FL_x hF (by unfold FLe; simp (disch := omega) only [up2_ne, up2_r, rs_same, rs_ne, and_self]), ?_, SN_x hN (by unfold SNe; simp (disch := omega) only [up2_ne, up2_r, rs_same, rs_ne, and_self]), TP_x hT (by unfold TPe; simp (disch := omega) only [up2_ne, up2_r, rs_same, rs_ne, and_self]), CH_x hC (by unfold CHe; simp (disch := omega) only [up2_ne, up2_r, rs_same, rs_ne, and_self]), AT_x hA (by unfold ATe; simp (disch := omega) only [up2_ne, up2_r, rs_same, rs_ne, and_self]), SH_x hH (by unfold SHe; simp (disch := omega) only [up2_ne, up2_r, rs_same, rs_ne, and_self]), LW_x hL (by unfold LWe; simp (disch := omega) only [up2_ne, up2_r, rs_same, rs_ne, and_self])⟩
      unfold ST
      simp (disch := omega) only [up2_ne, up2_r, rs_same, rs_ne, and_self]
      rw [s7]
      refine ⟨t1, t2, t3, t4, ?_, ?_, s1, s2, s3, s4, s5, s6, rfl⟩
      · intro j hj
        rw [rs_at]
        split
        · omega
        · exact t5 j hj
      · have key : ∀ j, j < (I 10 6).toNat → j ≠ x.toNat → I 16 j = y → y = -1 := by
          intro j hj hjx e
          rcases c2 with c2 | c2 | c2
          · exact c2
          · exact absurd e (sit1_no c2 j hj)
          · obtain ⟨q1, q2⟩ := sit1_is c2 c.1.1
            have := t6 j x.toNat hj q1 hjx (by rw [e, q2])
            omega
        intro i j hi hj hij e
        rw [rs_at] at e ⊢
        rw [rs_at] at e
        by_cases ci : i = x.toNat
        · rw [if_pos ci] at e ⊢
          rw [if_neg (by omega)] at e
          exact key j hj (by omega) e.symm
        · rw [if_neg ci] at e ⊢
          by_cases cj : j = x.toNat
          · rw [if_pos cj] at e
            have := key i hi ci e
            omega
          · rw [if_neg cj] at e
            exact t6 i j hi hj hij e
    · rw [if_neg c2] at k1 m0
      exact Stp_id h k1 m0
  · rw [if_neg c] at k1 m0
    exact Stp_id h k1 m0
theorem q_99 (L : Nat) (B : Nat → Int) (t d : Nat) (w : Nat × Bool) (I J : Nat → Nat → Int) (a x : Int) (hd : 1000 ≤ d) (ht : t ≤ 1000) (h : Inv L B t w I J) : StpI L B t w I J d 99 149 [vi a, vi x] := by
  obtain ⟨⟨h0, h0'⟩, hF, hS, hN, hT, hC, hA, hH, hL⟩ := id h
  obtain ⟨n1, n2, n3, n4, n5, n6⟩ := id hN
  obtain ⟨hr, hg⟩ := Inv_rX h ht
  obtain ⟨_, _, _, b1, b2, b3⟩ := id hL
  have h235 := hg.2.2.2.2.2.2.2.2
  have k1 := s_99 d w I J a x (by omega) h235
  by_cases c0 : a = 0 ∧ 0 ≤ x ∧ x ≤ 60
  · rw [if_pos c0] at k1
    have m1 := s_149 d w (up2 I 23 3 x) J a x (by omega)
    rw [if_pos c0, show up2 I 23 3 x 58 = I 58 from up2_ne _ _ _ (by omega), n4] at m1
    refine ⟨_, _, _, _, _, _, _, k1, ⟨h0, by simp (disch := omega) only [up2_ne, up2_r, rs_same, rs_ne, and_self]; exact h0'⟩, m1, ⟨h0, by simp (disch := omega) only [up2_ne, up2_r, rs_same, rs_ne, and_self]; exact h0'⟩, FL_x hF (by unfold FLe; simp (disch := omega) only [up2_ne, up2_r, rs_same, rs_ne, and_self]), ST_x hS (by unfold STe; simp (disch := omega) only [up2_ne, up2_r, rs_same, rs_ne, and_self]), ?_, TP_x hT (by unfold TPe; simp (disch := omega) only [up2_ne, up2_r, rs_same, rs_ne, and_self]), CH_x hC (by unfold CHe; simp (disch := omega) only [up2_ne, up2_r, rs_same, rs_ne, and_self]), AT_x hA (by unfold ATe; simp (disch := omega) only [up2_ne, up2_r, rs_same, rs_ne, and_self]), SH_x hH (by unfold SHe; simp (disch := omega) only [up2_ne, up2_r, rs_same, rs_ne, and_self]), LW_x hL (by unfold LWe; simp (disch := omega) only [up2_ne, up2_r, rs_same, rs_ne, and_self])⟩
    unfold SN
    simp (disch := omega) only [up2_ne, up2_r, rs_same, rs_ne, and_self]
    exact ⟨c0.2, n2, n3, trivial, n5, n6⟩
  · rw [if_neg c0] at k1
    by_cases c1 : a = 1 ∧ 0 ≤ x ∧ x ≤ 9
    · rw [if_pos c1] at k1
      have m1 := s_149 d w (up2 (up2 I 23 4 x) 23 5 (I 23 5 + 1)) J a x (by omega)
      rw [if_neg c0, if_pos c1, show up2 (up2 I 23 4 x) 23 5 (I 23 5 + 1) 58 = I 58 by simp (disch := omega) only [up2_ne, up2_r, rs_same, rs_ne, and_self], n5] at m1
      refine ⟨_, _, _, _, _, _, _, k1, ⟨h0, by simp (disch := omega) only [up2_ne, up2_r, rs_same, rs_ne, and_self]; exact h0'⟩, m1, ⟨h0, by simp (disch := omega) only [up2_ne, up2_r, rs_same, rs_ne, and_self]; exact h0'⟩, FL_x hF (by unfold FLe; simp (disch := omega) only [up2_ne, up2_r, rs_same, rs_ne, and_self]), ST_x hS (by unfold STe; simp (disch := omega) only [up2_ne, up2_r, rs_same, rs_ne, and_self]), ?_, TP_x hT (by unfold TPe; simp (disch := omega) only [up2_ne, up2_r, rs_same, rs_ne, and_self]), CH_x hC (by unfold CHe; simp (disch := omega) only [up2_ne, up2_r, rs_same, rs_ne, and_self]), AT_x hA (by unfold ATe; simp (disch := omega) only [up2_ne, up2_r, rs_same, rs_ne, and_self]), SH_x hH (by unfold SHe; simp (disch := omega) only [up2_ne, up2_r, rs_same, rs_ne, and_self]), LW_b hL ?_ (by simp (disch := omega) only [up2_ne, up2_r, rs_same, rs_ne, and_self]) (by simp (disch := omega) only [up2_ne, up2_r, rs_same, rs_ne, and_self]) (by simp (disch := omega) only [up2_ne, up2_r, rs_same, rs_ne, and_self]) (by simp (disch := omega) only [up2_ne, up2_r, rs_same, rs_ne, and_self]) ?_ (by simp (disch := omega) only [up2_ne, up2_r, rs_same, rs_ne, and_self]) (by simp (disch := omega) only [up2_ne, up2_r, rs_same, rs_ne, and_self]) (by simp (disch := omega) only [up2_ne, up2_r, rs_same, rs_ne, and_self]) (by simp (disch := omega) only [up2_ne, up2_r, rs_same, rs_ne, and_self]) (by simp (disch := omega) only [up2_ne, up2_r, rs_same, rs_ne, and_self]) (by simp (disch := omega) only [up2_ne, up2_r, rs_same, rs_ne, and_self]) (by simp (disch := omega) only [up2_ne, up2_r, rs_same, rs_ne, and_self]; omega) (by simp (disch := omega) only [up2_ne, up2_r, rs_same, rs_ne, and_self]; omega) (by simp (disch := omega) only [up2_ne, up2_r, rs_same, rs_ne, and_self]; omega)⟩
      · unfold SN
        simp (disch := omega) only [up2_ne, up2_r, rs_same, rs_ne, and_self]
        exact ⟨n1, c1.2, n3, n4, trivial, n6⟩
      · unfold GC at hg ⊢
        simp (disch := omega) only [up2_ne, up2_r, rs_same, rs_ne, and_self]
        exact ⟨hg.1, hg.2.1, hg.2.2.1, hg.2.2.2.1, hg.2.2.2.2.1, c1.2, hg.2.2.2.2.2.2.1, hg.2.2.2.2.2.2.2.1, by omega⟩
      · unfold st
        simp (disch := omega) only [up2_ne, up2_r, rs_same, rs_ne, and_self]
        omega
    · rw [if_neg c1] at k1
      by_cases c2 : a = 2 ∧ 0 ≤ x ∧ x ≤ 9
      · rw [if_pos c2] at k1
        have m1 := s_149 d w (up2 I 32 2 x) J a x (by omega)
        rw [if_neg c0, if_neg c1, if_pos c2, show up2 I 32 2 x 58 = I 58 from up2_ne _ _ _ (by omega), n6] at m1
        refine ⟨_, _, _, _, _, _, _, k1, ⟨h0, by simp (disch := omega) only [up2_ne, up2_r, rs_same, rs_ne, and_self]; exact h0'⟩, m1, ⟨h0, by simp (disch := omega) only [up2_ne, up2_r, rs_same, rs_ne, and_self]; exact h0'⟩, FL_x hF (by unfold FLe; simp (disch := omega) only [up2_ne, up2_r, rs_same, rs_ne, and_self]), ST_x hS (by unfold STe; simp (disch := omega) only [up2_ne, up2_r, rs_same, rs_ne, and_self]), ?_, TP_x hT (by unfold TPe; simp (disch := omega) only [up2_ne, up2_r, rs_same, rs_ne, and_self]), CH_x hC (by unfold CHe; simp (disch := omega) only [up2_ne, up2_r, rs_same, rs_ne, and_self]), AT_x hA (by unfold ATe; simp (disch := omega) only [up2_ne, up2_r, rs_same, rs_ne, and_self]), SH_x hH (by unfold SHe; simp (disch := omega) only [up2_ne, up2_r, rs_same, rs_ne, and_self]), LW_x hL (by unfold LWe; simp (disch := omega) only [up2_ne, up2_r, rs_same, rs_ne, and_self])⟩
        unfold SN
        simp (disch := omega) only [up2_ne, up2_r, rs_same, rs_ne, and_self]
        exact ⟨n1, n2, c2.2, n4, n5, trivial⟩
      · rw [if_neg c2] at k1
        have m1 := s_149 d w I J a x (by omega)
        rw [if_neg c0, if_neg c1, if_neg c2] at m1
        exact Stp_id h k1 m1
theorem q_102 (L : Nat) (B : Nat → Int) (t d : Nat) (w : Nat × Bool) (I J : Nat → Nat → Int) (x : Int) (hd : 1000 ≤ d) (ht : t ≤ 1000) (h : Inv L B t w I J) : StpI L B t w I J d 102 157 [vi x] := by
  obtain ⟨⟨h0, h0'⟩, hF, hS, hN, hT, hC, hA, hH, hL⟩ := id h
  obtain ⟨p1, p2, p3⟩ := id hT
  have k1 := s_102 d w I J x (by omega) p1
  have m0 := s_157 d w I J x (by omega) (by rw [p2]; exact p1)
  by_cases c : 0 ≤ x ∧ x ≤ 255
  · rw [if_pos c] at k1 m0
    by_cases c2 : I 17 1 = 120
    · rw [if_pos c2] at k1
      rw [if_pos (by rw [p2]; exact c2)] at m0
      exact Stp_id h k1 m0
    · rw [if_neg c2] at k1
      have e58 : up2 (up2 I 18 (I 17 1).toNat x) 17 1 (I 17 1 + 1) 58 27 = I 17 1 := by simp (disch := omega) only [up2_ne, up2_r, rs_same, rs_ne, and_self]; exact p2
      have m1 := s_157 d w (up2 (up2 I 18 (I 17 1).toNat x) 17 1 (I 17 1 + 1)) J x (by omega) (by rw [e58]; exact p1)
      rw [if_pos c, e58, if_neg c2] at m1
      refine ⟨_, _, _, _, _, _, _, k1, ⟨h0, by simp (disch := omega) only [up2_ne, up2_r, rs_same, rs_ne, and_self]; exact h0'⟩, m1, ⟨h0, by simp (disch := omega) only [up2_ne, up2_r, rs_same, rs_ne, and_self]; exact h0'⟩, FL_x hF (by unfold FLe; simp (disch := omega) only [up2_ne, up2_r, rs_same, rs_ne, and_self]), ST_x hS (by unfold STe; simp (disch := omega) only [up2_ne, up2_r, rs_same, rs_ne, and_self]), SN_x hN (by unfold SNe; simp (disch := omega) only [up2_ne, up2_r, rs_same, rs_ne, and_self]), ?_, CH_x hC (by unfold CHe; simp (disch := omega) only [up2_ne, up2_r, rs_same, rs_ne, and_self]), AT_x hA (by unfold ATe; simp (disch := omega) only [up2_ne, up2_r, rs_same, rs_ne, and_self]), SH_x hH (by unfold SHe; simp (disch := omega) only [up2_ne, up2_r, rs_same, rs_ne, and_self]), LW_x hL (by unfold LWe; simp (disch := omega) only [up2_ne, up2_r, rs_same, rs_ne, and_self])⟩
      have hb : i2b (i2b x) = x ∨ (i2b (i2b x) < 0 ∧ 128 ≤ x) := by
        by_cases q : x < 128
        · left
          have e1 : i2b x = x := i2b_s (by omega)
          rw [e1, e1]
        · right
          have e1 : i2b x = x - 256 := by
            unfold i2b
            rw [Int.bmod_def]
            split <;> omega
          rw [e1, i2b_s (by omega)]
          omega
      unfold TP
      simp (disch := omega) only [up2_ne, up2_r, rs_same, rs_ne, and_self]
      refine ⟨by omega, trivial, fun p hp => ?_⟩
      rw [rs_at, rs_at]
      by_cases q : p = (I 17 1).toNat
      · rw [if_pos q, if_pos q]; exact ⟨c, hb⟩
      · rw [if_neg q, if_neg q]; exact p3 p (by omega)
  · rw [if_neg c] at k1 m0
    exact Stp_id h k1 m0
