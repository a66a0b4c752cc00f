/-! rest and hush of the class, whole -/
theorem s_88 (d : Nat) (w : Nat × Bool) (I J : Nat → Nat → Int) (f : Int → Int → Int → Int → Int) (m h : Int) (hd : 14 ≤ d) (hK : KC f w I) (hS : SC I) (hs : seR (I 16) (I 10 6).toNat) (hh : h = -1 ∨ (0 ≤ h ∧ h < I 10 6)) :
    ∃ I', semC d 88 [vr 25, vi m, vi h] (mk w I J) = some (some (vi (if VN (Lc f I) (I 23 3) (I 16) (I 11) h (I 10 6).toNat (decide (m ≠ 0)) = 0 then -2 else VN (Lc f I) (I 23 3) (I 16) (I 11) h (I 10 6).toNat (decide (m ≠ 0)))), mk w I' J) ∧ eV I I' ∧ KC f w I' ∧ ∀ i, i < (I 10 6).toNat → I' 26 i = VF (Lc f I) (I 23 3) (I 16) (I 11) h (I 10 6).toNat (decide (m ≠ 0)) i := by
  obtain ⟨e, rfl⟩ : ∃ e, d = e + 1 := ⟨d - 1, by omega⟩
  obtain ⟨hn, h11, h12, h23⟩ := id hS
  have e1 : ((I 10 6).toNat : Int) = I 10 6 := Int.toNat_of_nonneg hn.1
  rw [e_88, b_88_0]
  obtain ⟨I1, l1, l2, l3, l4⟩ := lpE (fun (i : Nat) (b : Nat → Nat → Int) => Sem e 88 2 [some (vr 25), some (vi m), some (vi h), some (vi (i : Int))] [] (mk w b J)) (fun i b => eV I b ∧ KC f w b ∧ ∀ j, j < i → b 26 j = if decide (m ≠ 0) = true then 99 else I 11 j) (I 10 6).toNat (by
    rintro i b hi ⟨he, hk, hP⟩
    try dsimp only at he hk hP ⊢
    have hi' := nat_lt hi
    have g10 := he 10 (by omega) (by omega) (by omega) (by omega) (by omega)
    have g11 := he 11 (by omega) (by omega) (by omega) (by omega) (by omega)
    refine ⟨up2 b 26 i (if decide (m ≠ 0) = true then 99 else I 11 i), ?_, eV_u he 26 i _ (Or.inl rfl), KC_u hk 26 i _ (by omega), ?_⟩
    · rw [b_88_2, g10, if_pos (by omega), b_88_13]
      by_cases c : m = 0
      · rw [if_pos c, b_88_27, if_pos (by omega), nat_i, b_88_36, if_pos (by omega), nat_i, wr_n1 (by omega), g11, if_neg (by simp [c])]
      · rw [if_neg c, b_88_22, b_88_36, if_pos (by omega), nat_i, wr_n1 (by omega), if_pos (by simp [c])]
    · intro j hj
      by_cases c : j = i
      · subst c; rw [up2_s]
      · rw [up2_sne _ _ _ c]; exact hP j (by omega)) I ⟨eV_r I, hK, fun j hj => absurd hj (by omega)⟩
  try dsimp only at l1 l2 l3 l4
  rw [e1, show ((0 : Nat) : Int) = 0 from rfl] at l1
  have g10 := l2 10 (by omega) (by omega) (by omega) (by omega) (by omega)
  obtain ⟨I2, m1, m2, m3, m4⟩ : ∃ I2, Sem e 88 43 [some (vr 25), some (vi m), some (vi h), some (vi (I 10 6))] [] (mk w I1 J) = Sem e 88 57 [some (vr 25), some (vi m), some (vi h), some (vi (((0 : Nat) : Int) + 1))] [] (mk w I2 J) ∧ eV I I2 ∧ KC f w I2 ∧ ∀ j, j < (I 10 6).toNat → I2 26 j = VV (Lc f I) (I 23 3) (I 16) (I 11) h (I 10 6).toNat (decide (m ≠ 0)) 0 j := by
    rw [b_88_43]
    by_cases c : h = -1
    · refine ⟨I1, ?_, l2, l3, ?_⟩
      · rw [if_pos c, b_88_55]; rfl
      · intro j hj
        rw [l4 j hj]
        unfold VV
        rw [if_neg (show ¬ (j : Int) = h by omega)]
    · refine ⟨up2 I1 26 h.toNat 0, ?_, eV_u l2 26 _ _ (Or.inl rfl), KC_u l3 26 _ _ (by omega), ?_⟩
      · rw [if_neg c, b_88_48, if_pos (by omega), b_88_55]; rfl
      · intro j hj
        unfold VV
        by_cases c2 : (j : Int) = h
        · rw [if_pos c2, show h.toNat = j by omega, up2_s]
        · rw [if_neg c2, up2_sne _ _ _ (by omega), l4 j hj]
  rw [l1.trans (show _ = _ by rw [b_88_2, g10, if_neg (by omega)]), m1]
  refine lpQ (fun (u : Nat) (b : Nat → Nat → Int) => Sem e 88 57 [some (vr 25), some (vi m), some (vi h), some (vi ((u : Int) + 1))] [] (mk w b J))
    (fun u b => eV I b ∧ KC f w b ∧ (∀ j, j < (I 10 6).toNat → b 26 j = VV (Lc f I) (I 23 3) (I 16) (I 11) h (I 10 6).toNat (decide (m ≠ 0)) u j) ∧ ∀ j, j < u → VQ (Lc f I) (I 23 3) (I 16) (I 11) h (I 10 6).toNat (decide (m ≠ 0)) j = false)
    (fun o => ∃ I', o = some (some (vi (if VN (Lc f I) (I 23 3) (I 16) (I 11) h (I 10 6).toNat (decide (m ≠ 0)) = 0 then -2 else VN (Lc f I) (I 23 3) (I 16) (I 11) h (I 10 6).toNat (decide (m ≠ 0)))), mk w I' J) ∧ eV I I' ∧ KC f w I' ∧ ∀ i, i < (I 10 6).toNat → I' 26 i = VF (Lc f I) (I 23 3) (I 16) (I 11) h (I 10 6).toNat (decide (m ≠ 0)) i) 100 ?_ ?_ I2 ⟨m2, m3, m4, fun j hj => absurd hj (by omega)⟩
  · rintro u b hu ⟨he, hk, hP, hN⟩
    try dsimp only at he hk hP hN ⊢
    have g10 := he 10 (by omega) (by omega) (by omega) (by omega) (by omega)
    have g16 := he 16 (by omega) (by omega) (by omega) (by omega) (by omega)
    obtain ⟨I3, k1, k2, k3, k4⟩ := s_89 e w b J f h (by omega) hk (SC_v hS he) (by rw [g10, g16]; exact hs) (by
      rw [g10]
      intro j hj
      rw [hP j hj]
      exact VV_R h11 u j)
    rw [Lc_v he, g10, g16, he 11 (by omega) (by omega) (by omega) (by omega) (by omega), he 23 (by omega) (by omega) (by omega) (by omega) (by omega)] at k1 k4
    have hx : ∀ i, i < (I 10 6).toNat → nxv (Lc f I) (I 23 3) (I 16) (I 11) h (I 10 6).toNat (b 26) i = VV (Lc f I) (I 23 3) (I 16) (I 11) h (I 10 6).toNat (decide (m ≠ 0)) (u + 1) i := fun i hi => nxv_ext hi hP
    have hq : ex (fun i => decide (nxv (Lc f I) (I 23 3) (I 16) (I 11) h (I 10 6).toNat (b 26) i ≠ b 26 i)) (I 10 6).toNat = !VQ (Lc f I) (I 23 3) (I 16) (I 11) h (I 10 6).toNat (decide (m ≠ 0)) u := by
      unfold VQ
      rw [Bool.not_not, Bool.eq_iff_iff, ex_iff, ex_iff]
      constructor
      · rintro ⟨k, hk, h⟩
        refine ⟨k, hk, ?_⟩
        rw [← hx k hk, ← hP k hk]; exact h
      · rintro ⟨k, hk, h⟩
        refine ⟨k, hk, ?_⟩
        rw [hx k hk, hP k hk]; exact h
    rw [hq] at k1
    rw [b_88_57, if_neg (by omega), b_88_63, semK_of k1]
    simp only [mpush]
    rw [b_88_68]
    cases c : VQ (Lc f I) (I 23 3) (I 16) (I 11) h (I 10 6).toNat (decide (m ≠ 0)) u
    · left
      refine ⟨I3, ?_, eV_t he k2, k3, ?_, ?_⟩
      · rw [Bool.not_false, b2_t, if_neg (by omega), b_88_73, wr_if (by omega)]; rfl
      · intro j hj
        rw [k4 j hj, hx j hj]
      · intro j hj
        by_cases c2 : j = u
        · subst c2; exact c
        · exact hN j (by omega)
    · right
      obtain ⟨v1, v2⟩ := VNF_s hu c hN
      refine ⟨I3, ?_, eV_t he k2, k3, ?_⟩
      · rw [Bool.not_true, b2_f, if_pos rfl, b_88_71, v1, if_neg (by omega)]; rfl
      · intro j hj
        rw [v2, k4 j hj, hx j hj]
  · rintro b ⟨he, hk, hP, hN⟩
    try dsimp only at he hk hP hN ⊢
    obtain ⟨v1, v2⟩ := VNF_n hN
    refine ⟨b, ?_, he, hk, ?_⟩
    · rw [b_88_57, if_pos (by omega), b_88_79, v1, if_pos rfl]
    · intro j hj
      rw [v2, hP j hj]
def restR (n : Int) (V : Int → Bool → Nat) (F : Int → Bool → Nat → Int) (x y : Int) : Int :=
  if (0 ≤ x ∧ x ≤ 1) ∧ (y = -1 ∨ (0 ≤ y ∧ y < n)) then (if V (-1) (decide (x ≠ 0)) = 0 then -2 else if y = -1 then (V (-1) (decide (x ≠ 0)) : Int) else F (-1) (decide (x ≠ 0)) y.toNat) else -1
theorem s_110 (d : Nat) (w : Nat × Bool) (I J : Nat → Nat → Int) (f : Int → Int → Int → Int → Int) (x y : Int) (hd : 15 ≤ d) (hK : KC f w I) (hS : SC I) (hs : seR (I 16) (I 10 6).toNat) :
    ∃ I', semC d 110 [vr 3, vi x, vi y] (mk w I J) = some (some (vi (restR (I 10 6) (fun h m => VN (Lc f I) (I 23 3) (I 16) (I 11) h (I 10 6).toNat m) (fun h m => VF (Lc f I) (I 23 3) (I 16) (I 11) h (I 10 6).toNat m) x y)), mk w I' J) ∧ eV I I' ∧ KC f w I' := by
  obtain ⟨e, rfl⟩ : ∃ e, d = e + 1 := ⟨d - 1, by omega⟩
  obtain ⟨hn, h11, h12, h23⟩ := id hS
  rw [e_110]
  unfold restR
  by_cases c1 : 0 ≤ x ∧ x ≤ 1
  · by_cases c2 : y = -1 ∨ (0 ≤ y ∧ y < I 10 6)
    · rw [if_pos ⟨c1, c2⟩]
      obtain ⟨m, hm0, hm1, hm⟩ : ∃ m : Int, (x = 1 → m = 1) ∧ (x ≠ 1 → m = 0) ∧ decide (m ≠ 0) = decide (x ≠ 0) := by
        by_cases c : x = 1
        · exact ⟨1, fun _ => rfl, fun h => absurd c h, by subst c; rfl⟩
        · exact ⟨0, fun h => absurd h c, fun _ => rfl, by rw [show x = 0 by omega]⟩
      obtain ⟨I3, k1, k2, k3, k4⟩ := s_88 e w I J f m (-1) (by omega) hK hS hs (Or.inl rfl)
      rw [hm] at k1 k4
      have hVR := VN_R (Lc f I) (I 23 3) (I 16) (I 11) (-1) (I 10 6).toNat (decide (x ≠ 0))
      refine ⟨I3, ?_, k2, k3⟩
      generalize hV : VN (Lc f I) (I 23 3) (I 16) (I 11) (-1) (I 10 6).toNat (decide (x ≠ 0)) = V at k1 hVR
      have hgo : Sem e 110 29 [some (vr 3), some (vi x), some (vi y), none] [] (mk w I J) = some (some (vi (if V = 0 then -2 else if y = -1 then (V : Int) else VF (Lc f I) (I 23 3) (I 16) (I 11) (-1) (I 10 6).toNat (decide (x ≠ 0)) y.toNat)), mk w I3 J) := by
        have hst : Sem e 110 29 [some (vr 3), some (vi x), some (vi y), none] [] (mk w I J) = Sem e 110 43 [some (vr 3), some (vi x), some (vi y), none] [vi m, vr 25] (mk w I J) := by
          rw [b_110_29]
          by_cases c : x = 1
          · rw [if_pos c, b_110_38, hm0 c]
          · rw [if_neg c, b_110_42, hm1 c]
        rw [hst, b_110_43, semK_of k1]
        simp only [mpush]
        rw [b_110_47]
        by_cases c3 : V = 0
        · rw [if_pos c3, if_pos rfl, if_pos c3, b_110_59]
        · rw [if_neg c3, if_neg (by omega), if_neg c3, b_110_54]
          by_cases c4 : y = -1
          · rw [if_pos c4, if_pos c4, b_110_59]
          · rw [if_neg c4, if_neg c4, b_110_61, if_pos (by omega), k4 _ (by omega)]
      by_cases c4 : y = -1
      · simp (disch := omega) only [b_110_0, b_110_6, b_110_9, b_110_11, b_110_16, b_110_24, s_133 _ _ _ _ _ _ _ _, s_80 _ _ _ _ _ _, semK, Option.bind_some, mpush, wr_if, wr_tdiv, if_pos, if_neg, ↓reduceIte, b2_t, b2_f, Bool.false_eq_true, up2_ne, up2_sne, up2_s, true_or, or_true, true_and, and_true, false_and, and_false, false_or, or_false, hgo]
        rw [hV]
      · simp (disch := omega) only [b_110_0, b_110_6, b_110_9, b_110_11, b_110_16, b_110_24, s_133 _ _ _ _ _ _ _ _, s_80 _ _ _ _ _ _, semK, Option.bind_some, mpush, wr_if, wr_tdiv, if_pos, if_neg, ↓reduceIte, b2_t, b2_f, Bool.false_eq_true, up2_ne, up2_sne, up2_s, true_or, or_true, true_and, and_true, false_and, and_false, false_or, or_false, hgo]
        rw [hV]
    · refine ⟨I, ?_, eV_r I, hK⟩
      simp (disch := omega) only [b_110_0, b_110_6, b_110_9, b_110_11, b_110_16, b_110_24, b_110_27, s_133 _ _ _ _ _ _ _ _, s_80 _ _ _ _ _ _, semK, Option.bind_some, mpush, wr_if, wr_tdiv, if_pos, if_neg, ↓reduceIte, b2_t, b2_f, Bool.false_eq_true, up2_ne, up2_sne, up2_s, true_or, or_true, true_and, and_true, false_and, and_false, false_or, or_false]
  · refine ⟨I, ?_, eV_r I, hK⟩
    simp (disch := omega) only [b_110_0, b_110_6, b_110_9, s_133 _ _ _ _ _ _ _ _, semK, Option.bind_some, mpush, wr_if, wr_tdiv, if_pos, if_neg, ↓reduceIte, b2_t, b2_f, Bool.false_eq_true, up2_ne, up2_sne, up2_s, true_or, or_true, true_and, and_true, false_and, and_false, false_or, or_false]
/-- the first with the least -/
def lst (S : Nat → Int) : Nat → Int × Int
  | 0 => (0, S 0)
  | k + 1 => if S (k + 1) < (lst S k).2 then ((k : Int) + 1, S (k + 1)) else lst S k
theorem lst_s (S : Nat → Int) (k : Nat) : lst S (k + 1) = if S (k + 1) < (lst S k).2 then ((k : Int) + 1, S (k + 1)) else lst S k := rfl
theorem lst_R (S : Nat → Int) : ∀ k, 0 ≤ (lst S k).1
  | 0 => Int.le_refl _
  | k + 1 => by
    have := lst_R S k
    rw [lst_s]
    split
    · show (0 : Int) ≤ (k : Int) + 1
      omega
    · exact this
def hushR (n : Int) (F : Int → Bool → Nat → Int) : Int := if n = 0 then -2 else (lst (fun h => sm (F h false) n.toNat) (n.toNat - 1)).1
theorem s_91 (d : Nat) (w : Nat × Bool) (I J : Nat → Nat → Int) (f : Int → Int → Int → Int → Int) (hd : 15 ≤ d) (hK : KC f w I) (hS : SC I) (hs : seR (I 16) (I 10 6).toNat) (hn1 : 1 ≤ I 10 6) :
    ∃ I', semC d 91 [vr 25] (mk w I J) = some (some (vi (lst (fun h => sm (VF (Lc f I) (I 23 3) (I 16) (I 11) h (I 10 6).toNat false) (I 10 6).toNat) ((I 10 6).toNat - 1)).1), mk w I' J) ∧ eV I I' ∧ KC f w I' := by
  obtain ⟨e, rfl⟩ : ∃ e, d = e + 1 := ⟨d - 1, by omega⟩
  obtain ⟨hn, h11, h12, h23⟩ := id hS
  have e1 : ((I 10 6).toNat : Int) = I 10 6 := Int.toNat_of_nonneg hn.1
  rw [e_91, b_91_0]
  obtain ⟨⟨I1, y1, y2, z4, z5⟩, l1, l2, l3, l4⟩ := lpE (fun (u : Nat) (b : (Nat → Nat → Int) × Int × Int × Option mVal × Option mVal) => Sem e 91 6 [some (vr 25), some (vi b.2.1), some (vi b.2.2.1), some (vi (u : Int)), b.2.2.2.1, b.2.2.2.2] [] (mk w b.1 J)) (fun u b => eV I b.1 ∧ KC f w b.1 ∧ ((u = 0 ∧ b.2.1 = -1) ∨ ∃ k, u = k + 1 ∧ (b.2.1, b.2.2.1) = lst (fun h => sm (VF (Lc f I) (I 23 3) (I 16) (I 11) h (I 10 6).toNat false) (I 10 6).toNat) k)) (I 10 6).toNat (by
    rintro u ⟨b, y1, y2, z4, z5⟩ hu ⟨he, hk, hP⟩
    try dsimp only at he hk hP ⊢
    have hu' := nat_lt hu
    have g10 := he 10 (by omega) (by omega) (by omega) (by omega) (by omega)
    have g16 := he 16 (by omega) (by omega) (by omega) (by omega) (by omega)
    obtain ⟨I3, k1, k2, k3, k4⟩ := s_88 e w b J f 0 u (by omega) hk (SC_v hS he) (by rw [g10, g16]; exact hs) (Or.inr (by rw [g10]; omega))
    rw [Lc_v he, g10, g16, he 11 (by omega) (by omega) (by omega) (by omega) (by omega), he 23 (by omega) (by omega) (by omega) (by omega) (by omega), show decide ((0 : Int) ≠ 0) = false from rfl] at k4
    rw [b_91_6, g10, if_pos (by omega), b_91_17, semK_of k1]
    simp only [mpush]
    rw [b_91_23]
    have he3 := eV_t he k2
    have g10' := he3 10 (by omega) (by omega) (by omega) (by omega) (by omega)
    obtain ⟨-, q1, -⟩ := lpE (fun (j : Nat) (_ : Unit) => Sem e 91 30 [some (vr 25), some (vi y1), some (vi y2), some (vi (u : Int)), some (vi (sm (VF (Lc f I) (I 23 3) (I 16) (I 11) u (I 10 6).toNat false) j)), some (vi (j : Int))] [] (mk w I3 J)) (fun _ _ => True) (I 10 6).toNat (by
      intro j _ hj _
      have hj' := nat_lt hj
      have hV := VF_R (L := Lc f I) (M := I 23 3) (q := I 16) (voice := I 11) (h := u) (n := (I 10 6).toNat) (m := false) h11 j
      have hR := sm_R0 (g := VF (Lc f I) (I 23 3) (I 16) (I 11) u (I 10 6).toNat false) (B := 99) j (fun k _ => VF_R h11 k)
      refine ⟨(), ?_, trivial⟩
      rw [b_91_30, g10', if_pos (by omega), b_91_42, if_pos (by omega), nat_i, k4 j hj, wr_n1 (by omega), wr_if (by omega), sm_s]) () trivial
    try dsimp only at q1
    rw [e1] at q1
    have q2 : Sem e 91 30 [some (vr 25), some (vi y1), some (vi y2), some (vi (u : Int)), some (vi 0), some (vi 0)] [] (mk w I3 J) = Sem e 91 60 [some (vr 25), some (vi y1), some (vi y2), some (vi (u : Int)), some (vi (sm (VF (Lc f I) (I 23 3) (I 16) (I 11) u (I 10 6).toNat false) (I 10 6).toNat)), some (vi (I 10 6))] [] (mk w I3 J) := by
      refine q1.trans ?_
      rw [b_91_30, g10', if_neg (by omega)]
    rw [q2, b_91_60]
    rcases hP with ⟨p1, p2⟩ | ⟨k, p1, p2⟩
    · rw [if_pos p2, b_91_71, b_91_76, wr_n1 (by omega)]
      refine ⟨(I3, (u : Int), _, _, _), rfl, he3, k3, Or.inr ⟨0, by omega, ?_⟩⟩
      subst p1; rfl
    · have hb := lst_R (fun h : Nat => sm (VF (Lc f I) (I 23 3) (I 16) (I 11) h (I 10 6).toNat false) (I 10 6).toNat) k
      have p3 : y1 = (lst (fun h => sm (VF (Lc f I) (I 23 3) (I 16) (I 11) h (I 10 6).toNat false) (I 10 6).toNat) k).1 := by rw [← p2]
      have p4 : y2 = (lst (fun h => sm (VF (Lc f I) (I 23 3) (I 16) (I 11) h (I 10 6).toNat false) (I 10 6).toNat) k).2 := by rw [← p2]
      rw [if_neg (by omega), b_91_65]
      by_cases c : sm (VF (Lc f I) (I 23 3) (I 16) (I 11) u (I 10 6).toNat false) (I 10 6).toNat < y2
      · rw [if_pos c, b_91_71, b_91_76, wr_n1 (by omega)]
        refine ⟨(I3, (u : Int), _, _, _), rfl, he3, k3, Or.inr ⟨u, rfl, ?_⟩⟩
        subst p1
        rw [lst_s, if_pos (by rw [← p4]; exact c)]
        rfl
      · rw [if_neg c, b_91_76, wr_n1 (by omega)]
        refine ⟨(I3, y1, y2, _, _), rfl, he3, k3, Or.inr ⟨u, rfl, ?_⟩⟩
        subst p1
        rw [lst_s, if_neg (by rw [← p4]; exact c), ← p2]) (I, -1, 0, none, none) ⟨eV_r I, hK, Or.inl ⟨rfl, rfl⟩⟩
  try dsimp only at l1 l2 l3 l4
  rw [e1] at l1
  have g10 := l2 10 (by omega) (by omega) (by omega) (by omega) (by omega)
  refine ⟨I1, l1.trans ?_, l2, l3⟩
  rw [b_91_6, g10, if_neg (by omega), b_91_82]
  rcases l4 with ⟨p1, p2⟩ | ⟨k, p1, p2⟩
  · exfalso; omega
  · rw [show (I 10 6).toNat - 1 = k by omega, ← p2]
theorem s_111 (d : Nat) (w : Nat × Bool) (I J : Nat → Nat → Int) (f : Int → Int → Int → Int → Int) (hd : 16 ≤ d) (hK : KC f w I) (hS : SC I) (hs : seR (I 16) (I 10 6).toNat) :
    ∃ I', semC d 111 [vr 3] (mk w I J) = some (some (vi (hushR (I 10 6) (fun h m => VF (Lc f I) (I 23 3) (I 16) (I 11) h (I 10 6).toNat m))), mk w I' J) ∧ eV I I' ∧ KC f w I' := by
  obtain ⟨e, rfl⟩ : ∃ e, d = e + 1 := ⟨d - 1, by omega⟩
  obtain ⟨hn, h11, h12, h23⟩ := id hS
  rw [e_111, b_111_0]
  unfold hushR
  by_cases c : I 10 6 = 0
  · rw [if_pos c, if_pos c, b_111_10, b_111_22]
    exact ⟨I, rfl, eV_r I, hK⟩
  · obtain ⟨I3, k1, k2, k3⟩ := s_91 e w I J f (by omega) hK hS hs (by omega)
    rw [if_neg c, if_neg c, b_111_15, semK_of k1]
    simp only [mpush]
    rw [b_111_22]
    exact ⟨I3, rfl, k2, k3⟩
