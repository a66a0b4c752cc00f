/-! swaps, second half -/
theorem swNs {N : (Nat → Int) → Int} {n : Nat} {q : Nat → Int} {k : Nat} (hk : k < 50) (h1 : swE N n q k = true) (h2 : ∀ j, j < k → swE N n q j = false) : swN N n q = k := by
  unfold swN
  rw [fnd_eq h1 h2 50 hk]
theorem swNn {N : (Nat → Int) → Int} {n : Nat} {q : Nat → Int} (h2 : ∀ j, j < 50 → swE N n q j = false) : swN N n q = 50 := by
  unfold swN
  rw [fnd_no h2]
theorem s_53 (d : Nat) (w : Nat × Bool) (I J : Nat → Nat → Int) (f : Int → Int → Int → Int → Int) (hd : 15 ≤ d) (hK : KC f w I) (hS : SC I) (hs : seR (I 16) (I 10 6).toNat) :
    ∃ b', semC d 53 [vr 28] (mk w I J) = some (some (vi (swN (NC f I) (I 10 6).toNat (I 16))), mk w b' J) ∧ eS I b' ∧ KC f w b' ∧ agr (I 10 6).toNat (b' 30) (swQ (NC f I) (I 10 6).toNat (I 16) (swN (NC f I) (I 10 6).toNat (I 16))) ∧ seR (b' 30) (I 10 6).toNat := by
  obtain ⟨e, rfl⟩ : ∃ e, d = e + 1 := ⟨d - 1, by omega⟩
  have hn := hS.1
  have e1 : ((I 10 6).toNat : Int) = I 10 6 := Int.toNat_of_nonneg hn.1
  have hN : ∀ q q', agr (I 10 6).toNat q q' → NC f I q = NC f I q' := nt_ag
  have hC : cpy I 16 30 (0 : Int).toNat (0 : Int).toNat (I 10 6).toNat = sr I 30 (cr (I 16) (I 30) 0 0 (I 10 6).toNat) := by
    funext c
    rw [cpy_row]
    unfold sr
    rfl
  have hag : agr (I 10 6).toNat (cr (I 16) (I 30) 0 0 (I 10 6).toNat) (I 16) := by
    intro j hj
    unfold cr
    rw [if_pos (by omega)]
    simp
  have hs0 : seR (cr (I 16) (I 30) 0 0 (I 10 6).toNat) (I 10 6).toNat := by
    intro j hj
    rw [hag j hj]; exact hs j hj
  rw [e_53, b_53_0, if_pos (by omega), hC, ← swN_ag hN hag]
  generalize cr (I 16) (I 30) 0 0 (I 10 6).toNat = r0 at hag hs0
  have hfin : ∀ b k, eS I b → KC f w b → b 30 = swQ (NC f I) (I 10 6).toNat r0 k → eS I b ∧ KC f w b ∧ agr (I 10 6).toNat (b 30) (swQ (NC f I) (I 10 6).toNat (I 16) k) ∧ seR (b 30) (I 10 6).toNat := by
    intro b k h1 h2 h3
    refine ⟨h1, h2, ?_, ?_⟩
    · rw [h3]; exact swQ_ag hN hag k
    · rw [h3]; exact swQ_se hs0 k
  refine lpQ (fun (k : Nat) (b : Nat → Nat → Int) => Sem e 53 25 [some (vr 28), some (vi (k : Int))] [] (mk w b J)) (fun k b => eS I b ∧ KC f w b ∧ b 30 = swQ (NC f I) (I 10 6).toNat r0 k ∧ ∀ j, j < k → swE (NC f I) (I 10 6).toNat r0 j = false) (fun o => ∃ b', o = some (some (vi (swN (NC f I) (I 10 6).toNat r0)), mk w b' J) ∧ eS I b' ∧ KC f w b' ∧ agr (I 10 6).toNat (b' 30) (swQ (NC f I) (I 10 6).toNat (I 16) (swN (NC f I) (I 10 6).toNat r0)) ∧ seR (b' 30) (I 10 6).toNat) 50 ?_ ?_ (sr I 30 r0) ⟨eS_sr (eS_r I) _, KC_sr hK 30 _ (by omega), sr_s _ _ _, fun j hj => absurd hj (by omega)⟩
  · rintro k b hk ⟨p1, p2, p3, p4⟩
    try dsimp only at p1 p2 p3 p4 ⊢
    obtain ⟨b', q1, q2, q3, q4⟩ := s_54 e w I J f b _ (by omega) hS p1 p2 p3 (swQ_se hs0 k)
    rw [b_53_25, if_pos (by omega), b_53_31, semK_of q1]
    simp only [mpush]
    rw [b_53_35]
    by_cases c : (bpO (NC f I) (swQ (NC f I) (I 10 6).toNat r0 k) (I 10 6).toNat (I 10 6).toNat).2.1 = -1
    · right
      have hE : swE (NC f I) (I 10 6).toNat r0 k = true := decide_eq_true c
      have hk0 := swNs hk hE p4
      have q4' : b' 30 = swQ (NC f I) (I 10 6).toNat r0 k := by rw [q4]; unfold bpx; rw [if_pos c]
      rw [if_pos c, if_pos rfl, b_53_38, hk0]
      exact ⟨b', rfl, hfin b' k q2 q3 q4'⟩
    · left
      rw [if_neg c, if_neg (by omega), b_53_40, wr_n1 (by omega)]
      refine ⟨b', rfl, q2, q3, q4, ?_⟩
      intro j hj
      by_cases cj : j = k
      · subst cj; exact decide_eq_false c
      · exact p4 j (by omega)
  · rintro b ⟨p1, p2, p3, p4⟩
    try dsimp only at p1 p2 p3 p4 ⊢
    have hk0 := swNn p4
    rw [b_53_25, if_neg (by omega), b_53_46, hk0]
    exact ⟨b, rfl, hfin b 50 p1 p2 p3⟩
theorem s_113 (d : Nat) (w : Nat × Bool) (I J : Nat → Nat → Int) (f : Int → Int → Int → Int → Int) (x : Int) (hd : 16 ≤ d) (hK : KC f w I) (hS : SC I) (hs : seR (I 16) (I 10 6).toNat) :
    ∃ I', semC d 113 [vr 3, vi x] (mk w I J) = some (some (vi (swR (I 10 6) (NC f I) (I 16) x)), mk w I' J) ∧ eS I I' ∧ KC f w I' := by
  obtain ⟨e, rfl⟩ : ∃ e, d = e + 1 := ⟨d - 1, by omega⟩
  have hn := hS.1
  have hN : ∀ q q', agr (I 10 6).toNat q q' → NC f I q = NC f I q' := nt_ag
  obtain ⟨b, q1, q2, q3, q4, q5⟩ := s_53 e w I J f (by omega) hK hS hs
  rw [e_113]
  unfold swR
  by_cases c1 : x = -1
  · rw [if_pos c1]
    refine ⟨b, ?_, q2, q3⟩
    simp (disch := omega) only [b_113_0, b_113_25, b_113_32, b_113_38, semK, Option.bind_some, mpush, wr_if, wr_tdiv, if_pos, if_neg, ↓reduceIte, b2_t, b2_f, Bool.false_eq_true, up2_ne, up2_sne, up2_s, true_or, or_true, true_and, and_true, false_and, and_false, false_or, or_false, q1]
  · rw [if_neg c1]
    by_cases c2 : x = -2
    · rw [if_pos c2]
      obtain ⟨b', k1, k2, k3, k4⟩ := s_74s e w I J f b (b 30) (by omega) hS q2 q3 rfl q5
      refine ⟨b', ?_, k2, k3⟩
      rw [hN _ _ q4] at k1
      simp (disch := omega) only [b_113_0, b_113_5, b_113_25, b_113_32, b_113_40, b_113_46, b_113_60, semK, Option.bind_some, mpush, wr_if, wr_tdiv, if_pos, if_neg, ↓reduceIte, b2_t, b2_f, Bool.false_eq_true, up2_ne, up2_sne, up2_s, true_or, or_true, true_and, and_true, false_and, and_false, false_or, or_false, q1, k1]
    · rw [if_neg c2]
      by_cases c3 : 0 ≤ x ∧ x < I 10 6
      · rw [if_pos c3]
        refine ⟨b, ?_, q2, q3⟩
        simp (disch := omega) only [b_113_0, b_113_5, b_113_11, b_113_19, b_113_25, b_113_32, b_113_40, b_113_61, s_80 _ _ _ _ _ _, semK, Option.bind_some, mpush, wr_if, wr_tdiv, if_pos, if_neg, ↓reduceIte, b2_t, b2_f, Bool.false_eq_true, up2_ne, up2_sne, up2_s, true_or, or_true, true_and, and_true, false_and, and_false, false_or, or_false, q1]
        rw [q4 _ (by omega)]
      · rw [if_neg c3]
        refine ⟨I, ?_, eS_r I, hK⟩
        simp (disch := omega) only [b_113_0, b_113_5, b_113_11, b_113_19, b_113_22, s_80 _ _ _ _ _ _, semK, Option.bind_some, mpush, wr_if, wr_tdiv, if_pos, if_neg, ↓reduceIte, b2_t, b2_f, Bool.false_eq_true, up2_ne, up2_sne, up2_s, true_or, or_true, true_and, and_true, false_and, and_false, false_or, or_false]
/-- heaps of the reference that differ in the seats that are tried -/
def eX (I I' : Nat → Nat → Int) : Prop := ∀ c, c ≠ 69 → c ≠ 80 → c ≠ 81 → c ≠ 84 → c ≠ 85 → c ≠ 88 → I' c = I c
theorem eX_r (I : Nat → Nat → Int) : eX I I := fun _ _ _ _ _ _ _ => rfl
theorem eX_t {I I' I'' : Nat → Nat → Int} (h : eX I I') (h' : eX I' I'') : eX I I'' := fun c a1 a2 a3 a4 a5 a6 => (h' c a1 a2 a3 a4 a5 a6).trans (h c a1 a2 a3 a4 a5 a6)
theorem eX_M {I I' : Nat → Nat → Int} (h : eM I I') : eX I I' := fun c _ a2 a3 _ _ _ => h c a2 a3
theorem eX_sr {I I' : Nat → Nat → Int} (h : eX I I') (c : Nat) (hc : c = 69 ∨ c = 84 ∨ c = 85 ∨ c = 88) (r : Nat → Int) : eX I (sr I' c r) := fun c' a1 a2 a3 a4 a5 a6 => by rw [sr_ne _ _ (by omega), h c' a1 a2 a3 a4 a5 a6]
theorem KM_X {f : Int → Int → Int → Int → Int} {w : Nat × Bool} {I I' : Nat → Nat → Int} (h : KM f w I) (he : eX I I') : KM f w I' := by
  have h58 := he 58 (by omega) (by omega) (by omega) (by omega) (by omega) (by omega)
  refine KM_x h (by rw [h58]) (by rw [h58]) (by rw [h58]) (by rw [h58]) (he 59 (by omega) (by omega) (by omega) (by omega) (by omega) (by omega)) (he 60 (by omega) (by omega) (by omega) (by omega) (by omega) (by omega)) (by rw [he 63 (by omega) (by omega) (by omega) (by omega) (by omega) (by omega)]; exact h.1.2.2.2.2.1) (fun c h1 h2 => he c (by omega) (by omega) (by omega) (by omega) (by omega) (by omega))
theorem Lm_X {f : Int → Int → Int → Int → Int} {I I' : Nat → Nat → Int} (h : eX I I') : Lm f I' = Lm f I := by
  unfold Lm
  rw [h 58 (by omega) (by omega) (by omega) (by omega) (by omega) (by omega), h 59 (by omega) (by omega) (by omega) (by omega) (by omega) (by omega), h 60 (by omega) (by omega) (by omega) (by omega) (by omega) (by omega), h 61 (by omega) (by omega) (by omega) (by omega) (by omega) (by omega), h 62 (by omega) (by omega) (by omega) (by omega) (by omega) (by omega), h 63 (by omega) (by omega) (by omega) (by omega) (by omega) (by omega)]
theorem SM_X {I I' : Nat → Nat → Int} {r : Nat → Int} (h : SM I) (he : eX I I') (h69 : I' 69 = r) (hs : seR r (I 58 10).toNat) (hd : dst r (I 58 10).toNat) : SM I' := by
  unfold SM
  rw [he 58 (by omega) (by omega) (by omega) (by omega) (by omega) (by omega), he 64 (by omega) (by omega) (by omega) (by omega) (by omega) (by omega), he 65 (by omega) (by omega) (by omega) (by omega) (by omega) (by omega), h69]
  exact ⟨h.1, h.2.1, h.2.2.1, h.2.2.2.1, hs, hd⟩
def NM (f : Int → Int → Int → Int → Int) (I : Nat → Nat → Int) (q : Nat → Int) : Int := nt (Lm f I) (I 58 17) (I 66) (I 65) (I 64) q (I 58 10).toNat
theorem s_188s (d : Nat) (w : Nat × Bool) (I J : Nat → Nat → Int) (f : Int → Int → Int → Int → Int) (b : Nat → Nat → Int) (r : Nat → Int) (hd : 14 ≤ d) (hK : KM f w I) (hS : SM I) (he : eX I b) (hr : b 69 = r) (hs : seR r (I 58 10).toNat) (hds : dst r (I 58 10).toNat) :
    ∃ b', semC d 188 [vr 58] (mk w b J) = some (some (vi (NM f I r)), mk w b' J) ∧ eX I b' ∧ eM b b' ∧ b' 69 = r := by
  obtain ⟨b', k1, k2⟩ := s_188 d w b J f hd (KM_X hK he) (SM_X hS he hr hs hds)
  rw [Lm_X he, hr, he 58 (by omega) (by omega) (by omega) (by omega) (by omega) (by omega), he 64 (by omega) (by omega) (by omega) (by omega) (by omega) (by omega), he 65 (by omega) (by omega) (by omega) (by omega) (by omega) (by omega), he 66 (by omega) (by omega) (by omega) (by omega) (by omega) (by omega)] at k1
  exact ⟨b', k1, eX_t he (eX_M k2), k2, (k2 69 (by omega) (by omega)).trans hr⟩
theorem s_200 (d : Nat) (w : Nat × Bool) (I J : Nat → Nat → Int) (x y : Nat) (hd : 1 ≤ d) (hx : x < 10) (hy : y < 10) : semC d 200 [vr 58, vi x, vi y] (mk w I J) = some (none, mk w (sr I 69 (xch (I 69) x y)) J) := by
  obtain ⟨e, rfl⟩ : ∃ e, d = e + 1 := ⟨d - 1, by omega⟩
  rw [e_200, b_200_0, if_pos (by omega), if_pos (by omega), if_pos (by omega), if_pos (by omega), nat_i, nat_i, up2_sr I 69 x, sr_up]
  rfl
theorem s_196 (d : Nat) (w : Nat × Bool) (I J : Nat → Nat → Int) (hd : 1 ≤ d) (hn : 0 ≤ I 58 10 ∧ I 58 10 ≤ 10) : ∃ r, semC d 196 [vr 58] (mk w I J) = some (none, mk w (sr I 84 r) J) ∧ agr (I 58 10).toNat r (I 69) := by
  obtain ⟨e, rfl⟩ : ∃ e, d = e + 1 := ⟨d - 1, by omega⟩
  have e1 : ((I 58 10).toNat : Int) = I 58 10 := Int.toNat_of_nonneg hn.1
  rw [e_196, b_196_0]
  obtain ⟨r, l1, l2⟩ := lpE (fun (u : Nat) (r : Nat → Int) => Sem e 196 2 [some (vr 58), some (vi (u : Int))] [] (mk w (sr I 84 r) J)) (fun u r => agr u r (I 69)) (I 58 10).toNat (by
    intro u r hu hP
    have hu' := nat_lt hu
    refine ⟨rs r u (I 69 u), ?_, ?_⟩
    · try dsimp only
      rw [b_196_2, sr_ne _ _ (by omega), if_pos (by omega), b_196_10, if_pos (by omega), if_pos (by omega), nat_i, sr_up, wr_n1 (by omega), sr_ne _ _ (by omega)]
    · intro j hj
      rw [rs_at]
      by_cases c : j = u
      · rw [if_pos c, c]
      · rw [if_neg c]; exact hP j (by omega)) (I 84) (by intro j hj; omega)
  try dsimp only at l1
  rw [sr_self, e1] at l1
  refine ⟨r, l1.trans ?_, l2⟩
  rw [b_196_2, sr_ne _ _ (by omega), if_neg (by omega), b_196_28]
theorem s_197 (d : Nat) (w : Nat × Bool) (I J : Nat → Nat → Int) (hd : 1 ≤ d) (hn : 0 ≤ I 58 10 ∧ I 58 10 ≤ 10) : semC d 197 [vr 58] (mk w I J) = some (none, mk w (sr I 69 (fun k => if k < (I 58 10).toNat then I 84 k else I 69 k)) J) := by
  obtain ⟨e, rfl⟩ : ∃ e, d = e + 1 := ⟨d - 1, by omega⟩
  have e1 : ((I 58 10).toNat : Int) = I 58 10 := Int.toNat_of_nonneg hn.1
  rw [e_197, b_197_0]
  obtain ⟨-, l1, l2⟩ := lpE (fun (u : Nat) (_ : Unit) => Sem e 197 2 [some (vr 58), some (vi (u : Int))] [] (mk w (sr I 69 (fun k => if k < u then I 84 k else I 69 k)) J)) (fun u r => True) (I 58 10).toNat (by
    intro u _ hu hP
    have hu' := nat_lt hu
    refine ⟨(), ?_, trivial⟩
    try dsimp only
    rw [b_197_2, sr_ne _ _ (by omega), if_pos (by omega), b_197_10, if_pos (by omega), if_pos (by omega), nat_i, sr_up, wr_n1 (by omega), sr_ne _ _ (by omega)]
    have : rs (fun k => if k < u then I 84 k else I 69 k) u (I 84 u) = fun k => if k < u + 1 then I 84 k else I 69 k := by
      funext k
      rw [rs_at]
      by_cases c : k = u
      · subst c; rw [if_pos rfl, if_pos (by omega)]
      · rw [if_neg c]
        by_cases c2 : k < u
        · rw [if_pos c2, if_pos (by omega)]
        · rw [if_neg c2, if_neg (by omega)]
    rw [this]) () trivial
  try dsimp only at l1
  have h0 : sr I 69 (fun k => if k < 0 then I 84 k else I 69 k) = I := by
    conv => rhs; rw [← sr_self I 69]
    congr 1
  rw [h0, e1] at l1
  refine l1.trans ?_
  rw [b_197_2, sr_ne _ _ (by omega), if_neg (by omega), b_197_28]
theorem bpx_out {N : (Nat → Int) → Int} {n : Nat} {q : Nat → Int} {j : Nat} (hj : n ≤ j) : bpx N n q j = q j := by
  unfold bpx
  rcases bpO_ok (N := N) (q := q) (n := n) n (Nat.le_refl _) with h1 | h1
  · rw [if_pos h1.1]
  · rw [if_neg (by omega), xch_at, if_neg (by omega), if_neg (by omega)]
theorem swQ_out {N : (Nat → Int) → Int} {n : Nat} {q : Nat → Int} {j : Nat} (hj : n ≤ j) : ∀ k, swQ N n q k j = q j
  | 0 => rfl
  | k + 1 => (bpx_out hj).trans (swQ_out hj k)
/-- the search for the best exchange -/
theorem sw_rd (d : Nat) (w : Nat × Bool) (I J : Nat → Nat → Int) (f : Int → Int → Int → Int → Int) (e : Nat) (b : Nat → Nat → Int) (r : Nat → Int) (x1 x3 x4 : Int) (z5 z6 z7 z8 z9 z10 : Option mVal) (he : 14 ≤ e) (hK : KM f w I) (hS : SM I) (hx : eX I b) (hr : b 69 = r) (hs : seR r (I 58 10).toNat) (hds : dst r (I 58 10).toNat) :
    ∃ b' y8 y9 y10, Sem e 201 43 [some (vr 58), some (vi x1), some (vi (NM f I r)), some (vi x3), some (vi x4), z5, z6, z7, z8, z9, z10] [] (mk w b J) = Sem e 201 135 [some (vr 58), some (vi x1), some (vi (NM f I r)), some (vi x3), some (vi x4), some (vi (bpO (NM f I) r (I 58 10).toNat (I 58 10).toNat).2.1), some (vi (bpO (NM f I) r (I 58 10).toNat (I 58 10).toNat).2.2), some (vi (bpO (NM f I) r (I 58 10).toNat (I 58 10).toNat).1), some (vi y8), y9, y10] [] (mk w b' J) ∧ eX I b' ∧ b' 69 = r ∧ b' 84 = b 84 := by
  have hn := hS.1
  have e1 : ((I 58 10).toNat : Int) = I 58 10 := Int.toNat_of_nonneg hn.1
  rw [b_201_43]
  obtain ⟨⟨b2, y9, y10⟩, l1, l2, l3, l4⟩ := lpE (fun (a : Nat) (c : (Nat → Nat → Int) × Option mVal × Option mVal) => Sem e 201 55 [some (vr 58), some (vi x1), some (vi (NM f I r)), some (vi x3), some (vi x4), some (vi (bpO (NM f I) r (I 58 10).toNat a).2.1), some (vi (bpO (NM f I) r (I 58 10).toNat a).2.2), some (vi (bpO (NM f I) r (I 58 10).toNat a).1), some (vi (a : Int)), c.2.1, c.2.2] [] (mk w c.1 J)) (fun _ c => eX I c.1 ∧ c.1 69 = r ∧ c.1 84 = b 84) (I 58 10).toNat (by
    rintro a ⟨c, z9, z10⟩ ha ⟨p1, p2, p3⟩
    try dsimp only at p1 p2 p3 ⊢
    have ha' := nat_lt ha
    have g58 := p1 58 (by omega) (by omega) (by omega) (by omega) (by omega) (by omega)
    rw [b_201_55, g58, if_pos (by omega), b_201_64, wr_if (by omega)]
    obtain ⟨⟨c2, y10⟩, m1, m2, m3, m4⟩ := lpE (fun (k : Nat) (c : (Nat → Nat → Int) × Option mVal) => Sem e 201 70 [some (vr 58), some (vi x1), some (vi (NM f I r)), some (vi x3), some (vi x4), some (vi (bpI (NM f I) r a (bpO (NM f I) r (I 58 10).toNat a) k).2.1), some (vi (bpI (NM f I) r a (bpO (NM f I) r (I 58 10).toNat a) k).2.2), some (vi (bpI (NM f I) r a (bpO (NM f I) r (I 58 10).toNat a) k).1), some (vi (a : Int)), some (vi ((a + 1 + k : Nat) : Int)), c.2] [] (mk w c.1 J)) (fun _ c => eX I c.1 ∧ c.1 69 = r ∧ c.1 84 = b 84) ((I 58 10).toNat - (a + 1)) (by
      rintro k ⟨c, z10⟩ hk' ⟨p1, p2, p3⟩
      try dsimp only at p1 p2 p3 ⊢
      have g58 := p1 58 (by omega) (by omega) (by omega) (by omega) (by omega) (by omega)
      obtain ⟨c4, q5, q6, q7, q8⟩ := s_188s e w I J f (sr c 69 (xch r a (a + 1 + k))) (xch r a (a + 1 + k)) (by omega) hK hS (eX_sr p1 69 (by omega) _) (sr_s _ _ _) (xch_se hs (by omega) (by omega)) (xch_ds hds (by omega) (by omega) (by omega))
      have q9 := s_200 e w c4 J a (a + 1 + k) (by omega) (by omega) (by omega)
      rw [q8, xch_xch r (by omega)] at q9
      rw [b_201_70, g58, if_pos (by omega), b_201_79, semK_of (s_200 e w c J a (a + 1 + k) (by omega) (by omega) (by omega)), p2]
      simp only [mpush]
      rw [b_201_87, semK_of q5]
      simp only [mpush]
      rw [b_201_91, semK_of q9]
      simp only [mpush]
      rw [b_201_101, bpI_s]
      refine ⟨(sr c4 69 r, some (vi (NM f I (xch r a (a + 1 + k))))), ?_, eX_sr q6 69 (by omega) _, sr_s c4 69 r, ?_⟩
      · by_cases cc : (bpI (NM f I) r a (bpO (NM f I) r (I 58 10).toNat a) k).1 < NM f I (xch r a (a + 1 + k))
        · rw [if_pos cc, if_pos cc, b_201_111, b_201_123, wr_n1 (by omega)]
          rfl
        · rw [if_neg cc, if_neg cc, b_201_108, b_201_123, wr_n1 (by omega)]
          rfl
      · show sr c4 69 r 84 = b 84
        rw [sr_ne _ _ (by omega), q7 84 (by omega) (by omega), sr_ne _ _ (by omega), p3]) (c, z10) ⟨p1, p2, p3⟩
    try dsimp only at m1 m2 m3 m4
    have g58' := m2 58 (by omega) (by omega) (by omega) (by omega) (by omega) (by omega)
    refine ⟨(c2, some (vi ((a + 1 + ((I 58 10).toNat - (a + 1)) : Nat) : Int)), y10), ?_, m2, m3, m4⟩
    try dsimp only
    refine m1.trans ?_
    rw [b_201_70, g58', if_neg (by omega), b_201_129, wr_n1 (by omega), bpO_s]) (b, z9, z10) ⟨hx, hr, rfl⟩
  try dsimp only at l1 l2 l3 l4
  rw [e1] at l1
  have g58 := l2 58 (by omega) (by omega) (by omega) (by omega) (by omega) (by omega)
  refine ⟨b2, I 58 10, y9, y10, l1.trans ?_, l2, l3, l4⟩
  rw [b_201_55, g58, if_neg (by omega)]
def eN (I I' : Nat → Nat → Int) : Prop := ∀ c, c ≠ 80 → c ≠ 81 → c ≠ 84 → c ≠ 85 → c ≠ 88 → I' c = I c
theorem s_201 (d : Nat) (w : Nat × Bool) (I J : Nat → Nat → Int) (f : Int → Int → Int → Int → Int) (x : Int) (hd : 15 ≤ d) (hK : KM f w I) (hS : SM I) :
    ∃ I', semC d 201 [vr 58, vi x] (mk w I J) = some (some (vi (swR (I 58 10) (NM f I) (I 69) x)), mk w I' J) ∧ eN I I' := by
  obtain ⟨e, rfl⟩ : ∃ e, d = e + 1 := ⟨d - 1, by omega⟩
  obtain ⟨hn, h64, h65, hM, hs, hds⟩ := id hS
  have e1 : ((I 58 10).toNat : Int) = I 58 10 := Int.toNat_of_nonneg hn.1
  rw [e_201, b_201_0, wr_if (by omega), semK_of (s_135 _ _ _ _ _ _ _ (by omega))]
  simp only [mpush]
  rw [b_201_12]
  by_cases c0 : -2 ≤ x ∧ x ≤ I 58 10 - 1
  · rw [if_pos c0, if_neg (by omega), b_201_18]
    obtain ⟨r84, a1, a2⟩ := s_196 e w I J (by omega) hn
    obtain ⟨b1, k1, k2, k3, k4⟩ := s_188s e w I J f (sr I 84 r84) (I 69) (by omega) hK hS (eX_sr (eX_r I) 84 (by omega) _) (sr_ne _ _ (by omega)) hs hds
    have k84 : b1 84 = r84 := (k3 84 (by omega) (by omega)).trans (sr_s _ _ _)
    rw [semK_of a1]
    simp only [mpush]
    rw [b_201_22, semK_of k1]
    simp only [mpush]
    rw [b_201_26]
    have hend : ∀ (b : Nat → Nat → Int) (k : Nat) (x4 : Int) (z5 z6 z7 z8 z9 z10 : Option mVal), eX I b → b 69 = swQ (NM f I) (I 58 10).toNat (I 69) k → b 84 = r84 → swN (NM f I) (I 58 10).toNat (I 69) = k → ∃ I', Sem e 201 172 [some (vr 58), some (vi x), some (vi (NM f I (swQ (NM f I) (I 58 10).toNat (I 69) k))), some (vi (k : Int)), some (vi x4), z5, z6, z7, z8, z9, z10] [] (mk w b J) = some (some (vi (swR (I 58 10) (NM f I) (I 69) x)), mk w I' J) ∧ eN I I' := by
      intro b k x4 z5 z6 z7 z8 z9 z10 p1 p2 p3 p4
      have g58 := p1 58 (by omega) (by omega) (by omega) (by omega) (by omega) (by omega)
      have hgo : Sem e 201 172 [some (vr 58), some (vi x), some (vi (NM f I (swQ (NM f I) (I 58 10).toNat (I 69) k))), some (vi (k : Int)), some (vi x4), z5, z6, z7, z8, z9, z10] [] (mk w b J) = Sem e 201 197 [some (vr 58), some (vi x), some (vi (NM f I (swQ (NM f I) (I 58 10).toNat (I 69) k))), some (vi (k : Int)), some (vi x4), z5, z6, z7, z8, z9, z10] [vi (swR (I 58 10) (NM f I) (I 69) x)] (mk w b J) := by
        unfold swR
        rw [b_201_172, p4]
        by_cases c1 : x = -1
        · rw [if_pos c1, if_pos c1, b_201_177]
        · rw [if_neg c1, if_neg c1, b_201_181]
          by_cases c2 : x = -2
          · rw [if_pos c2, if_pos c2, b_201_187]
          · rw [if_neg c2, if_neg c2, b_201_191, if_pos (by omega), if_pos (by omega), p2]
      rw [hgo, b_201_197, semK_of (s_197 _ _ _ _ (by omega) (by rw [g58]; exact hn))]
      simp only [mpush]
      rw [b_201_203]
      refine ⟨_, rfl, ?_⟩
      intro c h1 h2 h3 h4 h5
      by_cases q : c = 69
      · subst q
        rw [sr_s, g58, p3, p2]
        funext j
        by_cases hj : j < (I 58 10).toNat
        · rw [if_pos hj]; exact a2 j hj
        · rw [if_neg hj]; exact swQ_out (by omega) k
      · rw [sr_ne _ _ q, p1 c q h1 h2 h3 h4 h5]
    refine lpQ (fun (k : Nat) (b : (Nat → Nat → Int) × Option mVal × Option mVal × Option mVal × Option mVal × Option mVal × Option mVal) => Sem e 201 32 [some (vr 58), some (vi x), some (vi (NM f I (swQ (NM f I) (I 58 10).toNat (I 69) k))), some (vi (k : Int)), some (vi 1), b.2.1, b.2.2.1, b.2.2.2.1, b.2.2.2.2.1, b.2.2.2.2.2.1, b.2.2.2.2.2.2] [] (mk w b.1 J)) (fun k b => eX I b.1 ∧ b.1 69 = swQ (NM f I) (I 58 10).toNat (I 69) k ∧ b.1 84 = r84 ∧ ∀ j, j < k → swE (NM f I) (I 58 10).toNat (I 69) j = false) (fun o => ∃ I', o = some (some (vi (swR (I 58 10) (NM f I) (I 69) x)), mk w I' J) ∧ eN I I') 50 ?_ ?_ (b1, none, none, none, none, none, none) ⟨k2, k4, k84, fun j hj => absurd hj (by omega)⟩
    · rintro k ⟨b, z5, z6, z7, z8, z9, z10⟩ hk ⟨p1, p2, p3, p4⟩
      try dsimp only at p1 p2 p3 p4 ⊢
      obtain ⟨b', y8, y9, y10, q1, q2, q3, q4⟩ := sw_rd e w I J f e b _ x k 1 z5 z6 z7 z8 z9 z10 (by omega) hK hS p1 p2 (swQ_se hs k) (swQ_ds hds k)
      rw [b_201_32, if_neg (by omega), b_201_37, if_pos (by omega), q1, b_201_135]
      have hok := bpO_ok (N := NM f I) (q := swQ (NM f I) (I 58 10).toNat (I 69) k) (n := (I 58 10).toNat) (I 58 10).toNat (Nat.le_refl _)
      by_cases c : (bpO (NM f I) (swQ (NM f I) (I 58 10).toNat (I 69) k) (I 58 10).toNat (I 58 10).toNat).2.1 = -1
      · right
        have hE : swE (NM f I) (I 58 10).toNat (I 69) k = true := decide_eq_true c
        rw [if_pos (by omega), b_201_144, b_201_145, if_pos rfl, b_201_152, b_201_32, if_pos rfl]
        exact hend b' k 0 _ _ _ _ _ _ q2 q3 (q4.trans p3) (swNs hk hE p4)
      · left
        rcases hok with h | ⟨o1, o2, o3, o4⟩
        · exact absurd h.1 c
        · have t1 := s_200 e w b' J (bpO (NM f I) (swQ (NM f I) (I 58 10).toNat (I 69) k) (I 58 10).toNat (I 58 10).toNat).2.1.toNat (bpO (NM f I) (swQ (NM f I) (I 58 10).toNat (I 69) k) (I 58 10).toNat (I 58 10).toNat).2.2.toNat (by omega) (by omega) (by omega)
          rw [Int.toNat_of_nonneg o1, Int.toNat_of_nonneg (by omega), q3] at t1
          have hnx : swQ (NM f I) (I 58 10).toNat (I 69) (k + 1) = xch (swQ (NM f I) (I 58 10).toNat (I 69) k) (bpO (NM f I) (swQ (NM f I) (I 58 10).toNat (I 69) k) (I 58 10).toNat (I 58 10).toNat).2.1.toNat (bpO (NM f I) (swQ (NM f I) (I 58 10).toNat (I 69) k) (I 58 10).toNat (I 58 10).toNat).2.2.toNat := by
            show bpx _ _ _ = _
            unfold bpx
            rw [if_neg c]
          rw [if_neg (by omega), b_201_140, b_201_145, if_neg (by omega), b_201_155, semK_of t1]
          simp only [mpush]
          rw [b_201_163, wr_n1 (by omega), o4, ← hnx]
          refine ⟨(sr b' 69 (swQ (NM f I) (I 58 10).toNat (I 69) (k + 1)), _, _, _, _, _, _), rfl, eX_sr q2 69 (by omega) _, sr_s b' 69 _, ?_, ?_⟩
          · show sr b' 69 (swQ (NM f I) (I 58 10).toNat (I 69) (k + 1)) 84 = r84
            rw [sr_ne _ _ (by omega), q4, p3]
          · intro j hj
            by_cases cj : j = k
            · subst cj; exact decide_eq_false c
            · exact p4 j (by omega)
    · rintro ⟨b, z5, z6, z7, z8, z9, z10⟩ ⟨p1, p2, p3, p4⟩
      try dsimp only at p1 p2 p3 p4 ⊢
      rw [b_201_32, if_neg (by omega), b_201_37, if_neg (by omega)]
      exact hend b 50 1 _ _ _ _ _ _ p1 p2 p3 (swNn p4)
  · refine ⟨I, ?_, fun _ _ _ _ _ _ => rfl⟩
    unfold swR
    rw [if_neg c0, if_pos rfl, b_201_15, if_neg (by omega), if_neg (by omega), if_neg (by omega)]
