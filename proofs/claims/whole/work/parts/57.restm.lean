/-! rest and hush: the reference -/
def eW (I I' : Nat → Nat → Int) : Prop := ∀ c, c ≠ 80 → c ≠ 81 → c ≠ 82 → c ≠ 83 → I' c = I c
theorem eW_r (I : Nat → Nat → Int) : eW I I := fun _ _ _ _ _ => rfl
theorem eW_t {I I' I'' : Nat → Nat → Int} (h : eW I I') (h' : eW I' I'') : eW I I'' := fun c a1 a2 a3 a4 => (h' c a1 a2 a3 a4).trans (h c a1 a2 a3 a4)
theorem eW_M {I I' : Nat → Nat → Int} (h : eM I I') : eW I I' := fun c a1 a2 _ _ => h c a1 a2
theorem eW_u {I I' : Nat → Nat → Int} (h : eW I I') (c k : Nat) (v : Int) (hc : c = 82 ∨ c = 83) : eW I (up2 I' c k v) := fun c' a1 a2 a3 a4 => by rw [up2_ne _ _ _ (by omega), h c' a1 a2 a3 a4]
theorem KM_w {f : Int → Int → Int → Int → Int} {w : Nat × Bool} {I I' : Nat → Nat → Int} (h : KM f w I) (he : eW I I') : KM f w I' := by
  have h58 := he 58 (by omega) (by omega) (by omega) (by omega)
  refine KM_x h (by rw [h58]) (by rw [h58]) (by rw [h58]) (by rw [h58]) (he 59 (by omega) (by omega) (by omega) (by omega)) (he 60 (by omega) (by omega) (by omega) (by omega)) (by rw [he 63 (by omega) (by omega) (by omega) (by omega)]; exact h.1.2.2.2.2.1) (fun c h1 h2 => he c (by omega) (by omega) (by omega) (by omega))
theorem SM_w {I I' : Nat → Nat → Int} (h : SM I) (he : eW I I') : SM I' := by
  unfold SM
  rw [he 58 (by omega) (by omega) (by omega) (by omega), he 64 (by omega) (by omega) (by omega) (by omega), he 65 (by omega) (by omega) (by omega) (by omega), he 69 (by omega) (by omega) (by omega) (by omega)]
  exact h
theorem Lm_w {f : Int → Int → Int → Int → Int} {I I' : Nat → Nat → Int} (h : eW I I') : Lm f I' = Lm f I := by
  unfold Lm
  rw [h 58 (by omega) (by omega) (by omega) (by omega), h 59 (by omega) (by omega) (by omega) (by omega), h 60 (by omega) (by omega) (by omega) (by omega), h 61 (by omega) (by omega) (by omega) (by omega), h 62 (by omega) (by omega) (by omega) (by omega), h 63 (by omega) (by omega) (by omega) (by omega)]
theorem s_181w (d : Nat) (w : Nat × Bool) (I J : Nat → Nat → Int) (f : Int → Int → Int → Int → Int) (I' : Nat → Nat → Int) (i j : Nat) (v : Int) (hd : 12 ≤ d) (hK : KM f w I) (hS : SM I) (hi : i < (I 58 10).toNat) (hj : j < (I 58 10).toNat) (he : eW I I') (hv : 0 ≤ v ∧ v ≤ 99) :
    ∃ I'', semC d 181 [vr 58, vi i, vi j, vi v] (mk w I' J) = some (some (vi (pz (Lm f I v (I 69 i) (I 69 j) - I 58 17))), mk w I'' J) ∧ eM I' I'' := by
  obtain ⟨hn, h64, h65, hM, hs, hds⟩ := SM_w hS he
  have h58 := he 58 (by omega) (by omega) (by omega) (by omega)
  have h69 := he 69 (by omega) (by omega) (by omega) (by omega)
  obtain ⟨I1, k1, k2⟩ := s_181 d w I' J f i j v hd (KM_w hK he) hn (by rw [h58]; exact hi) (by rw [h58]; exact hj) hs (fun h1 h2 => hds i j (by rw [h58]; exact hi) (by rw [h58]; exact hj) h1 h2) hM hv
  rw [Lm_w he, h58, h69] at k1
  exact ⟨I1, k1, k2⟩
/-- the voices heard by one, summed -/
theorem rm_in (d : Nat) (w : Nat × Bool) (I J : Nat → Nat → Int) (f : Int → Int → Int → Int → Int) (e : Nat) (b : Nat → Nat → Int) (x1 x2 x3 x4 : Int) (i : Nat) (hd : 12 ≤ e) (hK : KM f w I) (hS : SM I) (hi : i < (I 58 10).toNat) (he : eW I b) (hr : ∀ j, j < (I 58 10).toNat → 0 ≤ b 82 j ∧ b 82 j ≤ 99) :
    ∃ b', Sem e 193 109 [some (vr 58), some (vi x1), some (vi x2), some (vi x3), some (vi x4), some (vi (i : Int)), some (vi 0), some (vi 0)] [] (mk w b J) = Sem e 193 144 [some (vr 58), some (vi x1), some (vi x2), some (vi x3), some (vi x4), some (vi (i : Int)), some (vi (hrd (Lm f I) (I 58 17) (I 69) (b 82) i (I 58 10).toNat)), some (vi (I 58 10))] [] (mk w b' J) ∧ eM b b' := by
  obtain ⟨hn, h64, h65, hM, hs, hds⟩ := id hS
  have e1 : ((I 58 10).toNat : Int) = I 58 10 := Int.toNat_of_nonneg hn.1
  obtain ⟨I1, l1, l2⟩ := lpE (fun (j : Nat) (c : Nat → Nat → Int) => Sem e 193 109 [some (vr 58), some (vi x1), some (vi x2), some (vi x3), some (vi x4), some (vi (i : Int)), some (vi (hrd (Lm f I) (I 58 17) (I 69) (b 82) i j)), some (vi (j : Int))] [] (mk w c J)) (fun _ c => eM b c) (I 58 10).toNat (by
    intro j c hj hc
    try dsimp only at hc ⊢
    have hj' := nat_lt hj
    have he2 := eW_t he (eW_M hc)
    have h58 := he2 58 (by omega) (by omega) (by omega) (by omega)
    have h82 := hc 82 (by omega) (by omega)
    obtain ⟨I3, k1, k2⟩ := s_181w e w I J f c i j (b 82 j) (by omega) hK hS hi hj he2 (hr j hj)
    refine ⟨I3, ?_, eM_t hc k2⟩
    have hR := hrd_R (Lm_R f I) hM.1 (I 69) (b 82) i j
    have hp := pzL_R f I hM (b 82 j) (I 69 i) (I 69 j)
    rw [b_193_109, h58, if_pos (by omega), b_193_118, if_pos (by omega), nat_i, h82, semK_of k1]
    simp only [mpush]
    rw [b_193_135, wr_n1 (by omega), wr_if (by omega), hrd_s]) b (eM_r b)
  try dsimp only at l1 l2
  rw [e1] at l1
  have h58 := (eW_t he (eW_M l2)) 58 (by omega) (by omega) (by omega) (by omega)
  refine ⟨I1, l1.trans ?_, l2⟩
  rw [b_193_109, h58, if_neg (by omega)]
/-- one round -/
theorem rm_rd (d : Nat) (w : Nat × Bool) (I J : Nat → Nat → Int) (f : Int → Int → Int → Int → Int) (e : Nat) (b : Nat → Nat → Int) (x1 h x3 : Int) (z4 z5 z6 z7 : Option mVal) (hd : 12 ≤ e) (hK : KM f w I) (hS : SM I) (he : eW I b) (hr : ∀ j, j < (I 58 10).toNat → 0 ≤ b 82 j ∧ b 82 j ≤ 99) :
    ∃ b' y6 y7, Sem e 193 55 [some (vr 58), some (vi x1), some (vi h), some (vi x3), z4, z5, z6, z7] [] (mk w b J) = Sem e 193 228 [some (vr 58), some (vi x1), some (vi h), some (vi x3), some (vi (b2 (ex (fun i => decide (nxv (Lm f I) (I 58 17) (I 69) (I 64) h (I 58 10).toNat (b 82) i ≠ b 82 i)) (I 58 10).toNat))), some (vi (I 58 10)), y6, y7] [] (mk w b' J) ∧ eW I b' ∧ ∀ i, i < (I 58 10).toNat → b' 82 i = nxv (Lm f I) (I 58 17) (I 69) (I 64) h (I 58 10).toNat (b 82) i := by
  obtain ⟨hn, h64, h65, hM, hs, hds⟩ := id hS
  have e1 : ((I 58 10).toNat : Int) = I 58 10 := Int.toNat_of_nonneg hn.1
  rw [b_193_55]
  obtain ⟨⟨I1, y6, y7⟩, l1, l2, l3, l4⟩ := lpE (fun (i : Nat) (c : (Nat → Nat → Int) × Option mVal × Option mVal) => Sem e 193 61 [some (vr 58), some (vi x1), some (vi h), some (vi x3), some (vi (b2 (ex (fun i => decide (nxv (Lm f I) (I 58 17) (I 69) (I 64) h (I 58 10).toNat (b 82) i ≠ b 82 i)) i))), some (vi (i : Int)), c.2.1, c.2.2] [] (mk w c.1 J)) (fun i c => eW I c.1 ∧ c.1 82 = b 82 ∧ ∀ j, j < i → c.1 83 j = nxv (Lm f I) (I 58 17) (I 69) (I 64) h (I 58 10).toNat (b 82) j) (I 58 10).toNat (by
    rintro i ⟨c, y6, y7⟩ hi ⟨hc, h82, h83⟩
    try dsimp only at hc h82 h83 ⊢
    have hi' := nat_lt hi
    have h58 := hc 58 (by omega) (by omega) (by omega) (by omega)
    have hc2 : eW I (up2 c 83 i (b 82 i)) := eW_u hc 83 i _ (Or.inr rfl)
    have q82 : up2 c 83 i (b 82 i) 82 = b 82 := by rw [up2_ne _ _ _ (by omega), h82]
    have q83 : ∀ j, j < i → up2 c 83 i (b 82 i) 83 j = nxv (Lm f I) (I 58 17) (I 69) (I 64) h (I 58 10).toNat (b 82) j := fun j hj => by rw [up2_sne _ _ _ (by omega)]; exact h83 j hj
    have q83i : up2 c 83 i (b 82 i) 83 i = b 82 i := up2_s _ _ _ _
    rw [b_193_61, h58, if_pos (by omega), b_193_70, if_pos (by omega), if_pos (by omega), nat_i, h82]
    generalize up2 c 83 i (b 82 i) = c2 at hc2 q82 q83 q83i
    have stay : nxv (Lm f I) (I 58 17) (I 69) (I 64) h (I 58 10).toNat (b 82) i = b 82 i → ∃ b' : (Nat → Nat → Int) × Option mVal × Option mVal, Sem e 193 190 [some (vr 58), some (vi x1), some (vi h), some (vi x3), some (vi (b2 (ex (fun i => decide (nxv (Lm f I) (I 58 17) (I 69) (I 64) h (I 58 10).toNat (b 82) i ≠ b 82 i)) i))), some (vi (i : Int)), y6, y7] [] (mk w c2 J) = Sem e 193 61 [some (vr 58), some (vi x1), some (vi h), some (vi x3), some (vi (b2 (ex (fun i => decide (nxv (Lm f I) (I 58 17) (I 69) (I 64) h (I 58 10).toNat (b 82) i ≠ b 82 i)) (i + 1)))), some (vi ((i + 1 : Nat) : Int)), b'.2.1, b'.2.2] [] (mk w b'.1 J) ∧ eW I b'.1 ∧ b'.1 82 = b 82 ∧ ∀ j, j < i + 1 → b'.1 83 j = nxv (Lm f I) (I 58 17) (I 69) (I 64) h (I 58 10).toNat (b 82) j := by
      intro hx
      refine ⟨(c2, y6, y7), ?_, hc2, q82, ?_⟩
      · rw [b_193_190, wr_n1 (by omega), ex_s, decide_eq_false (show ¬ nxv (Lm f I) (I 58 17) (I 69) (I 64) h (I 58 10).toNat (b 82) i ≠ b 82 i from fun hh => hh hx), Bool.or_false]
      · intro j hj
        by_cases q : j = i
        · subst q; exact q83i.trans hx.symm
        · exact q83 j (by omega)
    by_cases c1 : (i : Int) = h
    · rw [if_pos c1]
      exact stay (by unfold nxv; rw [if_pos (Or.inl c1)])
    · have g69 := hc2 69 (by omega) (by omega) (by omega) (by omega)
      rw [if_neg c1, b_193_90, if_pos (by omega), nat_i, g69]
      by_cases c3 : I 69 i < 0
      · rw [if_pos c3, b_193_100]
        exact stay (by unfold nxv; rw [if_pos (Or.inr c3)])
      · have hx : nxv (Lm f I) (I 58 17) (I 69) (I 64) h (I 58 10).toNat (b 82) i = clp (I 64 i + (hrd (Lm f I) (I 58 17) (I 69) (b 82) i (I 58 10).toNat).tdiv 8) := by unfold nxv; rw [if_neg (by omega)]
        obtain ⟨c4, k1, k2⟩ := rm_in e w I J f e c2 x1 h x3 (b2 (ex (fun i => decide (nxv (Lm f I) (I 58 17) (I 69) (I 64) h (I 58 10).toNat (b 82) i ≠ b 82 i)) i)) i hd hK hS hi hc2 (by rw [q82]; exact hr)
        rw [q82] at k1
        have hR := hrd_R (Lm_R f I) hM.1 (I 69) (b 82) i (I 58 10).toNat
        have hv := h64 i
        have g64 := (eW_t hc2 (eW_M k2)) 64 (by omega) (by omega) (by omega) (by omega)
        have g82 := (k2 82 (by omega) (by omega)).trans q82
        have g83 := k2 83 (by omega) (by omega)
        have hq : (hrd (Lm f I) (I 58 17) (I 69) (b 82) i (I 58 10).toNat).tdiv 8 = (hrd (Lm f I) (I 58 17) (I 69) (b 82) i (I 58 10).toNat) / 8 := Int.tdiv_eq_ediv_of_nonneg hR.1
        rw [if_neg c3, b_193_103, k1, b_193_144, if_pos (by omega), nat_i, g64, semK_of (s_137 _ _ _ _ _ _ _ (by omega))]
        simp only [mpush]
        have hw : wr (I 64 i + wr ((hrd (Lm f I) (I 58 17) (I 69) (b 82) i (I 58 10).toNat).tdiv 8)) = I 64 i + (hrd (Lm f I) (I 58 17) (I 69) (b 82) i (I 58 10).toNat).tdiv 8 := by
          rw [hq, wr_if (a := _ / 8) (by omega), wr_if (by omega)]
        have hcl : ∀ z : Int, (if z < 0 then 0 else if 99 < z then 99 else z) = clp z := fun z => rfl
        rw [hw, hcl, ← hx, b_193_169, if_pos (by omega), if_pos (by omega), if_pos (by omega), nat_i, up2_s, g82, ex_s]
        refine ⟨(up2 c4 83 i (nxv (Lm f I) (I 58 17) (I 69) (I 64) h (I 58 10).toNat (b 82) i), some (vi (hrd (Lm f I) (I 58 17) (I 69) (b 82) i (I 58 10).toNat)), some (vi (I 58 10))), ?_, eW_u (eW_t hc2 (eW_M k2)) 83 i _ (Or.inr rfl), ?_, ?_⟩
        · by_cases c5 : nxv (Lm f I) (I 58 17) (I 69) (I 64) h (I 58 10).toNat (b 82) i = b 82 i
          · rw [if_pos c5, b_193_190, wr_n1 (by omega), decide_eq_false (show ¬ nxv (Lm f I) (I 58 17) (I 69) (I 64) h (I 58 10).toNat (b 82) i ≠ b 82 i from fun hh => hh c5), Bool.or_false]
          · rw [if_neg c5, b_193_187, b_193_190, wr_n1 (by omega), decide_eq_true c5, Bool.or_true]
            rfl
        · show up2 c4 83 i (nxv (Lm f I) (I 58 17) (I 69) (I 64) h (I 58 10).toNat (b 82) i) 82 = b 82
          rw [up2_ne _ _ _ (by omega), g82]
        · intro j hj
          show up2 c4 83 i (nxv (Lm f I) (I 58 17) (I 69) (I 64) h (I 58 10).toNat (b 82) i) 83 j = _
          by_cases q : j = i
          · subst q; rw [up2_s]
          · rw [up2_sne _ _ _ q, g83]; exact q83 j (by omega)) (b, z6, z7) ⟨he, rfl, fun j hj => absurd hj (by omega)⟩
  try dsimp only at l1 l2 l3 l4
  rw [e1] at l1
  have h58 := l2 58 (by omega) (by omega) (by omega) (by omega)
  obtain ⟨I2, m1, m2, m3, m4⟩ := lpE (fun (i : Nat) (c : Nat → Nat → Int) => Sem e 193 199 [some (vr 58), some (vi x1), some (vi h), some (vi x3), some (vi (b2 (ex (fun i => decide (nxv (Lm f I) (I 58 17) (I 69) (I 64) h (I 58 10).toNat (b 82) i ≠ b 82 i)) (I 58 10).toNat))), some (vi (i : Int)), y6, y7] [] (mk w c J)) (fun i c => eW I c ∧ c 83 = I1 83 ∧ ∀ j, j < i → c 82 j = I1 83 j) (I 58 10).toNat (by
    rintro i c hi ⟨hc, h83, h82⟩
    try dsimp only at hc h83 h82 ⊢
    have hi' := nat_lt hi
    have h58 := hc 58 (by omega) (by omega) (by omega) (by omega)
    refine ⟨up2 c 82 i (I1 83 i), ?_, eW_u hc 82 i _ (Or.inl rfl), ?_, ?_⟩
    · rw [b_193_199, h58, if_pos (by omega), b_193_208, if_pos (by omega), if_pos (by omega), nat_i, h83, wr_n1 (by omega)]
    · rw [up2_ne _ _ _ (by omega), h83]
    · intro j hj
      by_cases q : j = i
      · subst q; rw [up2_s]
      · rw [up2_sne _ _ _ q]; exact h82 j (by omega)) I1 ⟨l2, rfl, fun j hj => absurd hj (by omega)⟩
  try dsimp only at m1 m2 m3 m4
  rw [e1, show ((0 : Nat) : Int) = 0 from rfl] at m1
  refine ⟨I2, y6, y7, l1.trans ?_, m2, ?_⟩
  · rw [b_193_61, h58, if_neg (by omega), b_193_196, m1, b_193_199, m2 58 (by omega) (by omega) (by omega) (by omega), if_neg (by omega)]
  · intro i hi
    rw [m4 i hi, l4 i hi]
theorem s_193 (d : Nat) (w : Nat × Bool) (I J : Nat → Nat → Int) (f : Int → Int → Int → Int → Int) (m h : Int) (hd : 13 ≤ d) (hK : KM f w I) (hS : SM I) (hm : 0 ≤ m ∧ m ≤ 1) :
    ∃ I', semC d 193 [vr 58, vi m, vi h] (mk w I J) = some (some (vi (VN (Lm f I) (I 58 17) (I 69) (I 64) h (I 58 10).toNat (decide (m ≠ 0)))), mk w I' J) ∧ eW I I' ∧ ∀ i, i < (I 58 10).toNat → I' 82 i = VF (Lm f I) (I 58 17) (I 69) (I 64) h (I 58 10).toNat (decide (m ≠ 0)) i := by
  obtain ⟨e, rfl⟩ : ∃ e, d = e + 1 := ⟨d - 1, by omega⟩
  obtain ⟨hn, h64, h65, hM, hs, hds⟩ := id hS
  have e1 : ((I 58 10).toNat : Int) = I 58 10 := Int.toNat_of_nonneg hn.1
  rw [e_193, b_193_0]
  obtain ⟨I1, l1, l2, l3⟩ := lpE (fun (i : Nat) (c : Nat → Nat → Int) => Sem e 193 2 [some (vr 58), some (vi m), some (vi h), some (vi (i : Int)), none, none, none, none] [] (mk w c J)) (fun i c => eW I c ∧ ∀ j, j < i → c 82 j = VV (Lm f I) (I 58 17) (I 69) (I 64) h (I 58 10).toNat (decide (m ≠ 0)) 0 j) (I 58 10).toNat (by
    rintro i c hi ⟨hc, hP⟩
    try dsimp only at hc hP ⊢
    have hi' := nat_lt hi
    have h58 := hc 58 (by omega) (by omega) (by omega) (by omega)
    refine ⟨up2 c 82 i (VV (Lm f I) (I 58 17) (I 69) (I 64) h (I 58 10).toNat (decide (m ≠ 0)) 0 i), ?_, eW_u hc 82 i _ (Or.inl rfl), ?_⟩
    · rw [b_193_2, h58, if_pos (by omega), b_193_10]
      unfold VV
      by_cases c1 : (i : Int) = h
      · rw [if_pos c1, if_pos c1, b_193_20, b_193_40, if_pos (by omega), nat_i, wr_n1 (by omega)]
      · rw [if_neg c1, if_neg c1, b_193_24]
        by_cases c2 : m = 1
        · rw [if_pos c2, b_193_29, b_193_40, if_pos (by omega), nat_i, wr_n1 (by omega), if_pos (by simp [c2])]
        · rw [if_neg c2, b_193_34, if_pos (by omega), nat_i, hc 64 (by omega) (by omega) (by omega) (by omega), b_193_40, if_pos (by omega), nat_i, wr_n1 (by omega), if_neg (by simp; omega)]
    · intro j hj
      by_cases q : j = i
      · subst q; rw [up2_s]
      · rw [up2_sne _ _ _ q]; exact hP j (by omega)) I ⟨eW_r I, fun j hj => absurd hj (by omega)⟩
  try dsimp only at l1 l2 l3
  rw [e1, show ((0 : Nat) : Int) = 0 from rfl] at l1
  have h58 := l2 58 (by omega) (by omega) (by omega) (by omega)
  rw [l1.trans (show _ = _ by rw [b_193_2, h58, if_neg (by omega), b_193_47])]
  refine lpQ (fun (u : Nat) (b : (Nat → Nat → Int) × Option mVal × Option mVal × Option mVal × Option mVal) => Sem e 193 49 [some (vr 58), some (vi m), some (vi h), some (vi ((u : Int) + 1)), b.2.1, b.2.2.1, b.2.2.2.1, b.2.2.2.2] [] (mk w b.1 J))
    (fun u b => eW I b.1 ∧ (∀ j, j < (I 58 10).toNat → b.1 82 j = VV (Lm f I) (I 58 17) (I 69) (I 64) h (I 58 10).toNat (decide (m ≠ 0)) u j) ∧ ∀ j, j < u → VQ (Lm f I) (I 58 17) (I 69) (I 64) h (I 58 10).toNat (decide (m ≠ 0)) j = false)
    (fun o => ∃ I', o = some (some (vi (VN (Lm f I) (I 58 17) (I 69) (I 64) h (I 58 10).toNat (decide (m ≠ 0)))), mk w I' J) ∧ eW I I' ∧ ∀ i, i < (I 58 10).toNat → I' 82 i = VF (Lm f I) (I 58 17) (I 69) (I 64) h (I 58 10).toNat (decide (m ≠ 0)) i) 100 ?_ ?_ (I1, none, none, none, none) ⟨l2, l3, fun j hj => absurd hj (by omega)⟩
  · rintro u ⟨b, z4, z5, z6, z7⟩ hu ⟨he, hP, hN⟩
    try dsimp only at he hP hN ⊢
    obtain ⟨b', y6, y7, k1, k2, k4⟩ := rm_rd e w I J f e b m h ((u : Int) + 1) z4 z5 z6 z7 (by omega) hK hS he (fun j hj => by rw [hP j hj]; exact VV_R h64 u j)
    have hx : ∀ i, i < (I 58 10).toNat → nxv (Lm f I) (I 58 17) (I 69) (I 64) h (I 58 10).toNat (b 82) i = VV (Lm f I) (I 58 17) (I 69) (I 64) h (I 58 10).toNat (decide (m ≠ 0)) (u + 1) i := fun i hi => nxv_ext hi hP
    have hq : ex (fun i => decide (nxv (Lm f I) (I 58 17) (I 69) (I 64) h (I 58 10).toNat (b 82) i ≠ b 82 i)) (I 58 10).toNat = !VQ (Lm f I) (I 58 17) (I 69) (I 64) h (I 58 10).toNat (decide (m ≠ 0)) u := by
      unfold VQ
      rw [Bool.not_not, Bool.eq_iff_iff, ex_iff, ex_iff]
      constructor
      · rintro ⟨k, hk, h⟩
        refine ⟨k, hk, ?_⟩
        rw [← hx k hk, ← hP k hk]; exact h
      · rintro ⟨k, hk, h⟩
        refine ⟨k, hk, ?_⟩
        rw [hx k hk, hP k hk]; exact h
    rw [hq] at k1
    rw [b_193_49, if_neg (by omega), k1, b_193_228]
    cases c : VQ (Lm f I) (I 58 17) (I 69) (I 64) h (I 58 10).toNat (decide (m ≠ 0)) u
    · left
      refine ⟨(b', some (vi 1), some (vi (I 58 10)), y6, y7), ?_, k2, ?_, ?_⟩
      · rw [Bool.not_false, b2_t, if_neg (by omega), b_193_235, wr_if (by omega)]; rfl
      · intro j hj
        exact (k4 j hj).trans (hx j hj)
      · intro j hj
        by_cases c2 : j = u
        · subst c2; exact c
        · exact hN j (by omega)
    · right
      obtain ⟨v1, v2⟩ := VNF_s hu c hN
      refine ⟨b', ?_, k2, ?_⟩
      · rw [Bool.not_true, b2_f, if_pos rfl, b_193_233, v1]; rfl
      · intro j hj
        rw [v2, k4 j hj, hx j hj]
  · rintro ⟨b, z4, z5, z6, z7⟩ ⟨he, hP, hN⟩
    try dsimp only at he hP hN ⊢
    obtain ⟨v1, v2⟩ := VNF_n hN
    refine ⟨b, ?_, he, ?_⟩
    · rw [b_193_49, if_pos (by omega), b_193_241, v1]; rfl
    · intro j hj
      rw [v2, hP j hj]
theorem s_194 (d : Nat) (w : Nat × Bool) (I J : Nat → Nat → Int) (f : Int → Int → Int → Int → Int) (x y : Int) (hd : 14 ≤ d) (hK : KM f w I) (hS : SM I) :
    ∃ I', semC d 194 [vr 58, vi x, vi y] (mk w I J) = some (some (vi (restR (I 58 10) (fun h m => VN (Lm f I) (I 58 17) (I 69) (I 64) h (I 58 10).toNat m) (fun h m => VF (Lm f I) (I 58 17) (I 69) (I 64) h (I 58 10).toNat m) x y)), mk w I' J) ∧ eW I I' := by
  obtain ⟨e, rfl⟩ : ∃ e, d = e + 1 := ⟨d - 1, by omega⟩
  obtain ⟨hn, h64, h65, hM, hs, hds⟩ := id hS
  rw [e_194]
  unfold restR
  by_cases c1 : 0 ≤ x ∧ x ≤ 1
  · by_cases c2 : y = -1 ∨ (0 ≤ y ∧ y < I 58 10)
    · rw [if_pos ⟨c1, c2⟩]
      obtain ⟨I3, k1, k2, k4⟩ := s_193 e w I J f x (-1) (by omega) hK hS c1
      refine ⟨I3, ?_, k2⟩
      have hgo : Sem e 194 24 [some (vr 58), some (vi x), some (vi y), none] [] (mk w I J) = some (some (vi (if VN (Lm f I) (I 58 17) (I 69) (I 64) (-1) (I 58 10).toNat (decide (x ≠ 0)) = 0 then -2 else if y = -1 then (VN (Lm f I) (I 58 17) (I 69) (I 64) (-1) (I 58 10).toNat (decide (x ≠ 0)) : Int) else VF (Lm f I) (I 58 17) (I 69) (I 64) (-1) (I 58 10).toNat (decide (x ≠ 0)) y.toNat)), mk w I3 J) := by
        rw [b_194_24, semK_of k1]
        simp only [mpush]
        rw [b_194_30]
        by_cases c3 : VN (Lm f I) (I 58 17) (I 69) (I 64) (-1) (I 58 10).toNat (decide (x ≠ 0)) = 0
        · rw [if_pos (by omega), if_pos c3, b_194_35]
        · rw [if_neg (by omega), if_neg c3, b_194_38]
          by_cases c4 : y = -1
          · rw [if_pos (by omega), if_pos c4, b_194_42, b_194_52]
          · rw [if_neg (by omega), if_neg c4, b_194_46, if_pos (by omega), b_194_52, k4 _ (by omega)]
      by_cases c4 : y = -1
      · simp (disch := omega) only [b_194_0, b_194_6, b_194_9, b_194_14, b_194_19, b_194_22, s_135 _ _ _ _ _ _ _ _, s_139 _ _ _ _ _ _ hn, semK, Option.bind_some, mpush, wr_if, wr_tdiv, if_pos, if_neg, ↓reduceIte, b2_t, b2_f, Bool.false_eq_true, up2_ne, up2_sne, up2_s, true_or, or_true, true_and, and_true, false_and, and_false, false_or, or_false, hgo]
      · simp (disch := omega) only [b_194_0, b_194_6, b_194_9, b_194_14, b_194_19, b_194_22, s_135 _ _ _ _ _ _ _ _, s_139 _ _ _ _ _ _ hn, semK, Option.bind_some, mpush, wr_if, wr_tdiv, if_pos, if_neg, ↓reduceIte, b2_t, b2_f, Bool.false_eq_true, up2_ne, up2_sne, up2_s, true_or, or_true, true_and, and_true, false_and, and_false, false_or, or_false, hgo]
    · refine ⟨I, ?_, eW_r I⟩
      simp (disch := omega) only [b_194_0, b_194_6, b_194_9, b_194_14, b_194_19, b_194_22, s_135 _ _ _ _ _ _ _ _, s_139 _ _ _ _ _ _ hn, semK, Option.bind_some, mpush, wr_if, wr_tdiv, if_pos, if_neg, ↓reduceIte, b2_t, b2_f, Bool.false_eq_true, up2_ne, up2_sne, up2_s, true_or, or_true, true_and, and_true, false_and, and_false, false_or, or_false]
  · refine ⟨I, ?_, eW_r I⟩
    simp (disch := omega) only [b_194_0, b_194_6, b_194_22, s_135 _ _ _ _ _ _ _ _, semK, Option.bind_some, mpush, wr_if, wr_tdiv, if_pos, if_neg, ↓reduceIte, b2_t, b2_f, Bool.false_eq_true, up2_ne, up2_sne, up2_s, true_or, or_true, true_and, and_true, false_and, and_false, false_or, or_false]
/-- who is hushed stays at 0 -/
theorem VV_h (L : Int → Int → Int → Int) (M : Int) (q voice : Nat → Int) (n : Nat) (m : Bool) (h : Nat) : ∀ k, VV L M q voice h n m k h = 0
  | 0 => by unfold VV; rw [if_pos rfl]
  | k + 1 => by
    show nxv L M q voice h n (VV L M q voice h n m k) h = 0
    unfold nxv
    rw [if_pos (Or.inl rfl)]
    exact VV_h L M q voice n m h k
theorem VF_h (L : Int → Int → Int → Int) (M : Int) (q voice : Nat → Int) (n : Nat) (m : Bool) (h : Nat) : VF L M q voice h n m h = 0 := by
  unfold VF
  cases fnd (VQ L M q voice h n m) 100 with
  | none => exact VV_h _ _ _ _ _ _ _ _
  | some u => exact VV_h _ _ _ _ _ _ _ _
theorem s_195 (d : Nat) (w : Nat × Bool) (I J : Nat → Nat → Int) (f : Int → Int → Int → Int → Int) (hd : 15 ≤ d) (hK : KM f w I) (hS : SM I) :
    ∃ I', semC d 195 [vr 58] (mk w I J) = some (some (vi (hushR (I 58 10) (fun h m => VF (Lm f I) (I 58 17) (I 69) (I 64) h (I 58 10).toNat m))), mk w I' J) ∧ eW I I' := by
  obtain ⟨e, rfl⟩ : ∃ e, d = e + 1 := ⟨d - 1, by omega⟩
  obtain ⟨hn, h64, h65, hM, hs, hds⟩ := id hS
  have e1 : ((I 58 10).toNat : Int) = I 58 10 := Int.toNat_of_nonneg hn.1
  rw [e_195, b_195_0]
  obtain ⟨⟨I1, y1, y2, z4, z5⟩, l1, l2, l4⟩ := lpE (fun (u : Nat) (b : (Nat → Nat → Int) × Int × Int × Option mVal × Option mVal) => Sem e 195 7 [some (vr 58), some (vi b.2.1), some (vi b.2.2.1), some (vi (u : Int)), b.2.2.2.1, b.2.2.2.2] [] (mk w b.1 J)) (fun u b => eW I b.1 ∧ ((u = 0 ∧ b.2.1 = -2) ∨ ∃ k, u = k + 1 ∧ (b.2.1, b.2.2.1) = lst (fun h => sm (VF (Lm f I) (I 58 17) (I 69) (I 64) h (I 58 10).toNat false) (I 58 10).toNat) k)) (I 58 10).toNat (by
    rintro u ⟨b, y1, y2, z4, z5⟩ hu ⟨he, hP⟩
    try dsimp only at he hP ⊢
    have hu' := nat_lt hu
    have h58 := he 58 (by omega) (by omega) (by omega) (by omega)
    obtain ⟨I3, k1, k2, k4⟩ := s_193 e w b J f 0 u (by omega) (KM_w hK he) (SM_w hS he) (by omega)
    rw [Lm_w he, h58, he 69 (by omega) (by omega) (by omega) (by omega), he 64 (by omega) (by omega) (by omega) (by omega), show decide ((0 : Int) ≠ 0) = false from rfl] at k4
    rw [b_195_7, h58, if_pos (by omega), b_195_15, semK_of k1]
    simp only [mpush]
    rw [b_195_21]
    have he3 := eW_t he k2
    have h58' := he3 58 (by omega) (by omega) (by omega) (by omega)
    obtain ⟨-, q1, -⟩ := lpE (fun (j : Nat) (_ : Unit) => Sem e 195 28 [some (vr 58), some (vi y1), some (vi y2), some (vi (u : Int)), some (vi (sm (VF (Lm f I) (I 58 17) (I 69) (I 64) u (I 58 10).toNat false) j)), some (vi (j : Int))] [] (mk w I3 J)) (fun _ _ => True) (I 58 10).toNat (by
      intro j _ hj _
      have hj' := nat_lt hj
      have hV := VF_R (L := Lm f I) (M := I 58 17) (q := I 69) (voice := I 64) (h := u) (n := (I 58 10).toNat) (m := false) h64 j
      have hR := sm_R0 (g := VF (Lm f I) (I 58 17) (I 69) (I 64) u (I 58 10).toNat false) (B := 99) j (fun k _ => VF_R h64 k)
      refine ⟨(), ?_, trivial⟩
      rw [b_195_28, h58', if_pos (by omega), b_195_37, sm_s]
      by_cases c : j = u
      · rw [if_pos (by omega), b_195_55, wr_n1 (by omega)]
        have hz : VF (Lm f I) (I 58 17) (I 69) (I 64) u (I 58 10).toNat false j = 0 := by rw [c]; exact VF_h _ _ _ _ _ _ _
        rw [hz, Int.add_zero]
      · rw [if_neg (by omega), b_195_43, if_pos (by omega), nat_i, k4 j hj, b_195_55, wr_n1 (by omega), wr_if (by omega)]) () trivial
    try dsimp only at q1
    rw [e1] at q1
    have q2 : Sem e 195 28 [some (vr 58), some (vi y1), some (vi y2), some (vi (u : Int)), some (vi 0), some (vi 0)] [] (mk w I3 J) = Sem e 195 61 [some (vr 58), some (vi y1), some (vi y2), some (vi (u : Int)), some (vi (sm (VF (Lm f I) (I 58 17) (I 69) (I 64) u (I 58 10).toNat false) (I 58 10).toNat)), some (vi (I 58 10))] [] (mk w I3 J) := by
      refine q1.trans ?_
      rw [b_195_28, h58', if_neg (by omega)]
    rw [q2, b_195_61]
    rcases hP with ⟨p1, p2⟩ | ⟨k, p1, p2⟩
    · rw [if_pos (by omega), b_195_74, b_195_79, wr_n1 (by omega)]
      refine ⟨(I3, (u : Int), _, _, _), rfl, he3, Or.inr ⟨0, by omega, ?_⟩⟩
      subst p1; rfl
    · have hb := lst_R (fun h : Nat => sm (VF (Lm f I) (I 58 17) (I 69) (I 64) h (I 58 10).toNat false) (I 58 10).toNat) k
      have p3 : y1 = (lst (fun h => sm (VF (Lm f I) (I 58 17) (I 69) (I 64) h (I 58 10).toNat false) (I 58 10).toNat) k).1 := by rw [← p2]
      have p4 : y2 = (lst (fun h => sm (VF (Lm f I) (I 58 17) (I 69) (I 64) h (I 58 10).toNat false) (I 58 10).toNat) k).2 := by rw [← p2]
      rw [if_neg (by omega), b_195_65]
      by_cases c : sm (VF (Lm f I) (I 58 17) (I 69) (I 64) u (I 58 10).toNat false) (I 58 10).toNat < y2
      · rw [if_pos c, b_195_74, b_195_79, wr_n1 (by omega)]
        refine ⟨(I3, (u : Int), _, _, _), rfl, he3, Or.inr ⟨u, rfl, ?_⟩⟩
        subst p1
        rw [lst_s, if_pos (by rw [← p4]; exact c)]
        rfl
      · rw [if_neg c, b_195_71, b_195_79, wr_n1 (by omega)]
        refine ⟨(I3, y1, y2, _, _), rfl, he3, Or.inr ⟨u, rfl, ?_⟩⟩
        subst p1
        rw [lst_s, if_neg (by rw [← p4]; exact c), ← p2]) (I, -2, 0, none, none) ⟨eW_r I, Or.inl ⟨rfl, rfl⟩⟩
  try dsimp only at l1 l2 l4
  rw [e1] at l1
  have h58 := l2 58 (by omega) (by omega) (by omega) (by omega)
  refine ⟨I1, l1.trans ?_, l2⟩
  rw [b_195_7, h58, if_neg (by omega), b_195_85]
  unfold hushR
  rcases l4 with ⟨p1, p2⟩ | ⟨k, p1, p2⟩
  · rw [if_pos (by omega), p2]
  · rw [if_neg (by omega), show (I 58 10).toNat - 1 = k by omega, ← p2]
