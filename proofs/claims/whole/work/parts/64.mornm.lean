/-! mornings: the reference -/
def VM (f : Int → Int → Int → Int → Int) (I : Nat → Nat → Int) (r : Nat → Int) (i : Nat) (s : Int) : Int := mvl (Lm f I) (I 58 17) (I 66) (I 65) (I 64) r i s (I 58 10).toNat
/-- the gain and harm of one who tries desk s -/
theorem tr_one (d : Nat) (w : Nat × Bool) (I J : Nat → Nat → Int) (f : Int → Int → Int → Int → Int) (e : Nat) (b : Nat → Nat → Int) (r q : Nat → Int) (i s : Nat) (he : 13 ≤ e) (hK : KM f w I) (hS : SM I) (hx : eX I b) (hi : i < (I 58 10).toNat) (hs10 : s < 10) (h69 : b 69 = q) (hse : seR r (I 58 10).toNat) (ht : ∀ j, j < i → r j ≠ s)
    (hq1 : ∀ j, j < i → q j = r j) (hq2 : q i = s) (hq3 : ∀ j, i < j → j < (I 58 10).toNat → q j = if r j = s then -1 else r j) :
    ∃ b1 b2 g h, semC e 185 [vr 58, vi i] (mk w b J) = some (some (vi g), mk w b1 J) ∧ semC e 184 [vr 58, vi i] (mk w b1 J) = some (some (vi h), mk w b2 J) ∧ eM b b2 ∧ wr (g - h) = VM f I r i s := by
  obtain ⟨hn, h64, h65, hM, -, -⟩ := id hS
  have hi' := nat_lt hi
  have b58 := hx 58 (by omega) (by omega) (by omega) (by omega) (by omega) (by omega)
  have b64 := hx 64 (by omega) (by omega) (by omega) (by omega) (by omega) (by omega)
  have b65 := hx 65 (by omega) (by omega) (by omega) (by omega) (by omega) (by omega)
  have b66 := hx 66 (by omega) (by omega) (by omega) (by omega) (by omega) (by omega)
  have hsq : seR q (I 58 10).toNat := by
    intro j hj
    have h1 := hse j hj
    by_cases c1 : j < i
    · rw [hq1 j c1]; exact h1
    · by_cases c2 : j = i
      · rw [c2, hq2]; right; omega
      · rw [hq3 j (by omega) hj]
        split
        · left; rfl
        · exact h1
  have hdq : dsi q (I 58 10).toNat i := by
    intro j hj hij heq
    rw [hq2] at heq
    by_cases c1 : j < i
    · rw [hq1 j c1] at heq
      exact absurd heq.symm (ht j c1)
    · rw [hq3 j (by omega) hj] at heq
      split at heq
      · omega
      · rename_i h; exact absurd heq.symm h
  have hSi : SMi i b := by
    unfold SMi
    rw [b58, b64, b65, h69]
    exact ⟨hn, h64, h65, hM, hsq, hdq⟩
  have hKb := KM_X hK hx
  obtain ⟨b1, k1, k2⟩ := s_185 e w b J f i he hKb hSi (by rw [b58]; exact hi)
  obtain ⟨b2, k3, k4⟩ := s_184 e w b1 J f i he (KM_e hKb k2) (SMi_e hSi k2) (by rw [k2 58 (by omega) (by omega), b58]; exact hi)
  rw [Lm_e k2, k2 58 (by omega) (by omega), k2 64 (by omega) (by omega), k2 65 (by omega) (by omega), k2 66 (by omega) (by omega), k2 69 (by omega) (by omega)] at k3
  rw [Lm_X hx, b58, b64, b66, h69] at k1
  rw [Lm_X hx, b58, b64, b65, b66, h69] at k3
  refine ⟨b1, b2, _, _, k1, k3, eM_t k2 k4, ?_⟩
  have hg := gh_wt (Lm f I) (I 58 17) (I 66) (I 65) (I 64) q i (I 58 10).toNat
  rw [hg]
  have hsum : sm (fun j => wt (Lm f I) (I 58 17) (I 66) (I 65) (I 64) q i j) (I 58 10).toNat = VM f I r i s := by
    unfold VM mvl
    refine sm_ext _ (fun j hj => ?_)
    unfold wt
    rw [hq2]
    by_cases c1 : j = i
    · rw [if_pos (Or.inl c1), c1, hq2]
      unfold Lm
      rw [LV_z (by omega), pz_z hM.1, wv_0]
    · by_cases c2 : r j = s
      · rw [if_pos (Or.inr c2)]
        have c3 : i < j := by
          by_cases c4 : j < i
          · exact absurd c2 (ht j c4)
          · omega
        rw [hq3 j c3 hj, if_pos c2]
        unfold Lm
        rw [LV_z (by omega), pz_z hM.1, wv_0]
      · rw [if_neg (by omega)]
        by_cases c4 : j < i
        · rw [hq1 j c4]
        · rw [hq3 j (by omega) hj, if_neg c2]
  rw [hsum]
  have hR := mvl_R (needs := I 66) (mind := I 65) (voice := I 64) (Lm_R f I) hM.1 h65 r i s (I 58 10).toNat
  exact wr_if (by unfold VM; omega)
theorem s_205 (d : Nat) (w : Nat × Bool) (I J : Nat → Nat → Int) (f : Int → Int → Int → Int → Int) (b : Nat → Nat → Int) (r : Nat → Int) (i : Nat) (hd : 14 ≤ d) (hK : KM f w I) (hS : SM I) (hx : eX I b) (hi : i < (I 58 10).toNat) (hse : seR r (I 58 10).toNat) (h1 : ∀ j, j < i → b 69 j = r j) (h2 : ∀ j, i ≤ j → j < (I 58 10).toNat → b 88 j = r j) :
    ∃ b', semC d 205 [vr 58, vi i] (mk w b J) = some (some (vi (mbs (VM f I) r i (I 58 3).toNat).1), mk w b' J) ∧ eX I b' ∧ (∀ j, j < i → b' 69 j = r j) ∧ b' 88 = b 88 ∧ b' 84 = b 84 ∧ ∀ j, (I 58 10).toNat ≤ j → b' 69 j = b 69 j := by
  obtain ⟨e, rfl⟩ : ∃ e, d = e + 1 := ⟨d - 1, by omega⟩
  obtain ⟨hn, h64, h65, hM, -, -⟩ := id hS
  have hD := hK.1.1
  have hi' := nat_lt hi
  have e1 : ((I 58 10).toNat : Int) = I 58 10 := Int.toNat_of_nonneg hn.1
  have eD : ((I 58 3).toNat : Int) = I 58 3 := Int.toNat_of_nonneg hD.1
  rw [e_205, b_205_0]
  obtain ⟨⟨b1, z5, z6⟩, l1, l2, l3, l4, l5, l6⟩ := lpE (fun (s : Nat) (c : (Nat → Nat → Int) × Option mVal × Option mVal) => Sem e 205 7 [some (vr 58), some (vi (i : Int)), some (vi (mbs (VM f I) r i s).1), some (vi (mbs (VM f I) r i s).2), some (vi (s : Int)), c.2.1, c.2.2] [] (mk w c.1 J)) (fun _ c => eX I c.1 ∧ (∀ j, j < i → c.1 69 j = r j) ∧ c.1 88 = b 88 ∧ c.1 84 = b 84 ∧ ∀ j, (I 58 10).toNat ≤ j → c.1 69 j = b 69 j) (I 58 3).toNat (by
    rintro s ⟨c, z5, z6⟩ hs4 ⟨p1, p2, p3, p4, p5⟩
    try dsimp only at p1 p2 p3 p4 p5 ⊢
    have hs4' := nat_lt hs4
    have c58 := p1 58 (by omega) (by omega) (by omega) (by omega) (by omega) (by omega)
    rw [b_205_7, c58, if_pos (by omega), b_205_16, mbs_s]
    obtain ⟨-, t1, -⟩ := lpE (fun (j : Nat) (_ : Unit) => Sem e 205 22 [some (vr 58), some (vi (i : Int)), some (vi (mbs (VM f I) r i s).1), some (vi (mbs (VM f I) r i s).2), some (vi (s : Int)), some (vi (b2 (tak j r s))), some (vi (j : Int))] [] (mk w c J)) (fun _ _ => True) i (by
      intro j _ hj _
      refine ⟨(), ?_, trivial⟩
      try dsimp only
      have ht : tak (j + 1) r s = (tak j r s || decide (r j = s)) := rfl
      rw [b_205_22, if_pos (by omega), b_205_28, if_pos (by omega), nat_i, p2 j hj, ht]
      by_cases cj : r j = s
      · rw [if_pos cj, b_205_40, b_205_43, wr_n1 (by omega), decide_eq_true cj, Bool.or_true]
        rfl
      · rw [if_neg cj, b_205_43, wr_n1 (by omega), decide_eq_false cj, Bool.or_false]) () trivial
    try dsimp only at t1
    have t1' : Sem e 205 22 [some (vr 58), some (vi (i : Int)), some (vi (mbs (VM f I) r i s).1), some (vi (mbs (VM f I) r i s).2), some (vi (s : Int)), some (vi 0), some (vi 0)] [] (mk w c J) = _ := t1
    rw [t1', b_205_22, if_neg (by omega), b_205_49]
    cases cT : tak i r s
    · have hnin := (tak_iff i r s).1 cT
      rw [b2_f, if_pos rfl, b_205_57, wr_if (by omega), if_neg (by simp)]
      obtain ⟨c2, m1, m2, m3, m4, m5, m6, m7⟩ := lpE (fun (k : Nat) (c : Nat → Nat → Int) => Sem e 205 62 [some (vr 58), some (vi (i : Int)), some (vi (mbs (VM f I) r i s).1), some (vi (mbs (VM f I) r i s).2), some (vi (s : Int)), some (vi 0), some (vi ((i + 1 + k : Nat) : Int))] [] (mk w c J)) (fun k c => eX I c ∧ (∀ j, j < i → c 69 j = r j) ∧ c 88 = b 88 ∧ c 84 = b 84 ∧ (∀ j, (I 58 10).toNat ≤ j → c 69 j = b 69 j) ∧ ∀ j, i < j → j < i + 1 + k → c 69 j = if r j = s then -1 else r j) ((I 58 10).toNat - (i + 1)) (by
        rintro k c hk ⟨p1, p2, p3, p4, p5, p6⟩
        try dsimp only at p1 p2 p3 p4 p5 p6 ⊢
        have c58 := p1 58 (by omega) (by omega) (by omega) (by omega) (by omega) (by omega)
        have hrk := h2 (i + 1 + k) (by omega) (by omega)
        refine ⟨up2 c 69 (i + 1 + k) (if r (i + 1 + k) = s then -1 else r (i + 1 + k)), ?_, ?_, ?_, ?_, ?_, ?_, ?_⟩
        · rw [b_205_62, c58, if_pos (by omega), b_205_71, if_pos (by omega), nat_i, p3, hrk]
          by_cases cs : r (i + 1 + k) = s
          · rw [if_pos cs, if_pos cs, b_205_89, b_205_100, if_pos (by omega), nat_i, wr_n1 (by omega)]
            rfl
          · rw [if_neg cs, if_neg cs, b_205_93, if_pos (by omega), nat_i, p3, hrk, b_205_100, if_pos (by omega), nat_i, wr_n1 (by omega)]
            rfl
        · intro c' a1 a2 a3 a4 a5 a6
          rw [up2_ne _ _ _ a1, p1 c' a1 a2 a3 a4 a5 a6]
        · intro j hj
          rw [up2_sne _ _ _ (by omega)]; exact p2 j hj
        · rw [up2_ne _ _ _ (by omega), p3]
        · rw [up2_ne _ _ _ (by omega), p4]
        · intro j hj
          rw [up2_sne _ _ _ (by omega)]; exact p5 j hj
        · intro j j1 j2
          by_cases cj : j = i + 1 + k
          · rw [cj, up2_s]
          · rw [up2_sne _ _ _ cj]; exact p6 j j1 (by omega)) c ⟨p1, p2, p3, p4, p5, fun j j1 j2 => absurd j2 (by omega)⟩
      try dsimp only at m1 m2 m3 m4 m5 m6 m7
      have c58' := m2 58 (by omega) (by omega) (by omega) (by omega) (by omega) (by omega)
      have m1' : Sem e 205 62 [some (vr 58), some (vi (i : Int)), some (vi (mbs (VM f I) r i s).1), some (vi (mbs (VM f I) r i s).2), some (vi (s : Int)), some (vi 0), some (vi ((i : Int) + 1))] [] (mk w c J) = _ := m1
      rw [m1', b_205_62, c58', if_neg (by omega), b_205_107, if_pos (by omega), nat_i]
      have y1 : eX I (up2 c2 69 i s) := fun c' a1 a2 a3 a4 a5 a6 => by rw [up2_ne _ _ _ a1, m2 c' a1 a2 a3 a4 a5 a6]
      obtain ⟨d1, d2, g, h, k1, k2, k3, k4⟩ := tr_one e w I J f e (up2 c2 69 i s) r (up2 c2 69 i s 69) i s (by omega) hK hS y1 hi (by omega) rfl hse hnin (fun j hj => by rw [up2_sne _ _ _ (by omega)]; exact m3 j hj) (up2_s _ _ _ _) (fun j j1 j2 => by rw [up2_sne _ _ _ (by omega)]; exact m7 j j1 (by omega))
      have k69 := k3 69 (by omega) (by omega)
      rw [semK_of k1]
      simp only [mpush]
      rw [b_205_120, semK_of k2]
      simp only [mpush]
      rw [b_205_125, k4]
      have hm := mbs_R (VM f I) r i s
      refine ⟨(d2, some (vi 0), some (vi (VM f I r i s))), ?_, eX_t y1 (eX_M k3), ?_, ?_, ?_, ?_⟩
      · by_cases q1 : (mbs (VM f I) r i s).1 = -1
        · rw [if_pos (by omega), b_205_141, b_205_147, wr_n1 (by omega), if_pos (Or.inl q1)]
        · rw [if_neg (by omega), b_205_132]
          by_cases q2 : (mbs (VM f I) r i s).2 < VM f I r i s
          · rw [if_pos q2, b_205_141, b_205_147, wr_n1 (by omega), if_pos (Or.inr q2)]
          · rw [if_neg q2, b_205_138, b_205_147, wr_n1 (by omega), if_neg (by omega)]
      · intro j hj
        show d2 69 j = r j
        rw [k69, up2_sne _ _ _ (by omega)]; exact m3 j hj
      · show d2 88 = b 88
        rw [k3 88 (by omega) (by omega), up2_ne _ _ _ (by omega), m4]
      · show d2 84 = b 84
        rw [k3 84 (by omega) (by omega), up2_ne _ _ _ (by omega), m5]
      · intro j hj
        show d2 69 j = b 69 j
        rw [k69, up2_sne _ _ _ (by omega)]; exact m6 j hj
    · rw [b2_t, if_neg (by omega), b_205_54, b_205_147, wr_n1 (by omega), if_pos rfl]
      exact ⟨(c, _, _), rfl, p1, p2, p3, p4, p5⟩) (b, none, none) ⟨hx, h1, rfl, rfl, fun _ _ => rfl⟩
  try dsimp only at l1 l2 l3 l4 l5 l6
  rw [eD] at l1
  refine ⟨b1, l1.trans ?_, l2, l3, l4, l5, l6⟩
  rw [b_205_7, l2 58 (by omega) (by omega) (by omega) (by omega) (by omega) (by omega), if_neg (by omega), b_205_153]
/-- one morning -/
theorem md_rd (d : Nat) (w : Nat × Bool) (I J : Nat → Nat → Int) (f : Int → Int → Int → Int → Int) (e : Nat) (b : Nat → Nat → Int) (Q : Nat → Int) (x1 x2 x3 : Int) (z4 z5 : Option mVal) (he : 14 ≤ e) (hK : KM f w I) (hS : SM I) (hx : eX I b) (hse : seR Q (I 58 10).toNat) (hag : agr (I 58 10).toNat (b 69) Q) (hout : ∀ j, (I 58 10).toNat ≤ j → b 69 j = I 69 j) :
    ∃ b' y4 y5, Sem e 206 35 [some (vr 58), some (vi x1), some (vi x2), some (vi x3), z4, z5] [] (mk w b J) = Sem e 206 139 [some (vr 58), some (vi x1), some (vi x2), some (vi x3), some (vi (b2 (!ex (fun i => decide (dyR (VM f I) (I 58 3).toNat Q (I 58 10).toNat i ≠ Q i)) (I 58 10).toNat))), some (vi y5)] [] (mk w b' J) ∧ y4 = () ∧ eX I b' ∧ agr (I 58 10).toNat (b' 69) (dyR (VM f I) (I 58 3).toNat Q (I 58 10).toNat) ∧ b' 84 = b 84 ∧ ∀ j, (I 58 10).toNat ≤ j → b' 69 j = I 69 j := by
  obtain ⟨hn, h64, h65, hM, -, -⟩ := id hS
  have hD := hK.1.1
  have e1 : ((I 58 10).toNat : Int) = I 58 10 := Int.toNat_of_nonneg hn.1
  rw [b_206_35]
  have b58 := hx 58 (by omega) (by omega) (by omega) (by omega) (by omega) (by omega)
  obtain ⟨y, l1, l2⟩ := lpE (fun (u : Nat) (r : Nat → Int) => Sem e 206 38 [some (vr 58), some (vi x1), some (vi x2), some (vi x3), some (vi (u : Int)), z5] [] (mk w (sr b 88 r) J)) (fun u r => agr u r (b 69)) (I 58 10).toNat (by
    intro u r hu hP
    have hu' := nat_lt hu
    refine ⟨rs r u (b 69 u), ?_, ?_⟩
    · try dsimp only
      rw [b_206_38, sr_ne _ _ (by omega), b58, if_pos (by omega), b_206_47, if_pos (by omega), if_pos (by omega), nat_i, sr_up, wr_n1 (by omega), sr_ne _ _ (by omega)]
    · intro j hj
      rw [rs_at]
      by_cases c : j = u
      · rw [if_pos c, c]
      · rw [if_neg c]; exact hP j (by omega)) (b 88) (by intro j hj; omega)
  try dsimp only at l1
  rw [sr_self, e1] at l1
  have l1' : Sem e 206 38 [some (vr 58), some (vi x1), some (vi x2), some (vi x3), some (vi 0), z5] [] (mk w b J) = _ := l1
  rw [l1', b_206_38, sr_ne _ _ (by omega), b58, if_neg (by omega), b_206_67]
  have hyQ : agr (I 58 10).toNat y Q := fun j hj => (l2 j hj).trans (hag j hj)
  obtain ⟨c, m1, m2, m3, m4, m5, m6⟩ := lpE (fun (i : Nat) (c : Nat → Nat → Int) => Sem e 206 70 [some (vr 58), some (vi x1), some (vi x2), some (vi x3), some (vi (i : Int)), z5] [] (mk w c J)) (fun i c => eX I c ∧ (∀ j, j < i → c 69 j = dyR (VM f I) (I 58 3).toNat Q i j) ∧ c 88 = y ∧ c 84 = b 84 ∧ ∀ j, (I 58 10).toNat ≤ j → c 69 j = I 69 j) (I 58 10).toNat (by
    rintro i c hi ⟨p1, p2, p3, p4, p5⟩
    try dsimp only at p1 p2 p3 p4 p5 ⊢
    have hi' := nat_lt hi
    have c58 := p1 58 (by omega) (by omega) (by omega) (by omega) (by omega) (by omega)
    obtain ⟨c1, k1, k2, k3, k4, k5, k6⟩ := s_205 e w I J f c (dyR (VM f I) (I 58 3).toNat Q i) i (by omega) hK hS p1 hi (dyR_se (by omega) hse i) p2 (fun j j1 j2 => by rw [p3, hyQ j j2, dyR_o _ _ _ i j j1])
    rw [b_206_70, c58, if_pos (by omega), b_206_79, semK_of k1]
    simp only [mpush]
    rw [b_206_91, if_pos (by omega), nat_i, wr_n1 (by omega)]
    refine ⟨_, rfl, ?_, ?_, ?_, ?_, ?_⟩
    · intro c' a1 a2 a3 a4 a5 a6
      rw [up2_ne _ _ _ a1, k2 c' a1 a2 a3 a4 a5 a6]
    · intro j hj
      rw [dyR_s]
      by_cases cj : j = i
      · rw [cj, up2_s, rs_same]
      · rw [up2_sne _ _ _ cj, rs_ne _ _ cj]; exact k3 j (by omega)
    · rw [up2_ne _ _ _ (by omega), k4, p3]
    · rw [up2_ne _ _ _ (by omega), k5, p4]
    · intro j hj
      rw [up2_sne _ _ _ (by omega), k6 j hj, p5 j hj]) (sr b 88 y) ⟨eX_sr hx 88 (by omega) _, fun j hj => absurd hj (by omega), sr_s _ _ _, sr_ne _ _ (by omega), fun j hj => by rw [sr_ne _ _ (by omega)]; exact hout j hj⟩
  try dsimp only at m1 m2 m3 m4 m5 m6
  rw [e1] at m1
  have c58 := m2 58 (by omega) (by omega) (by omega) (by omega) (by omega) (by omega)
  have m1' : Sem e 206 70 [some (vr 58), some (vi x1), some (vi x2), some (vi x3), some (vi 0), z5] [] (mk w (sr b 88 y) J) = _ := m1
  rw [m1', b_206_70, c58, if_neg (by omega), b_206_98]
  obtain ⟨-, n1, -⟩ := lpE (fun (i : Nat) (_ : Unit) => Sem e 206 104 [some (vr 58), some (vi x1), some (vi x2), some (vi x3), some (vi (b2 (!ex (fun i => decide (dyR (VM f I) (I 58 3).toNat Q (I 58 10).toNat i ≠ Q i)) i))), some (vi (i : Int))] [] (mk w c J)) (fun _ _ => True) (I 58 10).toNat (by
    intro i _ hi _
    have hi' := nat_lt hi
    refine ⟨(), ?_, trivial⟩
    try dsimp only
    rw [b_206_104, c58, if_pos (by omega), b_206_113, if_pos (by omega), if_pos (by omega), nat_i, m3 i hi, m4, hyQ i hi, ex_s]
    by_cases cc : dyR (VM f I) (I 58 3).toNat Q (I 58 10).toNat i = Q i
    · rw [if_pos cc, b_206_133, wr_n1 (by omega), decide_eq_false (show ¬ dyR (VM f I) (I 58 3).toNat Q (I 58 10).toNat i ≠ Q i from fun h => h cc), Bool.or_false]
    · rw [if_neg cc, b_206_130, b_206_133, wr_n1 (by omega), decide_eq_true cc, Bool.or_true]
      rfl) () trivial
  try dsimp only at n1
  rw [e1] at n1
  have n1' : Sem e 206 104 [some (vr 58), some (vi x1), some (vi x2), some (vi x3), some (vi 1), some (vi 0)] [] (mk w c J) = _ := n1
  refine ⟨c, (), I 58 10, ?_, rfl, m2, m3, m5, m6⟩
  rw [n1', b_206_104, c58, if_neg (by omega)]
theorem s_206 (d : Nat) (w : Nat × Bool) (I J : Nat → Nat → Int) (f : Int → Int → Int → Int → Int) (x : Int) (hd : 15 ≤ d) (hK : KM f w I) (hS : SM I) :
    ∃ I', semC d 206 [vr 58, vi x] (mk w I J) = some (some (vi (mornR (I 58 10) (I 58 3) (VM f I) (I 69) x)), mk w I' J) ∧ eN I I' := by
  obtain ⟨e, rfl⟩ : ∃ e, d = e + 1 := ⟨d - 1, by omega⟩
  obtain ⟨hn, h64, h65, hM, hs, hds⟩ := id hS
  have hD := hK.1.1
  have e1 : ((I 58 10).toNat : Int) = I 58 10 := Int.toNat_of_nonneg hn.1
  rw [e_206]
  unfold mornR
  by_cases c1 : x = -1 ∨ (0 ≤ x ∧ x < I 58 10)
  · rw [if_pos c1]
    have hfst : Sem e 206 0 [some (vr 58), some (vi x), none, none, none, none] [] (mk w I J) = Sem e 206 16 [some (vr 58), some (vi x), none, none, none, none] [] (mk w I J) := by
      rw [b_206_0]
      by_cases c : x = -1
      · rw [if_pos c]
      · rw [if_neg c, b_206_5, semK_of (s_139 _ _ _ _ _ (by omega) hn), if_pos (by omega)]
        simp only [mpush]
        rw [b_206_10, if_neg (by omega)]
    obtain ⟨r84, a1, a2⟩ := s_196 e w I J (by omega) hn
    rw [hfst, b_206_16, semK_of a1]
    simp only [mpush]
    rw [b_206_20]
    have hend : ∀ (b : Nat → Nat → Int) (y2 y3 : Int) (z4 z5 : Option mVal), eX I b → agr (I 58 10).toNat (b 69) (moF (VM f I) (I 58 3).toNat (I 58 10).toNat (I 69)) → b 84 = r84 → (∀ j, (I 58 10).toNat ≤ j → b 69 j = I 69 j) → y2 = (if moN (VM f I) (I 58 3).toNat (I 58 10).toNat (I 69) = 0 then -2 else (moN (VM f I) (I 58 3).toNat (I 58 10).toNat (I 69) : Int)) →
        ∃ I', Sem e 206 152 [some (vr 58), some (vi x), some (vi y2), some (vi y3), z4, z5] [] (mk w b J) = some (some (vi (if moN (VM f I) (I 58 3).toNat (I 58 10).toNat (I 69) = 0 then -2 else if x = -1 then (moN (VM f I) (I 58 3).toNat (I 58 10).toNat (I 69) : Int) else moF (VM f I) (I 58 3).toNat (I 58 10).toNat (I 69) x.toNat)), mk w I' J) ∧ eN I I' := by
      intro b y2 y3 z4 z5 p1 p2 p3 p4 p5
      have b58 := p1 58 (by omega) (by omega) (by omega) (by omega) (by omega) (by omega)
      have hfin : ∀ v : Int, ∃ I', Sem e 206 170 [some (vr 58), some (vi x), some (vi y2), some (vi y3), z4, z5] [vi v] (mk w b J) = some (some (vi v), mk w I' J) ∧ eN I I' := by
        intro v
        rw [b_206_170, semK_of (s_197 _ _ _ _ (by omega) (by rw [b58]; exact hn))]
        simp only [mpush]
        rw [b_206_175]
        refine ⟨_, rfl, ?_⟩
        intro c h1 h2 h3 h4 h5
        by_cases q : c = 69
        · subst q
          rw [sr_s, b58, p3]
          funext j
          by_cases hj : j < (I 58 10).toNat
          · rw [if_pos hj]; exact a2 j hj
          · rw [if_neg hj]; exact p4 j (by omega)
        · rw [sr_ne _ _ q, p1 c q h1 h2 h3 h4 h5]
      rw [b_206_152]
      by_cases c3 : moN (VM f I) (I 58 3).toNat (I 58 10).toNat (I 69) = 0
      · rw [if_pos c3] at p5
        rw [if_pos (by omega), b_206_160, if_pos c3]
        obtain ⟨I', k1, k2⟩ := hfin y2
        exact ⟨I', by rw [k1, p5], k2⟩
      · rw [if_neg c3] at p5
        rw [if_neg (by omega), b_206_156, if_neg c3]
        by_cases c4 : x = -1
        · rw [if_pos (by omega), b_206_160, if_pos c4]
          obtain ⟨I', k1, k2⟩ := hfin y2
          exact ⟨I', by rw [k1, p5], k2⟩
        · rw [if_neg (by omega), b_206_164, if_pos (by omega), if_neg c4]
          obtain ⟨I', k1, k2⟩ := hfin (b 69 x.toNat)
          exact ⟨I', by rw [k1, p2 _ (by omega)], k2⟩
    refine lpQ (fun (u : Nat) (q : (Nat → Nat → Int) × Option mVal × Option mVal) => Sem e 206 25 [some (vr 58), some (vi x), some (vi (-2)), some (vi ((u : Int) + 1)), q.2.1, q.2.2] [] (mk w q.1 J)) (fun u q => eX I q.1 ∧ agr (I 58 10).toNat (q.1 69) (moQ (VM f I) (I 58 3).toNat (I 58 10).toNat (I 69) u) ∧ q.1 84 = r84 ∧ (∀ j, (I 58 10).toNat ≤ j → q.1 69 j = I 69 j) ∧ ∀ j, j < u → moE (VM f I) (I 58 3).toNat (I 58 10).toNat (I 69) j = false) (fun o => ∃ I', o = some (some (vi (if moN (VM f I) (I 58 3).toNat (I 58 10).toNat (I 69) = 0 then -2 else if x = -1 then (moN (VM f I) (I 58 3).toNat (I 58 10).toNat (I 69) : Int) else moF (VM f I) (I 58 3).toNat (I 58 10).toNat (I 69) x.toNat)), mk w I' J) ∧ eN I I') 50 ?_ ?_ (sr I 84 r84, none, none) ⟨eX_sr (eX_r I) 84 (by omega) _, fun j _ => congrFun (sr_ne I r84 (show (69 : Nat) ≠ 84 by omega)) j, sr_s I 84 r84, fun j _ => congrFun (sr_ne I r84 (show (69 : Nat) ≠ 84 by omega)) j, fun j hj => absurd hj (by omega)⟩
    · rintro u ⟨b, z4, z5⟩ hu ⟨p1, p2, p3, p4, p5⟩
      try dsimp only at p1 p2 p3 p4 p5 ⊢
      obtain ⟨b', -, y5, k1, -, k2, k3, k4, k5⟩ := md_rd e w I J f e b (moQ (VM f I) (I 58 3).toNat (I 58 10).toNat (I 69) u) x (-2) ((u : Int) + 1) z4 z5 (by omega) hK hS p1 (moQ_se (by omega) hs u) p2 p4
      have hE : (!ex (fun i => decide (dyR (VM f I) (I 58 3).toNat (moQ (VM f I) (I 58 3).toNat (I 58 10).toNat (I 69) u) (I 58 10).toNat i ≠ moQ (VM f I) (I 58 3).toNat (I 58 10).toNat (I 69) u i)) (I 58 10).toNat) = moE (VM f I) (I 58 3).toNat (I 58 10).toNat (I 69) u := rfl
      rw [hE] at k1
      rw [b_206_25, if_neg (by omega), b_206_31, if_pos (by omega), k1, b_206_139]
      cases c : moE (VM f I) (I 58 3).toNat (I 58 10).toNat (I 69) u
      · left
        rw [b2_f, if_pos rfl, b_206_146, wr_if (by omega)]
        refine ⟨(b', _, _), rfl, k2, k3, k4.trans p3, k5, ?_⟩
        intro j hj
        by_cases cj : j = u
        · subst cj; exact c
        · exact p5 j (by omega)
      · right
        obtain ⟨v1, v2⟩ := moNs hu c p5
        rw [b2_t, if_neg (by omega), b_206_144, b_206_146, wr_if (by omega), b_206_25]
        have hfi := hend b' ((u : Int) + 1) ((u : Int) + 1 + 1) (some (vi 1)) (some (vi y5)) k2 (by rw [v2]; exact k3) (k4.trans p3) k5 (by rw [v1, if_neg (by omega)]; rfl)
        by_cases c5 : (50 : Int) < (u : Int) + 1 + 1
        · rw [if_pos c5]; exact hfi
        · rw [if_neg c5, b_206_31, if_neg (by omega)]; exact hfi
    · rintro ⟨b, z4, z5⟩ ⟨p1, p2, p3, p4, p5⟩
      try dsimp only at p1 p2 p3 p4 p5 ⊢
      obtain ⟨v1, v2⟩ := moNn p5
      rw [b_206_25, if_pos (by omega)]
      exact hend b (-2) _ z4 z5 p1 (by rw [v2]; exact p2) p3 p4 (by rw [v1, if_pos rfl])
  · rw [if_neg c1]
    refine ⟨I, ?_, fun _ _ _ _ _ _ => rfl⟩
    rw [b_206_0, if_neg (by omega), b_206_5, semK_of (s_139 _ _ _ _ _ (by omega) hn), if_neg (by omega)]
    simp only [mpush]
    rw [b_206_10, if_pos rfl, b_206_13]
