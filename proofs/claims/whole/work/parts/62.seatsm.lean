/-! seats: the reference -/
theorem dg_R {D : Nat} (hD : 0 < D) : ∀ n c j, j < n → 0 ≤ dg D n c j ∧ dg D n c j < D
  | 0, _, _, h => by omega
  | n + 1, c, j, h => by
    show 0 ≤ rs (dg D n (c / D)) n ((c % D : Nat) : Int) j ∧ rs (dg D n (c / D)) n ((c % D : Nat) : Int) j < D
    rw [rs_at]
    have := Nat.mod_lt c hD
    split
    · omega
    · exact dg_R hD n (c / D) j (by omega)
theorem dec (w : Nat × Bool) (J : Nat → Nat → Int) (e n D : Nat) (x1 : Int) (g : Nat → Int) (hn : n ≤ 10) (hD : 0 < D ∧ D ≤ 10) (hg : ∀ j, j < n → 0 ≤ g j ∧ g j < D) : ∀ (m c : Nat) (x3 : Int) (b : Nat → Nat → Int), m ≤ n → c < 1000000 → b 58 3 = (D : Int) → (∀ j, j < m → dg D m c j = g j) → (∀ j, m ≤ j → j < n → b 69 j = g j) → (∀ d : Nat, d < 10 → (iand (ishr x3 d) 1 = 1 ↔ ∃ j, m ≤ j ∧ j < n ∧ g j = (d : Int))) → (∀ j k, m ≤ j → j < k → k < n → g j ≠ g k) →
    ∃ r', Sem e 198 12 [some (vr 58), some (vi x1), some (vi (c : Int)), some (vi x3), some (vi ((m : Int) - 1))] [] (mk w b J) = some (some (vi (b2 (pwb n g))), mk w (sr b 69 r') J) ∧ (pwb n g = true → agr n r' g) ∧ ∀ j, n ≤ j → r' j = b 69 j := by
  intro m
  induction m with
  | zero =>
    intro c x3 b hm hc h58 h1 h2 h3 h4
    have hp : pwb n g = true := (pwb_iff n g).2 (fun j k hj hk => h4 j k (by omega) hj hk)
    refine ⟨b 69, ?_, fun _ j hj => h2 j (by omega) hj, fun _ _ => rfl⟩
    rw [b_198_12, if_pos (by omega), b_198_72, hp, sr_self]
    rfl
  | succ m ih =>
    intro c x3 b hm hc h58 h1 h2 h3 h4
    have hgm : ((c % D : Nat) : Int) = g m := by
      rw [← h1 m (by omega)]
      show _ = rs (dg D m (c / D)) m ((c % D : Nat) : Int) m
      rw [rs_same]
    have hgR := hg m (by omega)
    have hlt := Nat.mod_lt c hD.1
    have hdv : c / D ≤ c := Nat.div_le_self c D
    have t1 : Int.tmod (c : Int) (D : Int) = g m := by rw [← hgm]; rfl
    have t2 : Int.tdiv (c : Int) (D : Int) = ((c / D : Nat) : Int) := rfl
    rw [show ((m + 1 : Nat) : Int) - 1 = (m : Int) by omega, b_198_12, if_neg (by omega), b_198_17, h58, if_neg (by omega), if_pos (by omega), if_neg (by omega), if_pos (by omega), nat_i, t1, t2, up2_s, wr_if (show (-2147483648 : Int) ≤ ((c / D : Nat) : Int) ∧ ((c / D : Nat) : Int) < 2147483648 from ⟨by have : (0 : Int) ≤ ((c / D : Nat) : Int) := Int.natCast_nonneg _; omega, by have : ((c / D : Nat) : Int) ≤ (c : Int) := Int.ofNat_le.2 hdv; omega⟩)]
    have hb3 := h3 (c % D) (by omega)
    rw [hgm] at hb3
    by_cases cb : iand (ishr x3 (g m)) 1 = 1
    · rw [if_pos cb, b_198_52, up2_sr]
      obtain ⟨j, j1, j2, j3⟩ := hb3.1 cb
      have hp : pwb n g = false := by
        cases q : pwb n g
        · rfl
        · exact absurd j3.symm ((pwb_iff n g).1 q m j (by omega) j2)
      rw [hp]
      refine ⟨_, rfl, (fun h => by cases h), ?_⟩
      intro k hk
      rw [rs_ne _ _ (by omega)]
    · rw [if_neg cb, b_198_54, if_pos (by omega), nat_i, up2_s, wr_if (by omega)]
      have hdg : ∀ j, j < m → dg D m (c / D) j = g j := by
        intro j hj
        rw [← h1 j (by omega)]
        show _ = rs (dg D m (c / D)) m ((c % D : Nat) : Int) j
        rw [rs_ne _ _ (by omega)]
      obtain ⟨r', k1, k2, k3⟩ := ih (c / D) (ior x3 (ishl 1 (g m))) (up2 b 69 m (g m)) (by omega) (by omega) (by rw [up2_ne _ _ _ (by omega)]; exact h58) hdg (by
        intro j j1 j2
        by_cases q : j = m
        · subst q; rw [up2_s]
        · rw [up2_sne _ _ _ q]; exact h2 j (by omega) j2) (by
        intro d hd
        rw [← hgm, bit_set x3 (c % D) d (by omega) hd, h3 d hd]
        constructor
        · rintro (h | ⟨j, j1, j2, j3⟩)
          · exact ⟨m, by omega, by omega, by omega⟩
          · exact ⟨j, by omega, j2, j3⟩
        · rintro ⟨j, j1, j2, j3⟩
          by_cases q : j = m
          · subst q; left; omega
          · exact Or.inr ⟨j, by omega, j2, j3⟩) (by
        intro j k j1 j2 j3
        by_cases q : j = m
        · subst q
          intro he
          exact cb (hb3.2 ⟨k, by omega, j3, he.symm⟩)
        · exact h4 j k (by omega) j2 j3)
      rw [show (m : Int) + -1 = (m : Int) - 1 by omega]
      refine ⟨r', ?_, k2, ?_⟩
      · rw [k1, up2_sr, sr_sr]
      · intro j hj
        rw [k3 j hj, up2_sne _ _ _ (by omega)]
theorem s_198 (d : Nat) (w : Nat × Bool) (I J : Nat → Nat → Int) (c : Nat) (D : Nat) (hd : 1 ≤ d) (hn : 0 ≤ I 58 10 ∧ I 58 10 ≤ 10) (hD : I 58 3 = (D : Int)) (hD2 : 0 < D ∧ D ≤ 10) (hc : c < 1000000) :
    ∃ r', semC d 198 [vr 58, vi c] (mk w I J) = some (some (vi (b2 (pwb (I 58 10).toNat (dg D (I 58 10).toNat c)))), mk w (sr I 69 r') J) ∧ (pwb (I 58 10).toNat (dg D (I 58 10).toNat c) = true → agr (I 58 10).toNat r' (dg D (I 58 10).toNat c)) ∧ ∀ j, (I 58 10).toNat ≤ j → r' j = I 69 j := by
  obtain ⟨e, rfl⟩ : ∃ e, d = e + 1 := ⟨d - 1, by omega⟩
  have e1 : ((I 58 10).toNat : Int) = I 58 10 := Int.toNat_of_nonneg hn.1
  rw [e_198, b_198_0, wr_if (by omega)]
  have h := dec w J e (I 58 10).toNat D c (dg D (I 58 10).toNat c) (by omega) hD2 (fun j hj => dg_R hD2.1 _ c j hj) (I 58 10).toNat c 0 I (Nat.le_refl _) hc hD (fun _ _ => rfl) (fun j h1 h2 => absurd h2 (by omega)) (by
    intro d hd
    constructor
    · intro h; exact absurd h (bit_0 d hd)
    · rintro ⟨j, h1, h2, -⟩; omega) (fun j k h1 h2 h3 => absurd h3 (by omega))
  rw [e1] at h
  exact h
theorem pw_dst {n : Nat} {r g : Nat → Int} (h : pwb n g = true) (ha : agr n r g) : dst r n := by
  intro i j hi hj hij he
  have hp := (pwb_iff n g).1 h
  rw [ha i hi, ha j hj] at he
  by_cases c : i < j
  · exact absurd he (hp i j c hj)
  · exact absurd he.symm (hp j i (by omega) hi)
def SHm (n : Nat) (x3 x4 : Int) (b : Nat → Nat → Int) (s : sS) : Prop := x3 = b2 s.1 ∧ (s.1 = true → x4 = s.2.1 ∧ agr n (b 85) s.2.2)
theorem cp85 (w : Nat × Bool) (I J : Nat → Nat → Int) (e : Nat) (x1 x2 x3 x4 x5 x6 : Int) (b : Nat → Nat → Int) (hn : 0 ≤ I 58 10 ∧ I 58 10 ≤ 10) (hx : eX I b) :
    ∃ r, Sem e 199 135 [some (vr 58), some (vi x1), some (vi x2), some (vi x3), some (vi x4), some (vi x5), some (vi x6), some (vi 0)] [] (mk w b J) = Sem e 199 164 [some (vr 58), some (vi x1), some (vi x2), some (vi x3), some (vi x4), some (vi x5), some (vi x6), some (vi (I 58 10))] [] (mk w (sr b 85 r) J) ∧ agr (I 58 10).toNat r (b 69) := by
  have e1 : ((I 58 10).toNat : Int) = I 58 10 := Int.toNat_of_nonneg hn.1
  have g58 := hx 58 (by omega) (by omega) (by omega) (by omega) (by omega) (by omega)
  obtain ⟨r, l1, l2⟩ := lpE (fun (u : Nat) (r : Nat → Int) => Sem e 199 135 [some (vr 58), some (vi x1), some (vi x2), some (vi x3), some (vi x4), some (vi x5), some (vi x6), some (vi (u : Int))] [] (mk w (sr b 85 r) J)) (fun u r => agr u r (b 69)) (I 58 10).toNat (by
    intro u r hu hP
    have hu' := nat_lt hu
    refine ⟨rs r u (b 69 u), ?_, ?_⟩
    · try dsimp only
      rw [b_199_135, sr_ne _ _ (by omega), g58, if_pos (by omega), b_199_144, if_pos (by omega), if_pos (by omega), nat_i, sr_up, wr_n1 (by omega), sr_ne _ _ (by omega)]
    · intro j hj
      rw [rs_at]
      by_cases c : j = u
      · rw [if_pos c, c]
      · rw [if_neg c]; exact hP j (by omega)) (b 85) (by intro j hj; omega)
  try dsimp only at l1
  rw [sr_self, e1] at l1
  refine ⟨r, l1.trans ?_, l2⟩
  rw [b_199_135, sr_ne _ _ (by omega), g58, if_neg (by omega)]
theorem pw6 {D n : Nat} (hD : D ≤ 6) (hn : n ≤ 5) : D ^ n ≤ 7776 := by
  have h1 : D ^ n ≤ 6 ^ n := Nat.pow_le_pow_left hD n
  have h2 : 6 ^ n ≤ 6 ^ 5 := Nat.pow_le_pow_right (by omega) hn
  have h3 : (6 : Nat) ^ 5 = 7776 := by decide
  omega
theorem s_199 (d : Nat) (w : Nat × Bool) (I J : Nat → Nat → Int) (f : Int → Int → Int → Int → Int) (x : Int) (hd : 15 ≤ d) (hK : KM f w I) (hS : SM I) :
    ∃ I', semC d 199 [vr 58, vi x] (mk w I J) = some (some (vi (seatsR (I 58 10) (I 58 3) (NM f I) x)), mk w I' J) ∧ eN I I' := by
  obtain ⟨e, rfl⟩ : ∃ e, d = e + 1 := ⟨d - 1, by omega⟩
  obtain ⟨hn, h64, h65, hM, hs, hds⟩ := id hS
  have hD := hK.1.1
  have e1 : ((I 58 10).toNat : Int) = I 58 10 := Int.toNat_of_nonneg hn.1
  have hN : ∀ q q', agr (I 58 10).toNat q q' → NM f I q = NM f I q' := nt_ag
  rw [e_199]
  unfold seatsR
  by_cases c1 : x = -1 ∨ (0 ≤ x ∧ x < I 58 10)
  · have hfst : Sem e 199 0 [some (vr 58), some (vi x), none, none, none, none, none, none] [] (mk w I J) = Sem e 199 13 [some (vr 58), some (vi x), none, none, none, none, none, none] [] (mk w I J) := by
      rw [b_199_0]
      by_cases c : x = -1
      · rw [if_pos c]
      · rw [if_neg c, b_199_5, semK_of (s_139 _ _ _ _ _ (by omega) hn), if_pos (by omega)]
        simp only [mpush]
        rw [b_199_10, if_neg (by omega)]
    rw [hfst]
    by_cases c2 : I 58 10 ≠ 0 ∧ I 58 10 ≤ 5 ∧ I 58 3 ≤ 6 ∧ I 58 10 ≤ I 58 3
    · rw [if_pos ⟨c1, c2⟩, b_199_13, if_neg (by omega), b_199_20, if_neg (by omega), b_199_28, if_neg (by omega), b_199_37, if_neg (by omega), b_199_51]
      obtain ⟨r84, a1, a2⟩ := s_196 e w I J (by omega) hn
      rw [semK_of a1]
      simp only [mpush]
      rw [b_199_55]
      obtain ⟨D, hDD⟩ : ∃ D : Nat, I 58 3 = D := ⟨(I 58 3).toNat, by omega⟩
      have hD1 : (I 58 3).toNat = D := by omega
      have hD6 : D ≤ 6 := by omega
      have hD0 : 0 < D := by omega
      have g58 : sr I 84 r84 58 = I 58 := sr_ne _ _ (by omega)
      obtain ⟨-, l1, -⟩ := lpE (fun (u : Nat) (_ : Unit) => Sem e 199 59 [some (vr 58), some (vi x), some (vi ((D ^ u : Nat) : Int)), some (vi (u : Int)), none, none, none, none] [] (mk w (sr I 84 r84) J)) (fun _ _ => True) (I 58 10).toNat (by
        intro u _ hu _
        have hu' := nat_lt hu
        refine ⟨(), ?_, trivial⟩
        try dsimp only
        have hp := pw6 (D := D) (n := u + 1) hD6 (by omega)
        have hps : ((D ^ u : Nat) : Int) * (D : Int) = ((D ^ (u + 1) : Nat) : Int) := by rw [Nat.pow_succ, Int.natCast_mul]
        rw [b_199_59, g58, if_pos (by omega), b_199_67, g58, hDD, hps, wr_n1 (by omega), wr_if (by omega)]) () trivial
      try dsimp only at l1
      rw [e1] at l1
      have l1' : Sem e 199 59 [some (vr 58), some (vi x), some (vi 1), some (vi 0), none, none, none, none] [] (mk w (sr I 84 r84) J) = _ := l1
      rw [l1', b_199_59, g58, if_neg (by omega), b_199_80]
      have hpw := pw6 (D := D) (n := (I 58 10).toNat) hD6 (by omega)
      generalize hPW : D ^ (I 58 10).toNat = PW at hpw
      obtain ⟨⟨b, y3, y4, z6, z7⟩, m1, m2, m3, m4, m5⟩ := lpE (fun (c : Nat) (q : (Nat → Nat → Int) × Int × Int × Option mVal × Option mVal) => Sem e 199 88 [some (vr 58), some (vi x), some (vi (PW : Int)), some (vi q.2.1), some (vi q.2.2.1), some (vi (c : Int)), q.2.2.2.1, q.2.2.2.2] [] (mk w q.1 J)) (fun c q => eX I q.1 ∧ (∀ j, (I 58 10).toNat ≤ j → q.1 69 j = I 69 j) ∧ q.1 84 = r84 ∧ SHm (I 58 10).toNat q.2.1 q.2.2.1 q.1 (itc (stp (NM f I) D (I 58 10).toNat) 0 c (false, 0, fun _ => 0))) PW (by
        rintro c ⟨b, y3, y4, z6, z7⟩ hc ⟨p1, p2, p3, p4⟩
        try dsimp only at p1 p2 p3 p4 ⊢
        have b58 := p1 58 (by omega) (by omega) (by omega) (by omega) (by omega) (by omega)
        have hit : itc (stp (NM f I) D (I 58 10).toNat) 0 (c + 1) (false, 0, fun _ => 0) = stp (NM f I) D (I 58 10).toNat c (itc (stp (NM f I) D (I 58 10).toNat) 0 c (false, 0, fun _ => 0)) := by
          show stp (NM f I) D (I 58 10).toNat (0 + c) _ = _
          rw [Nat.zero_add]
        rw [hit]
        generalize itc (stp (NM f I) D (I 58 10).toNat) 0 c (false, 0, fun _ => 0) = s at p4
        obtain ⟨r', d1, d2, d3⟩ := s_198 e w b J c D (by omega) (by rw [b58]; exact hn) (by rw [b58]; exact hDD) (by omega) (by omega)
        rw [b58] at d1 d2 d3
        have x1 : eX I (sr b 69 r') := eX_sr p1 69 (by omega) _
        have x2 : ∀ j, (I 58 10).toNat ≤ j → sr b 69 r' 69 j = I 69 j := fun j hj => by rw [sr_s, d3 j hj, p2 j hj]
        have x84 : sr b 69 r' 84 = r84 := by rw [sr_ne _ _ (by omega), p3]
        have x85 : sr b 69 r' 85 = b 85 := sr_ne _ _ (by omega)
        rw [b_199_88, if_pos (by omega), b_199_94, semK_of d1]
        simp only [mpush]
        rw [b_199_100]
        cases cp : pwb (I 58 10).toNat (dg D (I 58 10).toNat c)
        · have hst : stp (NM f I) D (I 58 10).toNat c s = s := by unfold stp; rw [cp, if_neg (by simp)]
          rw [b2_f, if_pos rfl, b_199_103, b_199_164, wr_n1 (by omega), hst]
          refine ⟨(sr b 69 r', y3, y4, z6, z7), rfl, x1, x2, x84, p4.1, fun h => ⟨(p4.2 h).1, ?_⟩⟩
          show agr _ (sr b 69 r' 85) _
          rw [x85]; exact (p4.2 h).2
        · have hag := d2 cp
          have hdst : dst r' (I 58 10).toNat := pw_dst cp hag
          have hse : seR r' (I 58 10).toNat := fun j hj => by
            have := dg_R hD0 (I 58 10).toNat c j hj
            rw [hag j hj]; right; omega
          obtain ⟨b', n1, n2, n3, n4⟩ := s_188s e w I J f (sr b 69 r') r' (by omega) hK hS x1 (sr_s _ _ _) hse hdst
          rw [hN _ _ hag] at n1
          have hst : stp (NM f I) D (I 58 10).toNat c s = upS (NM f I) s (dg D (I 58 10).toNat c) := by unfold stp; rw [cp, if_pos rfl]
          have v2 : ∀ j, (I 58 10).toNat ≤ j → b' 69 j = I 69 j := fun j hj => by rw [n4, d3 j hj, p2 j hj]
          have v84 : b' 84 = r84 := (n3 84 (by omega) (by omega)).trans x84
          have v85 : b' 85 = b 85 := (n3 85 (by omega) (by omega)).trans x85
          rw [b2_t, if_neg (by omega), b_199_106, semK_of n1, hst]
          simp only [mpush]
          rw [b_199_110]
          have upd : (s.1 = false ∨ s.2.1 < NM f I (dg D (I 58 10).toNat c)) → ∃ q : (Nat → Nat → Int) × Int × Int × Option mVal × Option mVal, Sem e 199 126 [some (vr 58), some (vi x), some (vi (PW : Int)), some (vi y3), some (vi y4), some (vi (c : Int)), some (vi (NM f I (dg D (I 58 10).toNat c))), z7] [] (mk w b' J) = Sem e 199 88 [some (vr 58), some (vi x), some (vi (PW : Int)), some (vi q.2.1), some (vi q.2.2.1), some (vi ((c + 1 : Nat) : Int)), q.2.2.2.1, q.2.2.2.2] [] (mk w q.1 J) ∧ eX I q.1 ∧ (∀ j, (I 58 10).toNat ≤ j → q.1 69 j = I 69 j) ∧ q.1 84 = r84 ∧ SHm (I 58 10).toNat q.2.1 q.2.2.1 q.1 (upS (NM f I) s (dg D (I 58 10).toNat c)) := by
            intro hc
            obtain ⟨r85, o1, o2⟩ := cp85 w I J e x PW 1 (NM f I (dg D (I 58 10).toNat c)) c (NM f I (dg D (I 58 10).toNat c)) b' hn n2
            have hup : upS (NM f I) s (dg D (I 58 10).toNat c) = (true, NM f I (dg D (I 58 10).toNat c), dg D (I 58 10).toNat c) := by unfold upS; rw [if_pos hc]
            rw [hup]
            refine ⟨(sr b' 85 r85, 1, NM f I (dg D (I 58 10).toNat c), some (vi (NM f I (dg D (I 58 10).toNat c))), some (vi (I 58 10))), ?_, eX_sr n2 85 (by omega) _, ?_, ?_, rfl, fun _ => ⟨rfl, ?_⟩⟩
            · rw [b_199_126, o1, b_199_164, wr_n1 (by omega)]
            · intro j hj
              show sr b' 85 r85 69 j = I 69 j
              rw [sr_ne _ _ (by omega)]; exact v2 j hj
            · show sr b' 85 r85 84 = r84
              rw [sr_ne _ _ (by omega), v84]
            · show agr _ (sr b' 85 r85 85) _
              rw [sr_s]
              intro j hj
              exact (o2 j hj).trans ((congrFun n4 j).trans (hag j hj))
          by_cases c4 : s.1 = true
          · have h3 : y3 = 1 := by rw [p4.1, c4]; rfl
            have h4 := (p4.2 c4).1
            rw [h3, if_neg (by omega), b_199_116, h4]
            rw [h3, h4] at upd
            by_cases c5 : s.2.1 < NM f I (dg D (I 58 10).toNat c)
            · rw [if_pos c5]
              exact upd (Or.inr c5)
            · have hup : upS (NM f I) s (dg D (I 58 10).toNat c) = s := by
                unfold upS
                rw [if_neg]
                rintro (h | h)
                · rw [c4] at h; cases h
                · exact c5 h
              rw [if_neg c5, b_199_123, b_199_164, wr_n1 (by omega), hup]
              refine ⟨(b', 1, s.2.1, some (vi (NM f I (dg D (I 58 10).toNat c))), z7), rfl, n2, v2, v84, by rw [c4]; rfl, fun h => ⟨rfl, ?_⟩⟩
              show agr _ (b' 85) _
              rw [v85]; exact (p4.2 h).2
          · have c4' : s.1 = false := by simpa using c4
            have h3 : y3 = 0 := by rw [p4.1, c4']; rfl
            rw [h3] at upd ⊢
            rw [if_pos rfl]
            exact upd (Or.inl c4')) (sr I 84 r84, 0, 0, none, none) ⟨eX_sr (eX_r I) 84 (by omega) _, fun j _ => congrFun (sr_ne I r84 (show (69 : Nat) ≠ 84 by omega)) j, sr_s I 84 r84, rfl, fun h => by cases h⟩
      try dsimp only at m1 m2 m3 m4 m5
      have hdfs := (itc_dfs (NM f I) D (I 58 10).toNat (I 58 10).toNat 0 0 (false, 0, fun _ => 0) (by omega)).1 (fun j k _ hk => absurd hk (by omega))
      rw [Nat.zero_mul, hPW] at hdfs
      rw [hdfs] at m5
      have hf := dfs_f (NM f I) D (I 58 10).toNat 0 (fun _ => 0) (false, 0, fun _ => 0) (by omega) (fun j hj => absurd hj (by omega))
      obtain ⟨h4, h85⟩ := m5.2 hf
      have b58 := m2 58 (by omega) (by omega) (by omega) (by omega) (by omega) (by omega)
      have m1' : Sem e 199 88 [some (vr 58), some (vi x), some (vi (PW : Int)), some (vi 0), some (vi 0), some (vi 0), none, none] [] (mk w (sr I 84 r84) J) = _ := m1
      rw [m1', b_199_88, if_neg (by omega), b_199_170, semK_of (s_197 _ _ _ _ (by omega) (by rw [b58]; exact hn))]
      simp only [mpush]
      refine ⟨sr b 69 (fun k => if k < (b 58 10).toNat then b 84 k else b 69 k), ?_, ?_⟩
      · rw [b_199_174, hD1]
        by_cases c3 : x = -1
        · rw [if_pos (by omega), if_pos c3, b_199_178, b_199_189, h4]
          rfl
        · rw [if_neg (by omega), if_neg c3, b_199_183, if_pos (by omega), b_199_189, sr_ne _ _ (by omega), h85 _ (by omega)]
          rfl
      · intro c h1 h2 h3 h4 h5
        by_cases q : c = 69
        · subst q
          rw [sr_s, b58, m4]
          funext j
          by_cases hj : j < (I 58 10).toNat
          · rw [if_pos hj]; exact a2 j hj
          · rw [if_neg hj]; exact m3 j (by omega)
        · rw [sr_ne _ _ q, m2 c q h1 h2 h3 h4 h5]
    · rw [if_neg (fun h => c2 h.2)]
      refine ⟨I, ?_, fun _ _ _ _ _ _ => rfl⟩
      rw [b_199_13]
      by_cases d1 : I 58 10 = 0
      · rw [if_pos d1, b_199_48]
      · rw [if_neg d1, b_199_20]
        by_cases d2 : (5 : Int) < I 58 10
        · rw [if_pos d2, b_199_48]
        · rw [if_neg d2, b_199_28]
          by_cases d3 : (6 : Int) < I 58 3
          · rw [if_pos d3, b_199_48]
          · rw [if_neg d3, b_199_37, if_pos (by omega), b_199_48]
  · rw [if_neg (fun h => c1 h.1)]
    refine ⟨I, ?_, fun _ _ _ _ _ _ => rfl⟩
    rw [b_199_0, if_neg (by omega), b_199_5, semK_of (s_139 _ _ _ _ _ (by omega) hn), if_neg (by omega)]
    simp only [mpush]
    rw [b_199_10, if_pos rfl, b_199_48]
