/-! the reference lays a law in its place -/
theorem i2s_1 (n : Nat) (h : n < 30000) : i2s (n : Int) = (n : Int) := by
  unfold i2s
  rw [Int.bmod_def]
  split <;> omega
theorem cp_105 (d : Nat) (w : Nat × Bool) (I J : Nat → Nat → Int) (e : Nat) (b : Nat → Nat → Int) (n : Nat) (hn : n ≤ 120) (h31 : b 58 31 = (n : Int)) (hb : ∀ i, i < n → -128 ≤ b 75 (130 + i) ∧ b 75 (130 + i) < 128) :
    ∃ c, Sem e 171 103 [some (vr 58), some (vi 0), none] [] (mk w b J) = Sem e 171 163 [some (vr 58), some (vi 0), some (vi (n : Int))] [] (mk w c J) ∧ (∀ r, r ≠ 75 → r ≠ 76 → c r = b r) ∧ (∀ i, 130 ≤ i → c 75 i = b 75 i ∧ c 76 i = b 76 i) ∧ ∀ i, i < n → c 75 i = b 75 (130 + i) ∧ c 76 i = b 76 (130 + i) := by
  rw [b_171_103]
  refine lpQ (fun (k : Nat) (c : Nat → Nat → Int) => Sem e 171 105 [some (vr 58), some (vi 0), some (vi (k : Int))] [] (mk w c J)) (fun k c => (∀ r, r ≠ 75 → r ≠ 76 → c r = b r) ∧ (∀ i, 130 ≤ i → c 75 i = b 75 i ∧ c 76 i = b 76 i) ∧ ∀ i, i < k → c 75 i = b 75 (130 + i) ∧ c 76 i = b 76 (130 + i))
    (fun o => ∃ c, o = Sem e 171 163 [some (vr 58), some (vi 0), some (vi (n : Int))] [] (mk w c J) ∧ (∀ r, r ≠ 75 → r ≠ 76 → c r = b r) ∧ (∀ i, 130 ≤ i → c 75 i = b 75 i ∧ c 76 i = b 76 i) ∧ ∀ i, i < n → c 75 i = b 75 (130 + i) ∧ c 76 i = b 76 (130 + i)) n ?_ ?_ b ⟨fun _ _ _ => rfl, fun _ _ => ⟨rfl, rfl⟩, fun i hi => absurd hi (Nat.not_lt_zero i)⟩
  · rintro k c hk ⟨p1, p2, p3⟩
    left
    try dsimp only
    have hv := hb k hk
    have hc := p2 (130 + k) (by omega)
    rw [b_171_105, p1 58 (by omega) (by omega), h31, if_pos (by omega), b_171_113, show wr ((130 : Int) * 0) = 0 from rfl, wr_if (a := 130 + (k : Int)) (by omega), wr_if (a := 0 + (k : Int)) (by omega), if_pos (by omega), if_pos (by omega), if_pos (by omega), if_pos (by omega), show (130 + (k : Int)).toNat = 130 + k by omega, show (0 + (k : Int)).toNat = k by omega, wr_n1 (by omega), hc.1, hc.2, i2b_s hv]
    refine ⟨_, rfl, ?_, ?_, ?_⟩
    · intro r a1 a2
      rw [up2_ne _ _ _ a2, up2_ne _ _ _ a1]; exact p1 r a1 a2
    · intro i hi
      refine ⟨?_, ?_⟩
      · rw [up2_ne _ _ _ (by omega), up2_sne _ _ _ (by omega)]; exact (p2 i hi).1
      · rw [up2_sne _ _ _ (by omega), up2_ne _ _ _ (by omega)]; exact (p2 i hi).2
    · intro i hi
      by_cases c1 : i = k
      · subst c1
        refine ⟨?_, ?_⟩
        · rw [up2_ne _ _ _ (by omega), up2_s]
        · rw [up2_s]
      · refine ⟨?_, ?_⟩
        · rw [up2_ne _ _ _ (by omega), up2_sne _ _ _ c1]; exact (p3 i (by omega)).1
        · rw [up2_sne _ _ _ c1, up2_ne _ _ _ (by omega)]; exact (p3 i (by omega)).2
  · rintro c ⟨p1, p2, p3⟩
    try dsimp only
    rw [b_171_105, p1 58 (by omega) (by omega), h31, if_neg (by omega)]
    exact ⟨c, rfl, p1, p2, p3⟩
theorem cp_163 (d : Nat) (w : Nat × Bool) (I J : Nat → Nat → Int) (e : Nat) (b : Nat → Nat → Int) (n : Int) (m : Nat) (hm : m ≤ 61) (h77 : b 77 1 = (m : Int)) (hb : ∀ i, i < m → ∃ x y : Nat, b 78 (61 + i) = (x : Int) ∧ b 79 (61 + i) = (y : Int) ∧ x < 30000 ∧ y < 30000) :
    ∃ c, Sem e 171 163 [some (vr 58), some (vi 0), some (vi n)] [] (mk w b J) = some (some (vi (-1)), mk w c J) ∧ (∀ r, r ≠ 77 → r ≠ 78 → r ≠ 79 → c r = b r) ∧ c 77 0 = (m : Int) ∧ ∀ i, i < m → c 78 i = b 78 (61 + i) ∧ c 79 i = b 79 (61 + i) := by
  rw [b_171_163, if_pos (by omega), if_pos (by omega), show ((1 : Int)).toNat = 1 from rfl, show ((0 : Int)).toNat = 0 from rfl, h77]
  refine lpQ (fun (k : Nat) (c : Nat → Nat → Int) => Sem e 171 177 [some (vr 58), some (vi 0), some (vi (k : Int))] [] (mk w c J)) (fun k c => (∀ r, r ≠ 77 → r ≠ 78 → r ≠ 79 → c r = b r) ∧ c 77 0 = (m : Int) ∧ (∀ i, 61 ≤ i → c 78 i = b 78 i ∧ c 79 i = b 79 i) ∧ ∀ i, i < k → c 78 i = b 78 (61 + i) ∧ c 79 i = b 79 (61 + i))
    (fun o => ∃ c, o = some (some (vi (-1)), mk w c J) ∧ (∀ r, r ≠ 77 → r ≠ 78 → r ≠ 79 → c r = b r) ∧ c 77 0 = (m : Int) ∧ ∀ i, i < m → c 78 i = b 78 (61 + i) ∧ c 79 i = b 79 (61 + i)) m ?_ ?_ (up2 b 77 0 (m : Int)) ⟨fun r a1 a2 a3 => up2_ne _ _ _ a1, up2_s _ _ _ _, fun i hi => ⟨by rw [up2_ne _ _ _ (by omega)], by rw [up2_ne _ _ _ (by omega)]⟩, fun i hi => absurd hi (Nat.not_lt_zero i)⟩
  · rintro k c hk ⟨p1, p2, p4, p3⟩
    left
    try dsimp only
    obtain ⟨x, y, hx, hy, hx1, hy1⟩ := hb k hk
    have hc := p4 (61 + k) (by omega)
    rw [b_171_177, if_pos (by omega), show ((0 : Int)).toNat = 0 from rfl, p2, if_pos (by omega), b_171_187, show wr ((61 : Int) * 0) = 0 from rfl, wr_if (a := 61 + (k : Int)) (by omega), wr_if (a := 0 + (k : Int)) (by omega), if_pos (by omega), if_pos (by omega), if_pos (by omega), if_pos (by omega), show (61 + (k : Int)).toNat = 61 + k by omega, show (0 + (k : Int)).toNat = k by omega, wr_n1 (by omega), hc.1, hc.2, hx, hy, i2s_1 x hx1, i2s_1 y hy1]
    refine ⟨_, rfl, ?_, ?_, ?_, ?_⟩
    · intro r a1 a2 a3
      rw [up2_ne _ _ _ a3, up2_ne _ _ _ a2]; exact p1 r a1 a2 a3
    · rw [up2_ne _ _ _ (by omega), up2_ne _ _ _ (by omega)]; exact p2
    · intro i hi
      refine ⟨?_, ?_⟩
      · rw [up2_ne _ _ _ (by omega), up2_sne _ _ _ (by omega)]; exact (p4 i hi).1
      · rw [up2_sne _ _ _ (by omega), up2_ne _ _ _ (by omega)]; exact (p4 i hi).2
    · intro i hi
      by_cases c1 : i = k
      · subst c1
        refine ⟨?_, ?_⟩
        · rw [up2_ne _ _ _ (by omega), up2_s, hx]
        · rw [up2_s, hy]
      · refine ⟨?_, ?_⟩
        · rw [up2_ne _ _ _ (by omega), up2_sne _ _ _ c1]; exact (p3 i (by omega)).1
        · rw [up2_sne _ _ _ c1, up2_ne _ _ _ (by omega)]; exact (p3 i (by omega)).2
  · rintro c ⟨p1, p2, p4, p3⟩
    try dsimp only
    rw [b_171_177, if_pos (by omega), show ((0 : Int)).toNat = 0 from rfl, p2, if_neg (by omega), b_171_233]
    exact ⟨c, rfl, p1, p2, p3⟩
theorem lns_b {tp : Nat → Int} {len : Nat} (h : tpk tp len) : ∀ m p, p ≤ len → (lns tp m p).2.1 ≤ 100000
  | 0, p, hp => by have := h.1; show p ≤ 100000; omega
  | m + 1, p, hp => by
    have hl := h.1
    obtain ⟨hl1, hl2, hl3⟩ := ln_R h hp
    rw [lns_s]
    by_cases c1 : (ln tp p).1 = true
    · rw [if_pos c1]
      by_cases c2 : tp (ln tp p).2.1 = 59
      · rw [if_pos c2]
        have hin : (ln tp p).2.1 < len := by
          by_cases q : (ln tp p).2.1 < len
          · exact q
          · have := h.2.2 _ (show len ≤ (ln tp p).2.1 by omega); omega
        exact lns_b h m ((ln tp p).2.1 + 1) (by omega)
      · rw [if_neg c2]
        split <;> (show (ln tp p).2.1 ≤ 100000; omega)
    · rw [if_neg c1]
      show (ln tp p).2.1 ≤ 100000
      omega
/-- the reference's law, whole -/
theorem s_175 (d : Nat) (w : Nat × Bool) (I J : Nat → Nat → Int) (tp : Nat → Int) (len : Nat) (hd : 103 ≤ d) (hT : TM0 I tp len) :
    ∃ b', (∀ c, c ≠ 58 → c ≠ 75 → c ≠ 76 → c ≠ 77 → c ≠ 78 → c ≠ 79 → b' c = I c) ∧ (∀ k, k ≠ 27 → k ≠ 28 → k ≠ 29 → k ≠ 30 → k ≠ 31 → k ≠ 39 → b' 58 k = I 58 k) ∧ b' 58 27 = 0 ∧ (((lns tp 61 0).1 = true ∧ semC d 175 [vr 58] (mk w I J) = some (some (vi 1), mk w b' J) ∧ b' 58 39 = 1 ∧ (flt (lns tp 61 0).2.2).length ≤ 120 ∧ (lns tp 61 0).2.2.length ≤ 61 ∧ b' 77 0 = ((lns tp 61 0).2.2.length : Nat) ∧ seg2 (b' 75) (b' 76) 0 (flt (lns tp 61 0).2.2) ∧ lnM (b' 78) (b' 79) 0 0 (lns tp 61 0).2.2)
      ∨ ((lns tp 61 0).1 = false ∧ semC d 175 [vr 58] (mk w I J) = some (some (vi (-100 - ((lns tp 61 0).2.1 : Int))), mk w b' J) ∧ b' 58 39 = I 58 39 ∧ agM I b')) := by
  obtain ⟨e, rfl⟩ : ∃ e, d = e + 2 := ⟨d - 2, by omega⟩
  have htk := hT.2.1
  have hlen := htk.1
  obtain ⟨b, k0, k⟩ := rd_171 e w I J e tp len (by omega) hT
  obtain ⟨z1, z2, z3, z4, z5⟩ := k0
  have y1 : ∀ c, c ≠ 58 → c ≠ 75 → c ≠ 76 → c ≠ 77 → c ≠ 78 → c ≠ 79 → b c = I c := fun c a1 a2 a3 a4 a5 a6 => by rw [z1 c a1 a2 a3 a4 a5 a6, up2_ne _ _ _ a1]
  have y2 : ∀ k, k ≠ 27 → k ≠ 28 → k ≠ 29 → k ≠ 30 → k ≠ 31 → b 58 k = I 58 k := fun k a0 a1 a2 a3 a4 => by rw [z2 k a1 a2 a3 a4, up2_sne _ _ _ a0]
  have y3 : b 58 27 = 0 := by rw [z2 27 (by omega) (by omega) (by omega) (by omega), up2_s]
  have yg : agM I b := by
    refine ⟨fun k hk => ?_, ?_, fun k hk => ?_⟩
    · have := z3 k hk; rw [up2_ne _ _ _ (by omega), up2_ne _ _ _ (by omega)] at this; exact this
    · have := z4; rw [up2_ne _ _ _ (by omega)] at this; exact this
    · have := z5 k hk; rw [up2_ne _ _ _ (by omega), up2_ne _ _ _ (by omega)] at this; exact this
  rcases k with ⟨k1, k2, k3, k4, k5, k6, k7, k8⟩ | ⟨k1, k2⟩
  · obtain ⟨g1, g2, g3, g4⟩ := lns_G htk 61 0 (Nat.zero_le _) k1
    generalize (lns tp 61 0).2.2 = Ls at k3 k4 k5 k6 k7 k8 g1 g2
    obtain ⟨c, c1, c2, c3, c4⟩ := cp_105 e w I J e b (flt Ls).length k4 k3 (fun i hi => by
      obtain ⟨x, hx, hv⟩ := segm_at (flt Ls) 0 k7 i (Nat.zero_le _) (by omega)
      have := cok_R (flt_ok Ls g1 x hx)
      omega)
    obtain ⟨c', d1, d2, d3, d4⟩ := cp_163 e w I J e c (((flt Ls).length : Nat) : Int) Ls.length k6 (by rw [c2 77 (by omega) (by omega)]; exact k5) (fun i hi => by
      obtain ⟨x, y, hx, hy, hx1, hy1⟩ := lnM_at Ls 0 0 k8 i hi
      rw [c2 78 (by omega) (by omega), c2 79 (by omega) (by omega)]
      rw [Nat.zero_add] at hx hy
      exact ⟨x, y, hx, hy, by omega, by omega⟩)
    have h171 : semC (e + 1) 171 [vr 58, vi 0] (mk w I J) = some (some (vi (-1)), mk w c' J) := by rw [k2, c1, d1]
    refine ⟨up2 c' 58 39 1, ?_, ?_, ?_, Or.inl ⟨k1, ?_, up2_s _ _ _ _, k4, k6, ?_, ?_, ?_⟩⟩
    · intro r a1 a2 a3 a4 a5 a6
      rw [up2_ne _ _ _ a1, d2 r a4 a5 a6, c2 r a2 a3]; exact y1 r a1 a2 a3 a4 a5 a6
    · intro k a1 a2 a3 a4 a5 a6
      rw [up2_sne _ _ _ a6, d2 58 (by omega) (by omega) (by omega), c2 58 (by omega) (by omega)]; exact y2 k a1 a2 a3 a4 a5
    · rw [up2_sne _ _ _ (by omega), d2 58 (by omega) (by omega) (by omega), c2 58 (by omega) (by omega)]; exact y3
    · rw [e_175, b_175_0, semK_of h171]
      simp only [mpush]
      rw [b_175_5, if_pos (by omega), b_175_15]
    · rw [up2_ne _ _ _ (by omega)]; exact d3
    · rw [up2_ne _ _ _ (by omega), up2_ne _ _ _ (by omega), d2 75 (by omega) (by omega) (by omega), d2 76 (by omega) (by omega) (by omega)]
      exact segm_2 _ 0 (fun i _ h2 => c4 i (by omega)) k7
    · rw [up2_ne _ _ _ (by omega), up2_ne _ _ _ (by omega)]
      refine lnM_x Ls 0 0 (fun j _ h2 => ?_) k8
      have := d4 j (by omega)
      rw [c2 78 (by omega) (by omega), c2 79 (by omega) (by omega)] at this
      exact this
  · refine ⟨b, y1, fun k a1 a2 a3 a4 a5 _ => y2 k a1 a2 a3 a4 a5, y3, Or.inr ⟨k1, ?_, y2 39 (by omega) (by omega) (by omega) (by omega) (by omega), yg⟩⟩
    have hb : (lns tp 61 0).2.1 ≤ 100000 := lns_b htk 61 0 (Nat.zero_le _)
    rw [e_175, b_175_0, semK_of k2]
    simp only [mpush]
    rw [b_175_5, if_neg (by omega), b_175_10, wr_if (by omega)]
