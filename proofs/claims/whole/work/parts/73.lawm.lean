/-! the law's reader of the reference -/
def segm (r75 r76 : Nat → Int) (n : Nat) : List (Int × Int) → Prop
  | [] => True
  | c :: cs => r75 (130 + n) = c.1 ∧ r76 (130 + n) = c.2 ∧ segm r75 r76 (n + 1) cs
theorem segm_a (r75 r76 : Nat → Int) : ∀ c1 c2 n, segm r75 r76 n (c1 ++ c2) ↔ segm r75 r76 n c1 ∧ segm r75 r76 (n + c1.length) c2
  | [], c2, n => by simp [segm]
  | c :: cs, c2, n => by
    show _ ∧ _ ∧ segm r75 r76 (n + 1) (cs ++ c2) ↔ (_ ∧ _ ∧ segm r75 r76 (n + 1) cs) ∧ segm r75 r76 (n + (cs.length + 1)) c2
    rw [segm_a r75 r76 cs c2 (n + 1), show n + 1 + cs.length = n + (cs.length + 1) by omega, and_assoc, and_assoc]
theorem segm_x {r75 r76 r75' r76' : Nat → Int} : ∀ c n, (∀ i, n ≤ i → i < n + c.length → r75' (130 + i) = r75 (130 + i) ∧ r76' (130 + i) = r76 (130 + i)) → segm r75 r76 n c → segm r75' r76' n c
  | [], _, _, _ => trivial
  | c :: cs, n, h, hs => by
    have h0 := h n (Nat.le_refl _) (by show n < n + (cs.length + 1); omega)
    exact ⟨h0.1.trans hs.1, h0.2.trans hs.2.1, segm_x cs (n + 1) (fun i h1 h2 => h i (by omega) (by show i < n + (cs.length + 1); omega)) hs.2.2⟩
def tm (I : Nat → Nat → Int) (len p : Nat) : Int := if p < len then I 74 p else -1
def TM0 (I : Nat → Nat → Int) (tp : Nat → Int) (len : Nat) : Prop := I 58 27 = (len : Int) ∧ tpk tp len ∧ ∀ p, tm I len p = tp p ∨ (tm I len p < 0 ∧ 128 ≤ tp p)
/-- rows and fields that a reading leaves -/
def EL (I b : Nat → Nat → Int) : Prop := (∀ c, c ≠ 58 → c ≠ 75 → c ≠ 76 → b c = I c) ∧ (∀ k, k ≠ 28 → k ≠ 29 → k ≠ 30 → k ≠ 31 → b 58 k = I 58 k) ∧ ∀ k, k < 130 → b 75 k = I 75 k ∧ b 76 k = I 76 k
def ML (I : Nat → Nat → Int) (len : Nat) (b : Nat → Nat → Int) (p n dep : Nat) : Prop := EL I b ∧ b 58 28 = (p : Int) ∧ b 58 29 = -1 ∧ b 58 30 = (dep : Int) ∧ b 58 31 = (n : Int) ∧ p ≤ len ∧ n ≤ p
def MF (I : Nat → Nat → Int) (len : Nat) (b : Nat → Nat → Int) (q n : Nat) : Prop := EL I b ∧ b 58 28 = (q : Int) ∧ b 58 29 = (q : Int) ∧ b 58 31 = (n : Int) ∧ q ≤ len ∧ n ≤ q + 1
theorem EL_u {I b : Nat → Nat → Int} (h : EL I b) (k : Nat) (v : Int) (hk : k = 28 ∨ k = 29 ∨ k = 30 ∨ k = 31) : EL I (up2 b 58 k v) := by
  refine ⟨fun c a1 a2 a3 => by rw [up2_ne _ _ _ a1, h.1 c a1 a2 a3], fun k' a1 a2 a3 a4 => by rw [up2_sne _ _ _ (by omega), h.2.1 k' a1 a2 a3 a4], fun k' hk' => ?_⟩
  rw [up2_ne _ _ _ (by omega), up2_ne _ _ _ (by omega)]; exact h.2.2 k' hk'
theorem s_158 (d : Nat) (w : Nat × Bool) (I J : Nat → Nat → Int) (b : Nat → Nat → Int) (tp : Nat → Int) (len p : Nat) (hd : 1 ≤ d) (hT : TM0 I tp len) (hE : EL I b) (h28 : b 58 28 = (p : Int)) : semC d 158 [vr 58] (mk w b J) = some (some (vi (tm I len p)), mk w b J) := by
  obtain ⟨e, rfl⟩ : ∃ e, d = e + 1 := ⟨d - 1, by omega⟩
  have hl := hT.2.1.1
  rw [e_158, b_158_0, h28, hE.2.1 27 (by omega) (by omega) (by omega) (by omega), hT.1]
  unfold tm
  by_cases c : p < len
  · rw [if_pos (by omega), if_pos c, b_158_11, h28, if_pos (by omega), nat_i, hE.1 74 (by omega) (by omega) (by omega), b_158_24]
  · rw [if_neg (by omega), if_neg c, b_158_23, b_158_24]
theorem s_159l (d : Nat) (w : Nat × Bool) (I J : Nat → Nat → Int) (b : Nat → Nat → Int) (len p n dep : Nat) (hd : 1 ≤ d) (hM : ML I len b p n dep) : ∃ b', semC d 159 [vr 58] (mk w b J) = some (none, mk w b' J) ∧ MF I len b' p n ∧ b' 75 = b 75 ∧ b' 76 = b 76 := by
  obtain ⟨e, rfl⟩ : ∃ e, d = e + 1 := ⟨d - 1, by omega⟩
  obtain ⟨h1, h2, h3, h4, h5, h6, h7⟩ := hM
  refine ⟨up2 b 58 29 (b 58 28), ?_, ⟨EL_u h1 29 _ (by omega), ?_, ?_, ?_, h6, by omega⟩, up2_ne _ _ _ (by omega), up2_ne _ _ _ (by omega)⟩
  · rw [e_159, b_159_0, h3, if_pos (by omega), b_159_7, b_159_15]
  · rw [up2_sne _ _ _ (by omega), h2]
  · rw [up2_s, h2]
  · rw [up2_sne _ _ _ (by omega), h5]
theorem i2b_s {a : Int} (h : -128 ≤ a ∧ a < 128) : i2b a = a := by
  unfold i2b
  rw [Int.bmod_def]
  split <;> omega
/-- one is laid -/
theorem s_160 (d : Nat) (w : Nat × Bool) (I J : Nat → Nat → Int) (b : Nat → Nat → Int) (a x : Int) (n : Nat) (hd : 1 ≤ d) (hE : EL I b) (hn : b 58 31 = (n : Int)) (hn1 : n < 130) (ha : -128 ≤ a ∧ a < 128) :
    ∃ b', semC d 160 [vr 58, vi a, vi x] (mk w b J) = some (none, mk w b' J) ∧ EL I b' ∧ (∀ k, k ≠ 31 → b' 58 k = b 58 k) ∧ b' 58 31 = ((n + 1 : Nat) : Int) ∧ b' 75 (130 + n) = a ∧ b' 76 (130 + n) = x ∧ ∀ i, i ≠ n → b' 75 (130 + i) = b 75 (130 + i) ∧ b' 76 (130 + i) = b 76 (130 + i) := by
  obtain ⟨e, rfl⟩ : ∃ e, d = e + 1 := ⟨d - 1, by omega⟩
  refine ⟨up2 (up2 (up2 b 75 (130 + n) a) 76 (130 + n) x) 58 31 ((n + 1 : Nat) : Int), ?_, ⟨?_, ?_, ?_⟩, ?_, ?_, ?_, ?_, ?_⟩
  · rw [e_160, b_160_0, hn, wr_if (a := 130 + (n : Int)) (by omega), if_pos (by omega), if_pos (by omega), i2b_s ha, i2b_s ha, wr_n1 (by omega), show ((130 : Int) + (n : Int)).toNat = 130 + n by omega]
  · intro c a1 a2 a3
    rw [up2_ne _ _ _ a1, up2_ne _ _ _ a3, up2_ne _ _ _ a2, hE.1 c a1 a2 a3]
  · intro k a1 a2 a3 a4
    rw [up2_sne _ _ _ a4, up2_ne _ _ _ (by omega), up2_ne _ _ _ (by omega), hE.2.1 k a1 a2 a3 a4]
  · intro k hk
    refine ⟨?_, ?_⟩
    · rw [up2_ne _ _ _ (show (75 : Nat) ≠ 58 by omega), up2_ne _ _ _ (show (75 : Nat) ≠ 76 by omega), up2_sne _ _ _ (by omega)]; exact (hE.2.2 k hk).1
    · rw [up2_ne _ _ _ (show (76 : Nat) ≠ 58 by omega), up2_sne _ _ _ (by omega), up2_ne _ _ _ (show (76 : Nat) ≠ 75 by omega)]; exact (hE.2.2 k hk).2
  · intro k hk
    rw [up2_sne _ _ _ hk, up2_ne _ _ _ (by omega), up2_ne _ _ _ (by omega)]
  · rw [up2_s]
  · rw [up2_ne _ _ _ (by omega), up2_ne _ _ _ (by omega), up2_s]
  · rw [up2_ne _ _ _ (by omega), up2_s]
  · intro i hi
    refine ⟨?_, ?_⟩
    · rw [up2_ne _ _ _ (show (75 : Nat) ≠ 58 by omega), up2_ne _ _ _ (show (75 : Nat) ≠ 76 by omega), up2_sne _ _ _ (by omega)]
    · rw [up2_ne _ _ _ (show (76 : Nat) ≠ 58 by omega), up2_sne _ _ _ (by omega), up2_ne _ _ _ (show (76 : Nat) ≠ 75 by omega)]
theorem s_161 (d : Nat) (w : Nat × Bool) (I J : Nat → Nat → Int) (c : Int) (hd : 1 ≤ d) : semC d 161 [vi c] (mk w I J) = some (some (vi (nam c)), mk w I J) := by
  obtain ⟨e, rfl⟩ : ∃ e, d = e + 1 := ⟨d - 1, by omega⟩
  rw [e_161]
  unfold nam
  simp only [b_161_0, b_161_44, b_161_46, b_161_48, b_161_50, b_161_52]
  repeat' split
  all_goals first | rfl | (exfalso; omega)
/-- the reference's states: laid on, or at fault -/
theorem ML_lay (d : Nat) (w : Nat × Bool) (I J : Nat → Nat → Int) (b : Nat → Nat → Int) (a x : Int) (len p n dep : Nat) (hd : 1 ≤ d) (hl : len ≤ 120) (hM : ML I len b p n dep) (hnp : n < p) (ha : -128 ≤ a ∧ a < 128) :
    ∃ b', semC d 160 [vr 58, vi a, vi x] (mk w b J) = some (none, mk w b' J) ∧ ML I len b' p (n + 1) dep ∧ b' 75 (130 + n) = a ∧ b' 76 (130 + n) = x ∧ ∀ i, i ≠ n → b' 75 (130 + i) = b 75 (130 + i) ∧ b' 76 (130 + i) = b 76 (130 + i) := by
  obtain ⟨h1, h2, h3, h4, h5, h6, h7⟩ := hM
  obtain ⟨b', k1, k2, k3, k4, k5, k6, k7⟩ := s_160 d w I J b a x n hd h1 h5 (by omega) ha
  exact ⟨b', k1, ⟨k2, by rw [k3 28 (by omega), h2], by rw [k3 29 (by omega), h3], by rw [k3 30 (by omega), h4], k4, h6, by omega⟩, k5, k6, k7⟩
theorem MF_lay (d : Nat) (w : Nat × Bool) (I J : Nat → Nat → Int) (b : Nat → Nat → Int) (a x : Int) (len q n : Nat) (hd : 1 ≤ d) (hl : len ≤ 120) (hM : MF I len b q n) (hn : n ≤ q) (ha : -128 ≤ a ∧ a < 128) :
    ∃ b', semC d 160 [vr 58, vi a, vi x] (mk w b J) = some (none, mk w b' J) ∧ MF I len b' q (n + 1) := by
  obtain ⟨h1, h2, h3, h5, h6, h7⟩ := hM
  obtain ⟨b', k1, k2, k3, k4, k5, k6, k7⟩ := s_160 d w I J b a x n hd h1 h5 (by omega) ha
  exact ⟨b', k1, ⟨k2, by rw [k3 28 (by omega), h2], by rw [k3 29 (by omega), h3], k4, h6, by omega⟩⟩
theorem ML_n {I b : Nat → Nat → Int} {len p n dep : Nat} (hM : ML I len b p n dep) (hp : p < len) (hl : len ≤ 120) : ML I len (up2 b 58 28 (wr (b 58 28 + 1))) (p + 1) n dep ∧ up2 b 58 28 (wr (b 58 28 + 1)) 75 = b 75 ∧ up2 b 58 28 (wr (b 58 28 + 1)) 76 = b 76 := by
  obtain ⟨h1, h2, h3, h4, h5, h6, h7⟩ := hM
  refine ⟨⟨EL_u h1 28 _ (by omega), ?_, ?_, ?_, ?_, by omega, by omega⟩, up2_ne _ _ _ (by omega), up2_ne _ _ _ (by omega)⟩
  · rw [up2_s, h2, wr_n1 (by omega)]
  · rw [up2_sne _ _ _ (by omega), h3]
  · rw [up2_sne _ _ _ (by omega), h4]
  · rw [up2_sne _ _ _ (by omega), h5]
/-- what comes of one reading; for a rest, behind what stands -/
def OM (I : Nat → Nat → Int) (len : Nat) (b : Nat → Nat → Int) (p n dep : Nat) (r : cRes) (b' : Nat → Nat → Int) : Prop :=
  (r.1 = true ∧ ML I len b' r.2.1 (n + r.2.2.length) dep ∧ segm (b' 75) (b' 76) n r.2.2 ∧ ∀ i, i < n → b' 75 (130 + i) = b 75 (130 + i) ∧ b' 76 (130 + i) = b 76 (130 + i)) ∨ (r.1 = false ∧ ∃ n', MF I len b' r.2.1 n' ∧ n' + p ≤ n + r.2.1 + 1)
theorem s_163 (d : Nat) (w : Nat × Bool) (I J : Nat → Nat → Int) (b : Nat → Nat → Int) (tp : Nat → Int) (len p n dep g : Nat) (hd : 2 ≤ d) (hT : TM0 I tp len) (hM : ML I len b p n dep) (hno : nam (tp p) < 0 ∧ tp p ≠ 40 ∧ tp p ≠ 33 ∧ tp p ≠ 45) :
    ∃ b', semC d 163 [vr 58] (mk w b J) = some (none, mk w b' J) ∧ OM I len b p n dep (pr tp (g + 1) 5 dep p) b' := by
  obtain ⟨e, rfl⟩ : ∃ e, d = e + 1 := ⟨d - 1, by omega⟩
  have htk := hT.2.1
  have hl := htk.1
  have hrel := hT.2.2
  have hdg : ∀ q, (48 ≤ tm I len q ∧ tm I len q ≤ 57) ↔ dig (tp q) = true := by
    intro q
    unfold dig
    rw [decide_eq_true_eq]
    rcases hrel q with h | h
    · rw [h]
    · constructor <;> intro hh <;> omega
  rw [e_163, b_163_0]
  have key : ∃ b1, Sem e 163 4 [some (vr 58), some (vi 0), some (vi 0)] [] (mk w b J) = Sem e 163 52 [some (vr 58), some (vi (nmb tp p 4).2), some (vi ((nmb tp p 4).1 : Int))] [] (mk w b1 J) ∧ ML I len b1 (p + (nmb tp p 4).1) n dep ∧ b1 75 = b 75 ∧ b1 76 = b 76 := by
    refine lpQ (fun (m : Nat) (c : Nat → Nat → Int) => Sem e 163 4 [some (vr 58), some (vi (nmb tp p m).2), some (vi (m : Int))] [] (mk w c J)) (fun m c => (nmb tp p m).1 = m ∧ ML I len c (p + m) n dep ∧ c 75 = b 75 ∧ c 76 = b 76) (fun o => ∃ b1, o = Sem e 163 52 [some (vr 58), some (vi (nmb tp p 4).2), some (vi ((nmb tp p 4).1 : Int))] [] (mk w b1 J) ∧ ML I len b1 (p + (nmb tp p 4).1) n dep ∧ b1 75 = b 75 ∧ b1 76 = b 76) 4 ?_ ?_ b ⟨rfl, hM, rfl, rfl⟩
    · rintro m c hm ⟨q1, q2, q3, q4⟩
      try dsimp only at q1 q2 q3 q4 ⊢
      have h58 := s_158 e w I J c tp len (p + m) (by omega) hT q2.1 q2.2.1
      rw [b_163_4, if_pos (by omega), b_163_9, semK_of h58]
      simp only [mpush]
      rw [b_163_13, semK_of (s_135 _ _ _ _ _ _ _ (by omega))]
      simp only [mpush]
      rw [b_163_20]
      cases cd : dig (tp (p + m))
      · right
        have hnd : ¬ (48 ≤ tm I len (p + m) ∧ tm I len (p + m) ≤ 57) := by rw [hdg, cd]; simp
        have h4 : nmb tp p 4 = nmb tp p m := by
          have hs : nmb tp p (m + 1) = nmb tp p m := by rw [nmb_s, if_neg (by rw [cd]; simp)]
          have hlt : (nmb tp p (m + 1)).1 < m + 1 := by rw [hs]; omega
          have := nmb_st hlt (4 - (m + 1))
          rw [show m + 1 + (4 - (m + 1)) = 4 by omega] at this
          rw [this, hs]
        rw [if_neg hnd, if_pos rfl, h4, q1]
        exact ⟨c, rfl, q2, q3, q4⟩
      · left
        have hyd := (hdg (p + m)).2 cd
        have hpm := dig_in htk cd
        have hv := nmb_v (tp := tp) p m
        have hvb : (nmb tp p m).2 < 1000 := by
          have e3 : (10 : Int) ^ m ≤ 10 ^ 3 := by
            rcases (show m = 0 ∨ m = 1 ∨ m = 2 ∨ m = 3 by omega) with h | h | h | h <;> subst h <;> decide
          have e4 : (10 : Int) ^ 3 = 1000 := by decide
          omega
        have htt : tm I len (p + m) = tp (p + m) := by
          rcases hrel (p + m) with h | h
          · exact h
          · omega
        have hnx : nmb tp p (m + 1) = (m + 1, 10 * (nmb tp p m).2 + tp (p + m) - 48) := by rw [nmb_s, if_pos ⟨q1, cd⟩]
        rw [if_pos hyd, if_neg (by omega), b_163_23, semK_of h58]
        simp only [mpush]
        rw [b_163_31, wr_n1 (by omega), wr_if (a := 10 * _) (by omega), wr_if (a := _ + tm I len (p + m)) (by omega), wr_if (a := _ - 48) (by omega), htt]
        obtain ⟨c1, c2, c3⟩ := ML_n q2 hpm hl
        refine ⟨_, ?_, ?_, c1, c2.trans q3, c3.trans q4⟩
        · rw [hnx]
        · rw [hnx]
    · rintro c ⟨q1, q2, q3, q4⟩
      try dsimp only at q1 q2 q3 q4 ⊢
      rw [b_163_4, if_neg (by omega)]
      exact ⟨c, by rw [q1], by rw [q1]; exact q2, q3, q4⟩
  obtain ⟨b1, k1, k2, k3, k4⟩ := key
  have hle := nmb_le (tp := tp) (p := p) 4
  rw [k1, b_163_52]
  have h58 := s_158 e w I J b1 tp len (p + (nmb tp p 4).1) (by omega) hT k2.1 k2.2.1
  have hnp := hM.2.2.2.2.2.2
  -- at fault, then laid
  have hbad : ∀ r : cRes, r = (false, p + (nmb tp p 4).1, []) → ∃ b', Sem e 163 70 [some (vr 58), some (vi (nmb tp p 4).2), some (vi ((nmb tp p 4).1 : Int))] [] (mk w b1 J) = some (none, mk w b' J) ∧ OM I len b p n dep r b' := by
    intro r hr
    subst hr
    obtain ⟨b2, m1, m2, m3, m4⟩ := s_159l e w I J b1 len _ n dep (by omega) k2
    obtain ⟨b3, n1, n2⟩ := MF_lay e w I J b2 1 (nmb tp p 4).2 len _ n (by omega) hl m2 (by omega) (by omega)
    rw [b_163_70, semK_of m1]
    simp only [mpush]
    rw [b_163_74, semK_of n1]
    simp only [mpush]
    rw [b_163_80]
    exact ⟨b3, rfl, Or.inr ⟨rfl, n + 1, n2, by show n + 1 + p ≤ n + (p + (nmb tp p 4).1) + 1; omega⟩⟩
  cases cd : dig (tp p)
  · have h0 : nmb tp p 4 = (0, 0) := by
      have hs : nmb tp p 1 = (0, 0) := by show (if (0 : Nat) = 0 ∧ dig (tp (p + 0)) = true then _ else _) = _; rw [Nat.add_zero, cd, if_neg (by simp)]; rfl
      have := nmb_st (tp := tp) (p := p) (m := 1) (by rw [hs]; show 0 < 1; omega) 3
      rw [show 1 + 3 = 4 from rfl] at this
      rw [this, hs]
    have hr : pr tp (g + 1) 5 dep p = (false, p + (nmb tp p 4).1, []) := by
      rw [pr_5, if_neg (by rw [cd]; simp), if_neg (by omega), if_neg hno.2.1, if_neg (by omega), h0]
      rfl
    have z1 : ((nmb tp p 4).1 : Int) = 0 := by rw [h0]; rfl
    rw [if_pos z1]
    exact hbad _ hr
  · have h1 : 1 ≤ (nmb tp p 4).1 := nmb_1 cd 3
    rw [if_neg (by omega), b_163_56, semK_of h58]
    simp only [mpush]
    rw [b_163_60, semK_of (s_135 _ _ _ _ _ _ _ (by omega))]
    simp only [mpush]
    rw [b_163_67]
    cases c5 : dig (tp (p + (nmb tp p 4).1))
    · have hnd : ¬ (48 ≤ tm I len (p + (nmb tp p 4).1) ∧ tm I len (p + (nmb tp p 4).1) ≤ 57) := by rw [hdg, c5]; simp
      obtain ⟨b3, n1, n2, n3, n4, n5⟩ := ML_lay e w I J b1 1 (nmb tp p 4).2 len _ n dep (by omega) hl k2 (by omega) (by omega)
      have hr : pr tp (g + 1) 5 dep p = (true, p + (nmb tp p 4).1, [(1, (nmb tp p 4).2)]) := by rw [pr_5, if_pos cd, if_neg (by rw [c5]; simp)]
      rw [if_neg hnd, if_pos rfl, b_163_74, semK_of n1, hr]
      simp only [mpush]
      rw [b_163_80]
      refine ⟨b3, rfl, Or.inl ⟨rfl, n2, ⟨n3, n4, trivial⟩, fun i hi => ?_⟩⟩
      rw [← k3, ← k4]; exact n5 i (by omega)
    · have hyd := (hdg (p + (nmb tp p 4).1)).2 c5
      have hr : pr tp (g + 1) 5 dep p = (false, p + (nmb tp p 4).1, []) := by rw [pr_5, if_pos cd, if_pos c5]
      rw [if_pos hyd, if_neg (by omega)]
      exact hbad _ hr
/-- what the reference tells: kinds 0 .. 5 are methods 169 .. 164 -/
def AMr (w : Nat × Bool) (I J : Nat → Nat → Int) (tp : Nat → Int) (len g k : Nat) : Prop := ∀ (dep p n d : Nat) (b : Nat → Nat → Int), dep ≤ 6 → muk len k p ≤ g → 12 + 8 * (6 - dep) + (6 - k) ≤ d → ML I len b p n dep →
  ∃ b', semC d (169 - k) [vr 58] (mk w b J) = some (none, mk w b' J) ∧ OM I len b p n dep (pr tp g k dep p) b'
/-- the rests: from where in which method -/
def RMr (w : Nat × Bool) (J : Nat → Nat → Int) (e l : Nat) (b : Nat → Nat → Int) (o : Option mOut) : Prop := if l = 0 then Sem e 169 4 [some (vr 58)] [] (mk w b J) = o else if l = 1 then Sem e 168 4 [some (vr 58)] [] (mk w b J) = o else if l = 2 then Sem e 167 4 [some (vr 58), none] [] (mk w b J) = o else if l = 3 then ∀ u, Sem e 166 4 [some (vr 58), u] [] (mk w b J) = o else ∀ u, Sem e 165 4 [some (vr 58), u] [] (mk w b J) = o
def LMr (w : Nat × Bool) (I J : Nat → Nat → Int) (tp : Nat → Int) (len g l : Nat) : Prop := ∀ (dep p n e : Nat) (b : Nat → Nat → Int), dep ≤ 6 → muk len (l + 6) p ≤ g → 12 + 8 * (6 - dep) + (5 - l) ≤ e → ML I len b p n dep →
  ∃ b', RMr w J e l b (some (none, mk w b' J)) ∧ OM I len b p n dep (pr tp g (l + 6) dep p) b'
theorem RMr_F {w : Nat × Bool} {I J : Nat → Nat → Int} {tp : Nat → Int} {len e l q n : Nat} {b : Nat → Nat → Int} (he : 1 ≤ e) (hT : TM0 I tp len) (hl : l < 5) (hM : MF I len b q n) : RMr w J e l b (some (none, mk w b J)) := by
  obtain ⟨h1, h2, h3, h5, h6, h7⟩ := hM
  have h158 := s_158 e w I J b tp len q he hT h1 h2
  unfold RMr
  rcases (show l = 0 ∨ l = 1 ∨ l = 2 ∨ l = 3 ∨ l = 4 by omega) with h | h | h | h | h <;> subst h
  · rw [if_pos rfl, b_169_4, h3, if_neg (by omega), b_169_44]
  · rw [if_neg (by omega), if_pos rfl, b_168_4, h3, if_neg (by omega), b_168_44]
  · rw [if_neg (by omega), if_neg (by omega), if_pos rfl, b_167_4, semK_of h158]
    simp only [mpush]
    rw [b_167_8, h3, if_neg (by omega), b_167_34]
  · rw [if_neg (by omega), if_neg (by omega), if_neg (by omega), if_pos rfl]
    intro u
    rw [b_166_4, h3, if_neg (by omega), b_166_57]
  · rw [if_neg (by omega), if_neg (by omega), if_neg (by omega), if_neg (by omega)]
    intro u
    rw [b_165_4, h3, if_neg (by omega), b_165_66]
/-- an act of two, once its sign is read -/
theorem op_on (w : Nat × Bool) (I J : Nat → Nat → Int) (tp : Nat → Int) (len g l dep p n e : Nat) (b : Nat → Nat → Int) (hT : TM0 I tp len) (hl : l < 5) (hdep : dep ≤ 6) (hm : muk len (l + 6) p ≤ g + 1) (he : 12 + 8 * (6 - dep) + (5 - l) ≤ e) (hM : ML I len b p n dep) (hlv : lvl (tp p) = l) (ihA : ∀ k, k ≤ 5 → AMr w I J tp len g k) (ihL : ∀ l, l < 5 → LMr w I J tp len g l) :
    ∃ b1 b2 b', semC e (168 - l) [vr 58] (mk w (up2 b 58 28 (wr (b 58 28 + 1))) J) = some (none, mk w b1 J) ∧ semC e 160 [vr 58, vi (tp p), vi 0] (mk w b1 J) = some (none, mk w b2 J) ∧ (l ≠ 2 → RMr w J e l b2 (some (none, mk w b' J))) ∧ (l = 2 → b' = b2) ∧ OM I len b p n dep (pr tp (g + 1) (l + 6) dep p) b' := by
  have htk := hT.2.1
  have hlen := htk.1
  have hpl := lvl_in htk (show lvl (tp p) < 5 by omega)
  have hlr := (lvl_R (tp p)).2 (by omega)
  have hc128 : -128 ≤ tp p ∧ tp p < 128 := by omega
  obtain ⟨n1, n2, n3⟩ := ML_n hM hpl hlen
  unfold muk at hm
  rw [if_neg (by omega)] at hm
  have hplen := hM.2.2.2.2.2.1
  have hnp := hM.2.2.2.2.2.2
  obtain ⟨b1, k1, k2⟩ := ihA (l + 1) (by omega) dep (p + 1) n e _ hdep (by unfold muk; rw [if_pos (by omega)]; omega) (by omega) n1
  rw [show 169 - (l + 1) = 168 - l by omega] at k1
  have hpR := pr_R htk g (l + 1) dep (p + 1) (by omega) (by omega)
  rw [pr_r, if_pos hlv]
  rcases k2 with ⟨r1, r2, r3, r4⟩ | ⟨r1, n', r2, r3⟩
  · obtain ⟨b2, v1, v2, v3, v4, v5⟩ := ML_lay e w I J b1 (tp p) 0 len _ _ dep (by omega) hlen r2 (by omega) hc128
    have hseg : segm (b2 75) (b2 76) n ((pr tp g (l + 1) dep (p + 1)).2.2 ++ [(tp p, 0)]) := by
      rw [segm_a]
      refine ⟨segm_x _ n (fun i h1 h2 => v5 i (by omega)) r3, v3, v4, trivial⟩
    have hlow : ∀ i, i < n → b2 75 (130 + i) = b 75 (130 + i) ∧ b2 76 (130 + i) = b 76 (130 + i) := fun i hi => by
      have t1 := v5 i (by omega)
      have t2 := r4 i hi
      rw [n2, n3] at t2
      exact ⟨t1.1.trans t2.1, t1.2.trans t2.2⟩
    have hlen1 : ((pr tp g (l + 1) dep (p + 1)).2.2 ++ [(tp p, 0)]).length = (pr tp g (l + 1) dep (p + 1)).2.2.length + 1 := by rw [List.length_append]; rfl
    rw [if_pos r1]
    by_cases c2 : l = 2
    · rw [if_pos c2]
      refine ⟨b1, b2, b2, k1, v1, fun h => absurd c2 h, fun _ => rfl, Or.inl ⟨rfl, ?_, hseg, hlow⟩⟩
      show ML I len b2 _ (n + ((pr tp g (l + 1) dep (p + 1)).2.2 ++ [(tp p, 0)]).length) dep
      rw [hlen1]; exact v2
    · obtain ⟨b3, q1, q2⟩ := ihL l hl dep (pr tp g (l + 1) dep (p + 1)).2.1 (n + (pr tp g (l + 1) dep (p + 1)).2.2.length + 1) e b2 hdep (by unfold muk; rw [if_neg (by omega)]; have := hpR.2.2.2 (by omega) r1; omega) he v2
      rw [if_neg c2]
      refine ⟨b1, b2, b3, k1, v1, fun _ => q1, fun h => absurd h c2, ?_⟩
      rcases q2 with ⟨s1, s2, s3, s4⟩ | ⟨s1, n'', s2, s3⟩
      · refine Or.inl ⟨s1, ?_, ?_, ?_⟩
        · show ML I len b3 _ (n + (_ ++ _ ++ _ : List (Int × Int)).length) dep
          rw [List.length_append, hlen1, show n + ((pr tp g (l + 1) dep (p + 1)).2.2.length + 1 + (pr tp g (l + 6) dep (pr tp g (l + 1) dep (p + 1)).2.1).2.2.length) = n + (pr tp g (l + 1) dep (p + 1)).2.2.length + 1 + (pr tp g (l + 6) dep (pr tp g (l + 1) dep (p + 1)).2.1).2.2.length by omega]
          exact s2
        · show segm _ _ n (_ ++ _ ++ _)
          rw [segm_a]
          refine ⟨segm_x _ n (fun i h1 h2 => s4 i (by rw [hlen1] at h2; omega)) hseg, ?_⟩
          rw [hlen1, show n + ((pr tp g (l + 1) dep (p + 1)).2.2.length + 1) = n + (pr tp g (l + 1) dep (p + 1)).2.2.length + 1 by omega]
          exact s3
        · intro i hi
          have t1 := s4 i (by omega)
          have t2 := hlow i hi
          exact ⟨t1.1.trans t2.1, t1.2.trans t2.2⟩
      · refine Or.inr ⟨s1, n'', s2, ?_⟩
        show n'' + p ≤ n + (pr tp g (l + 6) dep (pr tp g (l + 1) dep (p + 1)).2.1).2.1 + 1
        omega
  · obtain ⟨b2, v1, v2⟩ := MF_lay e w I J b1 (tp p) 0 len _ n' (by omega) hlen r2 (by omega) hc128
    have hno : ¬ (pr tp g (l + 1) dep (p + 1)).1 = true := by rw [r1]; simp
    rw [if_neg hno]
    refine ⟨b1, b2, b2, k1, v1, fun _ => RMr_F (by omega) hT hl v2, fun _ => rfl, Or.inr ⟨rfl, n' + 1, v2, ?_⟩⟩
    show n' + 1 + p ≤ n + (pr tp g (l + 1) dep (p + 1)).2.1 + 1
    omega
