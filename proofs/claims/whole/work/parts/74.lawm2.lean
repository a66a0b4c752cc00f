/-! the law's reader of the reference, whole expressions -/
theorem lvl_c (c : Int) : (lvl c = 0 ↔ c = 124) ∧ (lvl c = 1 ↔ c = 38) ∧ (lvl c = 2 ↔ c = 60 ∨ c = 61 ∨ c = 62) ∧ (lvl c = 3 ↔ c = 43 ∨ c = 45) ∧ (lvl c = 4 ↔ c = 42 ∨ c = 47 ∨ c = 37) := by
  unfold lvl
  refine ⟨?_, ?_, ?_, ?_, ?_⟩ <;> (repeat' split) <;> omega
theorem lvl_hi {c : Int} (h : c < 0 ∨ 128 ≤ c) : lvl c = 5 := by
  unfold lvl
  rw [if_neg (by omega), if_neg (by omega), if_neg (by omega), if_neg (by omega), if_neg (by omega)]
theorem nam_hi {c : Int} (h : c < 0 ∨ 128 ≤ c) : nam c = -1 := by
  unfold nam
  rw [if_neg (by omega), if_neg (by omega), if_neg (by omega), if_neg (by omega)]
theorem tm_lvl {I : Nat → Nat → Int} {tp : Nat → Int} {len : Nat} (hT : TM0 I tp len) (p : Nat) : lvl (tm I len p) = lvl (tp p) := by
  rcases hT.2.2 p with h | h
  · rw [h]
  · rw [lvl_hi (Or.inl h.1), lvl_hi (Or.inr h.2)]
theorem tm_nam {I : Nat → Nat → Int} {tp : Nat → Int} {len : Nat} (hT : TM0 I tp len) (p : Nat) : nam (tm I len p) = nam (tp p) := by
  rcases hT.2.2 p with h | h
  · rw [h]
  · rw [nam_hi (Or.inl h.1), nam_hi (Or.inr h.2)]
theorem tm_eq {I : Nat → Nat → Int} {tp : Nat → Int} {len : Nat} (hT : TM0 I tp len) (p : Nat) (c : Int) (hc : 0 ≤ c ∧ c < 128) : tm I len p = c ↔ tp p = c := by
  rcases hT.2.2 p with h | h
  · rw [h]
  · omega
theorem tm_tp {I : Nat → Nat → Int} {tp : Nat → Int} {len : Nat} (hT : TM0 I tp len) (p : Nat) (h : lvl (tp p) < 5) : tm I len p = tp p := by
  rcases hT.2.2 p with h1 | h1
  · exact h1
  · rw [lvl_hi (Or.inr h1.2)] at h; omega
/-- no sign of the level: the rest is empty -/
theorem RMr_no {w : Nat × Bool} {I J : Nat → Nat → Int} {tp : Nat → Int} {len e l p : Nat} {b : Nat → Nat → Int} (he : 1 ≤ e) (hT : TM0 I tp len) (hl : l < 5) (hE : EL I b) (h28 : b 58 28 = (p : Int)) (h29 : b 58 29 = -1) (hlv : lvl (tp p) ≠ l) : RMr w J e l b (some (none, mk w b J)) := by
  have h158 := s_158 e w I J b tp len p he hT hE h28
  rw [← tm_lvl hT p] at hlv
  have hc := lvl_c (tm I len p)
  generalize tm I len p = c at h158 hlv hc
  unfold RMr
  rcases (show l = 0 ∨ l = 1 ∨ l = 2 ∨ l = 3 ∨ l = 4 by omega) with h | h | h | h | h <;> subst h
  · have hn : ¬ c = 124 := fun h => hlv (hc.1.2 h)
    rw [if_pos rfl, b_169_4, h29, if_pos (by omega), b_169_11, semK_of h158]
    simp only [mpush]
    rw [b_169_15, if_neg hn, b_169_44]
  · have hn : ¬ c = 38 := fun h => hlv (hc.2.1.2 h)
    rw [if_neg (by omega), if_pos rfl, b_168_4, h29, if_pos (by omega), b_168_11, semK_of h158]
    simp only [mpush]
    rw [b_168_15, if_neg hn, b_168_44]
  · have hn : ¬ (c = 60 ∨ c = 61 ∨ c = 62) := fun h => hlv (hc.2.2.1.2 h)
    rw [if_neg (by omega), if_neg (by omega), if_pos rfl, b_167_4, semK_of h158]
    simp only [mpush]
    rw [b_167_8, h29, if_pos (by omega), b_167_16, if_neg (by omega), b_167_22, if_neg (by omega), b_167_28, if_neg (by omega), b_167_34]
  · have hn : ¬ (c = 43 ∨ c = 45) := fun h => hlv (hc.2.2.2.1.2 h)
    rw [if_neg (by omega), if_neg (by omega), if_neg (by omega), if_pos rfl]
    intro u
    rw [b_166_4, h29, if_pos (by omega), b_166_11, semK_of h158]
    simp only [mpush]
    rw [b_166_15, if_neg (by omega), b_166_20, semK_of h158]
    simp only [mpush]
    rw [b_166_24, if_neg (by omega), b_166_57]
  · have hn : ¬ (c = 42 ∨ c = 47 ∨ c = 37) := fun h => hlv (hc.2.2.2.2.2 h)
    rw [if_neg (by omega), if_neg (by omega), if_neg (by omega), if_neg (by omega)]
    intro u
    rw [b_165_4, h29, if_pos (by omega), b_165_11, semK_of h158]
    simp only [mpush]
    rw [b_165_15, if_neg (by omega), b_165_20, semK_of h158]
    simp only [mpush]
    rw [b_165_24, if_neg (by omega), b_165_29, semK_of h158]
    simp only [mpush]
    rw [b_165_33, if_neg (by omega), b_165_66]
/-- a sign of the level -/
theorem RMr_yes {w : Nat × Bool} {I J : Nat → Nat → Int} {tp : Nat → Int} {len e l p : Nat} {b b1 b2 : Nat → Nat → Int} {o : Option mOut} (he : 1 ≤ e) (hT : TM0 I tp len) (hl : l < 5) (hE : EL I b) (h28 : b 58 28 = (p : Int)) (h29 : b 58 29 = -1) (hlv : lvl (tp p) = l)
    (k1 : semC e (168 - l) [vr 58] (mk w (up2 b 58 28 (wr (b 58 28 + 1))) J) = some (none, mk w b1 J)) (k2 : semC e 160 [vr 58, vi (tp p), vi 0] (mk w b1 J) = some (none, mk w b2 J)) (hr : l ≠ 2 → RMr w J e l b2 o) (h2 : l = 2 → o = some (none, mk w b2 J)) : RMr w J e l b o := by
  have h158 := s_158 e w I J b tp len p he hT hE h28
  rw [tm_tp hT p (by omega)] at h158
  have hc := lvl_c (tp p)
  generalize tp p = c at h158 hlv hc k2
  unfold RMr at hr ⊢
  rcases (show l = 0 ∨ l = 1 ∨ l = 2 ∨ l = 3 ∨ l = 4 by omega) with h | h | h | h | h <;> subst h
  · have hn := hc.1.1 hlv
    subst hn
    have hr := hr (by omega)
    rw [if_pos rfl] at hr ⊢
    rw [b_169_4, h29, if_pos (by omega), b_169_11, semK_of h158]
    simp only [mpush]
    have k1' : semC e 168 [vr 58] (mk w (up2 b 58 28 (wr (b 58 28 + 1))) J) = some (none, mk w b1 J) := k1
    rw [b_169_15, if_pos rfl, b_169_20, semK_of k1']
    simp only [mpush]
    rw [b_169_34, semK_of k2]
    simp only [mpush]
    rw [b_169_41, hr]
  · have hn := hc.2.1.1 hlv
    subst hn
    have hr := hr (by omega)
    rw [if_neg (by omega), if_pos rfl] at hr ⊢
    rw [b_168_4, h29, if_pos (by omega), b_168_11, semK_of h158]
    simp only [mpush]
    have k1' : semC e 167 [vr 58] (mk w (up2 b 58 28 (wr (b 58 28 + 1))) J) = some (none, mk w b1 J) := k1
    rw [b_168_15, if_pos rfl, b_168_20, semK_of k1']
    simp only [mpush]
    rw [b_168_34, semK_of k2]
    simp only [mpush]
    rw [b_168_41, hr]
  · have hn := hc.2.2.1.1 hlv
    have k1' : semC e 166 [vr 58] (mk w (up2 b 58 28 (wr (b 58 28 + 1))) J) = some (none, mk w b1 J) := k1
    have hend : Sem e 167 35 [some (vr 58), some (vi c)] [] (mk w b J) = some (none, mk w b2 J) := by
      rw [b_167_35, semK_of k1']
      simp only [mpush]
      rw [b_167_49, semK_of k2]
      simp only [mpush]
      rw [b_167_55]
    rw [if_neg (by omega), if_neg (by omega), if_pos rfl, h2 rfl, b_167_4, semK_of h158]
    simp only [mpush]
    rw [b_167_8, h29, if_pos (by omega), b_167_16]
    by_cases q1 : c = 60
    · rw [if_pos q1, hend]
    · rw [if_neg q1, b_167_22]
      by_cases q2 : c = 61
      · rw [if_pos q2, hend]
      · rw [if_neg q2, b_167_28, if_pos (by omega), hend]
  · have hn := hc.2.2.2.1.1 hlv
    have hr := hr (by omega)
    rw [if_neg (by omega), if_neg (by omega), if_neg (by omega), if_pos rfl] at hr ⊢
    have k1' : semC e 165 [vr 58] (mk w (up2 b 58 28 (wr (b 58 28 + 1))) J) = some (none, mk w b1 J) := k1
    intro u
    have hend : Sem e 166 29 [some (vr 58), u] [] (mk w b J) = o := by
      rw [b_166_29, semK_of h158]
      simp only [mpush]
      rw [b_166_33, semK_of k1']
      simp only [mpush]
      rw [b_166_48, semK_of k2]
      simp only [mpush]
      rw [b_166_54, hr]
    rw [b_166_4, h29, if_pos (by omega), b_166_11, semK_of h158]
    simp only [mpush]
    rw [b_166_15]
    by_cases q1 : c = 43
    · rw [if_pos q1, hend]
    · rw [if_neg q1, b_166_20, semK_of h158]
      simp only [mpush]
      rw [b_166_24, if_pos (by omega), hend]
  · have hn := hc.2.2.2.2.1 hlv
    have hr := hr (by omega)
    rw [if_neg (by omega), if_neg (by omega), if_neg (by omega), if_neg (by omega)] at hr ⊢
    have k1' : semC e 164 [vr 58] (mk w (up2 b 58 28 (wr (b 58 28 + 1))) J) = some (none, mk w b1 J) := k1
    intro u
    have hend : Sem e 165 38 [some (vr 58), u] [] (mk w b J) = o := by
      rw [b_165_38, semK_of h158]
      simp only [mpush]
      rw [b_165_42, semK_of k1']
      simp only [mpush]
      rw [b_165_57, semK_of k2]
      simp only [mpush]
      rw [b_165_63, hr]
    rw [b_165_4, h29, if_pos (by omega), b_165_11, semK_of h158]
    simp only [mpush]
    rw [b_165_15]
    by_cases q1 : c = 42
    · rw [if_pos q1, hend]
    · rw [if_neg q1, b_165_20, semK_of h158]
      simp only [mpush]
      rw [b_165_24]
      by_cases q2 : c = 47
      · rw [if_pos q2, hend]
      · rw [if_neg q2, b_165_29, semK_of h158]
        simp only [mpush]
        rw [b_165_33, if_pos (by omega), hend]
/-- a level: its first, then the rest -/
theorem ent_M {w : Nat × Bool} {J : Nat → Nat → Int} {e k : Nat} {b b1 : Nat → Nat → Int} {o : Option mOut} (hk : k < 5) (k1 : semC e (169 - (k + 1)) [vr 58] (mk w b J) = some (none, mk w b1 J)) (hr : RMr w J e k b1 o) : semC (e + 1) (169 - k) [vr 58] (mk w b J) = o := by
  unfold RMr at hr
  rcases (show k = 0 ∨ k = 1 ∨ k = 2 ∨ k = 3 ∨ k = 4 by omega) with h | h | h | h | h <;> subst h
  · rw [if_pos rfl] at hr
    have k1' : semC e 168 [vr 58] (mk w b J) = some (none, mk w b1 J) := k1
    show semC (e + 1) 169 [vr 58] (mk w b J) = o
    rw [e_169, b_169_0, semK_of k1']
    simp only [mpush]
    exact hr
  · rw [if_neg (by omega), if_pos rfl] at hr
    have k1' : semC e 167 [vr 58] (mk w b J) = some (none, mk w b1 J) := k1
    show semC (e + 1) 168 [vr 58] (mk w b J) = o
    rw [e_168, b_168_0, semK_of k1']
    simp only [mpush]
    exact hr
  · rw [if_neg (by omega), if_neg (by omega), if_pos rfl] at hr
    have k1' : semC e 166 [vr 58] (mk w b J) = some (none, mk w b1 J) := k1
    show semC (e + 1) 167 [vr 58] (mk w b J) = o
    rw [e_167, b_167_0, semK_of k1']
    simp only [mpush]
    exact hr
  · rw [if_neg (by omega), if_neg (by omega), if_neg (by omega), if_pos rfl] at hr
    have k1' : semC e 165 [vr 58] (mk w b J) = some (none, mk w b1 J) := k1
    show semC (e + 1) 166 [vr 58] (mk w b J) = o
    rw [e_166, b_166_0, semK_of k1']
    simp only [mpush]
    exact hr none
  · rw [if_neg (by omega), if_neg (by omega), if_neg (by omega), if_neg (by omega)] at hr
    have k1' : semC e 164 [vr 58] (mk w b J) = some (none, mk w b1 J) := k1
    show semC (e + 1) 165 [vr 58] (mk w b J) = o
    rw [e_165, b_165_0, semK_of k1']
    simp only [mpush]
    exact hr none
/-- one more opened -/
theorem s_162y (d : Nat) (w : Nat × Bool) (I J : Nat → Nat → Int) (b : Nat → Nat → Int) (len p n dep : Nat) (hd : 1 ≤ d) (hM : ML I len b p n dep) (h6 : dep < 6) (hp : p < len) (hl : len ≤ 120) :
    ∃ b', semC d 162 [vr 58] (mk w b J) = some (some (vi 1), mk w b' J) ∧ ML I len b' (p + 1) n (dep + 1) ∧ b' 75 = b 75 ∧ b' 76 = b 76 := by
  obtain ⟨e, rfl⟩ : ∃ e, d = e + 1 := ⟨d - 1, by omega⟩
  obtain ⟨h1, h2, h3, h4, h5, h6', h7⟩ := hM
  rw [e_162, b_162_0, h4, if_neg (by omega), b_162_15, h4, h2, wr_n1 (by omega), wr_n1 (by omega)]
  refine ⟨_, rfl, ⟨EL_u (EL_u h1 30 _ (by omega)) 28 _ (by omega), ?_, ?_, ?_, ?_, by omega, by omega⟩, ?_, ?_⟩
  · rw [up2_s]
  · rw [up2_sne _ _ _ (by omega), up2_sne _ _ _ (by omega), h3]
  · rw [up2_sne _ _ _ (by omega), up2_s]
  · rw [up2_sne _ _ _ (by omega), up2_sne _ _ _ (by omega), h5]
  · rw [up2_ne _ _ _ (by omega), up2_ne _ _ _ (by omega)]
  · rw [up2_ne _ _ _ (by omega), up2_ne _ _ _ (by omega)]
theorem s_162n (d : Nat) (w : Nat × Bool) (I J : Nat → Nat → Int) (b : Nat → Nat → Int) (len p n : Nat) (hd : 2 ≤ d) (hM : ML I len b p n 6) :
    ∃ b', semC d 162 [vr 58] (mk w b J) = some (some (vi 0), mk w b' J) ∧ MF I len b' p n := by
  obtain ⟨e, rfl⟩ : ∃ e, d = e + 1 := ⟨d - 1, by omega⟩
  obtain ⟨b1, k1, k2, k3, k4⟩ := s_159l e w I J b len p n 6 (by omega) hM
  rw [e_162, b_162_0, hM.2.2.2.1, if_pos (by omega), b_162_9, semK_of k1]
  simp only [mpush]
  rw [b_162_13]
  exact ⟨b1, rfl, k2⟩
theorem ML_dn {I b : Nat → Nat → Int} {len p n dep : Nat} (hM : ML I len b p n (dep + 1)) (hd : dep ≤ 6) : ML I len (up2 b 58 30 (wr (b 58 30 - 1))) p n dep := by
  obtain ⟨h1, h2, h3, h4, h5, h6, h7⟩ := hM
  refine ⟨EL_u h1 30 _ (by omega), ?_, ?_, ?_, ?_, h6, h7⟩
  · rw [up2_sne _ _ _ (by omega), h2]
  · rw [up2_sne _ _ _ (by omega), h3]
  · rw [up2_s, h4, wr_if (by omega)]; omega
  · rw [up2_sne _ _ _ (by omega), h5]
theorem MF_dn {I b : Nat → Nat → Int} {len q n : Nat} (hM : MF I len b q n) (v : Int) : MF I len (up2 b 58 30 v) q n := by
  obtain ⟨h1, h2, h3, h5, h6, h7⟩ := hM
  refine ⟨EL_u h1 30 _ (by omega), ?_, ?_, ?_, h6, h7⟩
  · rw [up2_sne _ _ _ (by omega), h2]
  · rw [up2_sne _ _ _ (by omega), h3]
  · rw [up2_sne _ _ _ (by omega), h5]
