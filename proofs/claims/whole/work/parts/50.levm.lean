/-! levels of the reference -/
def agM (I I' : Nat → Nat → Int) : Prop := (∀ k, k < 130 → I' 75 k = I 75 k ∧ I' 76 k = I 76 k) ∧ I' 77 0 = I 77 0 ∧ ∀ k, k < 61 → I' 78 k = I 78 k ∧ I' 79 k = I 79 k
theorem agM_r (I : Nat → Nat → Int) : agM I I := ⟨fun _ _ => ⟨rfl, rfl⟩, rfl, fun _ _ => ⟨rfl, rfl⟩⟩
theorem agM_t {I I' I'' : Nat → Nat → Int} (h : agM I I') (h' : agM I' I'') : agM I I'' := ⟨fun k hk => ⟨(h'.1 k hk).1.trans (h.1 k hk).1, (h'.1 k hk).2.trans (h.1 k hk).2⟩, h'.2.1.trans h.2.1, fun k hk => ⟨(h'.2.2 k hk).1.trans (h.2.2 k hk).1, (h'.2.2 k hk).2.trans (h.2.2 k hk).2⟩⟩
theorem agM_e {I I' : Nat → Nat → Int} (h : ∀ c, 75 ≤ c → c ≤ 79 → I' c = I c) : agM I I' := by
  refine ⟨fun k _ => ?_, ?_, fun k _ => ?_⟩
  · rw [h 75 (by omega) (by omega), h 76 (by omega) (by omega)]; exact ⟨rfl, rfl⟩
  · rw [h 77 (by omega) (by omega)]
  · rw [h 78 (by omega) (by omega), h 79 (by omega) (by omega)]; exact ⟨rfl, rfl⟩
def lawM (w : Nat × Bool) (I : Nat → Nat → Int) (f : Int → Int → Int → Int → Int) : Prop := (I 58 39 = 0 ∧ ∀ v a b c, f v a b c = v - 4 * a - 2 * b + c) ∨ (I 58 39 ≠ 0 ∧ ∀ (I' J : Nat → Nat → Int), agM I I' → ∀ (d : Nat), 10 ≤ d → (0 ≤ I' 80 0 ∧ I' 80 0 ≤ 99) → (0 ≤ I' 80 1 ∧ I' 80 1 < 200) → (0 ≤ I' 80 2 ∧ I' 80 2 ≤ 1000) → (0 ≤ I' 80 3 ∧ I' 80 3 ≤ 9) →
  ∃ I'', semC d 174 [vr 58, vi 0] (mk w I' J) = some (some (vi (f (I' 80 0) (I' 80 1) (I' 80 2) (I' 80 3))), mk w I'' J) ∧ ∀ c, c ≠ 81 → I'' c = I' c)
def GM (I : Nat → Nat → Int) : Prop := (0 ≤ I 58 3 ∧ I 58 3 ≤ 10) ∧ (0 ≤ I 58 6 ∧ I 58 6 ≤ 10) ∧ pos (I 59) ∧ pos (I 60) ∧ pos (I 63) ∧ (0 ≤ I 58 18 ∧ I 58 18 ≤ 9)
def KM (f : Int → Int → Int → Int → Int) (w : Nat × Bool) (I : Nat → Nat → Int) : Prop := GM I ∧ lawM w I f
def eM (I I' : Nat → Nat → Int) : Prop := ∀ c, c ≠ 80 → c ≠ 81 → I' c = I c
theorem eM_r (I : Nat → Nat → Int) : eM I I := fun _ _ _ => rfl
theorem eM_t {I I' I'' : Nat → Nat → Int} (h : eM I I') (h' : eM I' I'') : eM I I'' := fun c a b => (h' c a b).trans (h c a b)
theorem lawM_x {f : Int → Int → Int → Int → Int} {w : Nat × Bool} {I I' : Nat → Nat → Int} (h : lawM w I f) (h1 : I' 58 39 = I 58 39) (h2 : agM I I') : lawM w I' f := by
  rcases h with ⟨a, b⟩ | ⟨a, b⟩
  · exact Or.inl ⟨h1.trans a, b⟩
  · refine Or.inr ⟨by rw [h1]; exact a, fun I'' J hh => b I'' J (agM_t h2 hh)⟩
theorem KM_x {f : Int → Int → Int → Int → Int} {w : Nat × Bool} {I I' : Nat → Nat → Int} (h : KM f w I) (h3 : I' 58 3 = I 58 3) (h6 : I' 58 6 = I 58 6) (h18 : I' 58 18 = I 58 18) (h39 : I' 58 39 = I 58 39) (h59 : I' 59 = I 59) (h60 : I' 60 = I 60) (h63 : pos (I' 63)) (hl : ∀ c, 75 ≤ c → c ≤ 79 → I' c = I c) : KM f w I' := by
  obtain ⟨g, l⟩ := h
  refine ⟨?_, lawM_x l h39 (agM_e hl)⟩
  unfold GM at g ⊢
  rw [h3, h6, h18, h59, h60]
  exact ⟨g.1, g.2.1, g.2.2.1, g.2.2.2.1, h63, g.2.2.2.2.2⟩
theorem KM_e {f : Int → Int → Int → Int → Int} {w : Nat × Bool} {I I' : Nat → Nat → Int} (h : KM f w I) (he : eM I I') : KM f w I' := by
  have h58 := he 58 (by omega) (by omega)
  refine KM_x h (by rw [h58]) (by rw [h58]) (by rw [h58]) (by rw [h58]) (he 59 (by omega) (by omega)) (he 60 (by omega) (by omega)) (by rw [he 63 (by omega) (by omega)]; exact h.1.2.2.2.2.1) (fun c h1 h2 => he c (by omega) (by omega))
theorem Lm_e {f : Int → Int → Int → Int → Int} {I I' : Nat → Nat → Int} (h : eM I I') : Lm f I' = Lm f I := by
  unfold Lm
  rw [h 58 (by omega) (by omega), h 59 (by omega) (by omega), h 60 (by omega) (by omega), h 61 (by omega) (by omega), h 62 (by omega) (by omega), h 63 (by omega) (by omega)]
theorem s_180 (d : Nat) (w : Nat × Bool) (I J : Nat → Nat → Int) (f : Int → Int → Int → Int → Int) (v a b : Int) (hd : 11 ≤ d) (hK : KM f w I) (hv : 0 ≤ v ∧ v ≤ 99) (ha : 0 ≤ a ∧ a < 10) (hb : 0 ≤ b ∧ b < 10) (hab : a ≠ b) :
    ∃ I', semC d 180 [vr 58, vi v, vi a, vi b] (mk w I J) = some (some (vi (Lm f I v a b)), mk w I' J) ∧ eM I I' := by
  obtain ⟨e, rfl⟩ : ∃ e, d = e + 1 := ⟨d - 1, by omega⟩
  obtain ⟨⟨g3, g6, g59, g60, g63, g18⟩, l⟩ := id hK
  have hbR := btw_R (n := (I 58 6).toNat) (sx := I 61) (sy := I 62) (xa := I 59 a.toNat) (xb := I 59 b.toNat) (ya := I 60 a.toNat) (yb := I 60 b.toNat) g63
  have hfR := farI_R g59 g60 a.toNat b.toNat
  have hL : Lm f I v a b = clp (f v (farI (I 59) (I 60) a.toNat b.toNat) (btw (I 58 6).toNat (I 61) (I 62) (I 63) (I 59 a.toNat) (I 59 b.toNat) (I 60 a.toNat) (I 60 b.toNat)) (I 58 18)) := by
    unfold Lm LV; rw [if_neg (by omega)]
  rw [e_180, b_180_0, semK_of (s_176 _ _ _ _ _ _ (by omega) ha hb g59 g60)]
  simp only [mpush]
  rw [b_180_6, semK_of (s_178 _ _ _ _ _ _ (by omega) ha hb g6 g63)]
  simp only [mpush]
  rw [b_180_14, hL]
  generalize farI (I 59) (I 60) a.toNat b.toNat = fa at hfR
  generalize btw (I 58 6).toNat (I 61) (I 62) (I 63) (I 59 a.toNat) (I 59 b.toNat) (I 60 a.toNat) (I 60 b.toNat) = bt at hbR
  have hbR' : 0 ≤ bt ∧ bt ≤ 1000 := by omega
  rcases l with ⟨l1, l2⟩ | ⟨l1, l2⟩
  · rw [if_pos l1, b_180_23, semK_of (s_137 _ _ _ _ _ _ _ (by omega))]
    simp only [mpush]
    rw [b_180_45]
    refine ⟨I, ?_, eM_r I⟩
    rw [l2]
    have e1 : wr ((wr ((wr (v - (wr (4 * fa)))) - (wr (2 * bt)))) + (I 58 18)) = v - 4 * fa - 2 * bt + I 58 18 := by
      rw [wr_if (a := 4 * fa) (by omega), wr_if (a := 2 * bt) (by omega), wr_if (a := v - 4 * fa) (by omega), wr_if (a := v - 4 * fa - 2 * bt) (by omega), wr_if (by omega)]
    rw [e1]
    rfl
  · rw [if_neg l1, b_180_46, if_pos (by omega), if_pos (by omega), if_pos (by omega), if_pos (by omega)]
    have z0 : ((0 : Int)).toNat = 0 := rfl
    have z1 : ((1 : Int)).toNat = 1 := rfl
    have z2 : ((2 : Int)).toNat = 2 := rfl
    have z3 : ((3 : Int)).toNat = 3 := rfl
    rw [z0, z1, z2, z3]
    have hag : agM I (up2 (up2 (up2 (up2 I 80 0 v) 80 1 fa) 80 2 bt) 80 3 (I 58 18)) := agM_e (fun c h1 h2 => by rw [up2_ne _ _ _ (by omega), up2_ne _ _ _ (by omega), up2_ne _ _ _ (by omega), up2_ne _ _ _ (by omega)])
    have q0 : up2 (up2 (up2 (up2 I 80 0 v) 80 1 fa) 80 2 bt) 80 3 (I 58 18) 80 0 = v := by rw [up2_sne _ _ _ (by omega), up2_sne _ _ _ (by omega), up2_sne _ _ _ (by omega), up2_s]
    have q1 : up2 (up2 (up2 (up2 I 80 0 v) 80 1 fa) 80 2 bt) 80 3 (I 58 18) 80 1 = fa := by rw [up2_sne _ _ _ (by omega), up2_sne _ _ _ (by omega), up2_s]
    have q2 : up2 (up2 (up2 (up2 I 80 0 v) 80 1 fa) 80 2 bt) 80 3 (I 58 18) 80 2 = bt := by rw [up2_sne _ _ _ (by omega), up2_s]
    have q3 : up2 (up2 (up2 (up2 I 80 0 v) 80 1 fa) 80 2 bt) 80 3 (I 58 18) 80 3 = I 58 18 := up2_s _ _ _ _
    obtain ⟨I1, k1, k2⟩ := l2 _ J hag e (by omega) (by rw [q0]; exact hv) (by rw [q1]; exact hfR) (by rw [q2]; exact hbR') (by rw [q3]; exact g18)
    rw [q0, q1, q2, q3] at k1
    rw [semK_of k1]
    simp only [mpush]
    rw [b_180_84, semK_of (s_137 _ _ _ _ _ _ _ (by omega))]
    simp only [mpush]
    rw [b_180_90]
    refine ⟨I1, rfl, ?_⟩
    intro c h1 h2
    rw [k2 c h2, up2_ne _ _ _ h1, up2_ne _ _ _ h1, up2_ne _ _ _ h1, up2_ne _ _ _ h1]
/-- how loud a voice is beyond the mask -/
def pz (x : Int) : Int := if 0 < x then x else 0
theorem pz_R {x B : Int} (h : x ≤ B) (hB : 0 ≤ B) : 0 ≤ pz x ∧ pz x ≤ B := by unfold pz; split <;> omega
def dst (seat : Nat → Int) (n : Nat) : Prop := ∀ i j, i < n → j < n → i ≠ j → seat i = seat j → seat i = -1
theorem LV_z {f : Int → Int → Int → Int → Int} {dx dy sx sy sh : Nat → Int} {ns : Nat} {cl v a b : Int} (h : a < 0 ∨ b < 0 ∨ a = b) : LV f dx dy sx sy sh ns cl v a b = 0 := by unfold LV; rw [if_pos h]
theorem pz_z {M : Int} (h : 0 ≤ M) : pz (0 - M) = 0 := by unfold pz; rw [if_neg (by omega)]
theorem s_181 (d : Nat) (w : Nat × Bool) (I J : Nat → Nat → Int) (f : Int → Int → Int → Int → Int) (i j : Nat) (v : Int) (hd : 12 ≤ d) (hK : KM f w I) (hn : 0 ≤ I 58 10 ∧ I 58 10 ≤ 10) (hi : i < (I 58 10).toNat) (hj : j < (I 58 10).toNat) (hs : seR (I 69) (I 58 10).toNat) (hds : i ≠ j → I 69 i = I 69 j → I 69 i = -1) (hM : 0 ≤ I 58 17 ∧ I 58 17 ≤ 60) (hv : 0 ≤ v ∧ v ≤ 99) :
    ∃ I', semC d 181 [vr 58, vi i, vi j, vi v] (mk w I J) = some (some (vi (pz (Lm f I v (I 69 i) (I 69 j) - I 58 17))), mk w I' J) ∧ eM I I' := by
  obtain ⟨e, rfl⟩ : ∃ e, d = e + 1 := ⟨d - 1, by omega⟩
  have q1 := hs i hi
  have q2 := hs j hj
  rw [e_181, b_181_0]
  by_cases c1 : i = j
  · rw [if_pos (by omega), b_181_23]
    refine ⟨I, ?_, eM_r I⟩
    unfold Lm
    rw [LV_z (by subst c1; omega), pz_z hM.1]
  · rw [if_neg (by omega), b_181_5, if_pos (by omega), nat_i]
    by_cases c2 : I 69 i < 0
    · rw [if_pos c2, b_181_23]
      refine ⟨I, ?_, eM_r I⟩
      unfold Lm
      rw [LV_z (by omega), pz_z hM.1]
    · rw [if_neg c2, b_181_14, if_pos (by omega), nat_i]
      by_cases c3 : I 69 j < 0
      · rw [if_pos c3, b_181_23]
        refine ⟨I, ?_, eM_r I⟩
        unfold Lm
        rw [LV_z (by omega), pz_z hM.1]
      · rw [if_neg c3, b_181_25, if_pos (by omega), if_pos (by omega), nat_i, nat_i]
        have hne : I 69 j ≠ I 69 i := fun h => by have := hds c1 h.symm; omega
        obtain ⟨I1, k1, k2⟩ := s_180 e w I J f v (I 69 j) (I 69 i) (by omega) hK hv (by omega) (by omega) hne
        have hR : 0 ≤ Lm f I v (I 69 j) (I 69 i) ∧ Lm f I v (I 69 j) (I 69 i) ≤ 99 := LV_R _ _ _ _ _ _ _ _ _ _ _
        have hC : Lm f I v (I 69 i) (I 69 j) = Lm f I v (I 69 j) (I 69 i) := LV_comm _ _ _ _ _ _ _ _ _ _ _
        rw [semK_of k1, hC]
        simp only [mpush]
        have h58 := k2 58 (by omega) (by omega)
        rw [b_181_42, h58]
        refine ⟨I1, ?_, k2⟩
        unfold pz
        by_cases c4 : I 58 17 < Lm f I v (I 69 j) (I 69 i)
        · rw [if_pos c4, if_pos (by omega), b_181_53, b_181_64, h58, wr_if (by omega)]
        · rw [if_neg c4, if_neg (by omega), b_181_63, b_181_64]
