/-! ill -/
def sr (I : Nat → Nat → Int) (c : Nat) (r : Nat → Int) : Nat → Nat → Int := fun c' => if c' = c then r else I c'
theorem sr_ne (I : Nat → Nat → Int) {c : Nat} (r : Nat → Int) {c' : Nat} (h : c' ≠ c) : sr I c r c' = I c' := by unfold sr; rw [if_neg h]
theorem sr_s (I : Nat → Nat → Int) (c : Nat) (r : Nat → Int) : sr I c r c = r := by unfold sr; rw [if_pos rfl]
theorem sr_up (I : Nat → Nat → Int) (c : Nat) (r : Nat → Int) (k : Nat) (v : Int) : up2 (sr I c r) c k v = sr I c (rs r k v) := by
  funext c'
  rw [up2_row]
  by_cases h : c' = c
  · subst h; rw [if_pos rfl, sr_s, sr_s]
  · rw [if_neg h, sr_ne _ _ h, sr_ne _ _ h]
theorem sr_sr (I : Nat → Nat → Int) (c : Nat) (r r' : Nat → Int) : sr (sr I c r) c r' = sr I c r' := by
  funext c'
  by_cases h : c' = c
  · subst h; rw [sr_s, sr_s]
  · rw [sr_ne _ _ h, sr_ne _ _ h, sr_ne _ _ h]
theorem sr_self (I : Nat → Nat → Int) (c : Nat) : sr I c (I c) = I := by
  funext c'
  by_cases h : c' = c
  · subst h; rw [sr_s]
  · rw [sr_ne _ _ h]
theorem up2_sr (I : Nat → Nat → Int) (c k : Nat) (v : Int) : up2 I c k v = sr I c (rs (I c) k v) := by
  conv => lhs; rw [← sr_self I c]
  rw [sr_up]
def ex (p : Nat → Bool) : Nat → Bool
  | 0 => false
  | n + 1 => ex p n || p n
theorem ex_iff (p : Nat → Bool) : ∀ n, ex p n = true ↔ ∃ k, k < n ∧ p k = true
  | 0 => by constructor
            · intro h; cases h
            · rintro ⟨k, h, _⟩; omega
  | n + 1 => by
    unfold ex
    rw [Bool.or_eq_true, ex_iff p n]
    constructor
    · rintro (⟨k, h1, h2⟩ | h)
      · exact ⟨k, by omega, h2⟩
      · exact ⟨n, by omega, h⟩
    · rintro ⟨k, h1, h2⟩
      by_cases c : k = n
      · subst c; exact Or.inr h2
      · exact Or.inl ⟨k, by omega, h2⟩
def nbr (seat dx dy : Nat → Int) (R : Int) (k j : Nat) : Bool := decide (seat k ≠ -1 ∧ seat j ≠ -1 ∧ farI dx dy (seat k).toNat (seat j).toNat ≤ R)
def FF (E : Nat → Nat → Bool) (n who : Nat) : Nat → Nat → Int
  | 0 => fun j => if j = who then 0 else -1
  | t + 1 => fun j => if FF E n who t j ≠ -1 then FF E n who t j else if ex (fun k => decide (FF E n who t k = t) && E k j) n = true then t + 1 else -1
def FH (E : Nat → Nat → Bool) (n who t u : Nat) : Nat → Int := fun j => if FF E n who t j ≠ -1 then FF E n who t j else if ex (fun k => decide (FF E n who t k = t) && E k j) u = true then t + 1 else -1
theorem FF_R (E : Nat → Nat → Bool) (n who : Nat) : ∀ t j, -1 ≤ FF E n who t j ∧ FF E n who t j ≤ t
  | 0, j => by unfold FF; split <;> omega
  | t + 1, j => by
    have h := FF_R E n who t j
    unfold FF
    try dsimp only
    split
    · omega
    · split <;> omega
theorem FF_mono (E : Nat → Nat → Bool) (n who t j : Nat) (h : FF E n who t j ≠ -1) : FF E n who (t + 1) j = FF E n who t j := by
  conv => lhs; unfold FF
  try dsimp only
  rw [if_pos h]
/-- who fell ill earlier has passed it on -/
theorem FF_cl (E : Nat → Nat → Bool) (n who : Nat) : ∀ t o j, o < n → 0 ≤ FF E n who t o → FF E n who t o < t → E o j = true → FF E n who t j ≠ -1
  | 0, o, j, _, h1, h2, _ => by omega
  | t + 1, o, j, ho, h1, h2, h3 => by
    by_cases hj : FF E n who t j ≠ -1
    · rw [FF_mono _ _ _ _ _ hj]; exact hj
    · by_cases hd : FF E n who t o ≠ -1
      · rw [FF_mono _ _ _ _ _ hd] at h1 h2
        by_cases hq : FF E n who t o < t
        · exact absurd (FF_cl E n who t o j ho h1 hq h3) hj
        · have hq' : FF E n who t o = t := by omega
          have hx : ex (fun k => decide (FF E n who t k = t) && E k j) n = true := (ex_iff _ _).2 ⟨o, ho, by rw [decide_eq_true hq', h3]; rfl⟩
          unfold FF
          try dsimp only
          rw [if_neg hj, if_pos hx]
          omega
      · have hd' : FF E n who t o = -1 := by omega
        have : FF E n who (t + 1) o = t + 1 ∨ FF E n who (t + 1) o = -1 := by
          conv => lhs; unfold FF
          conv => rhs; unfold FF
          try dsimp only
          rw [if_neg (by omega)]
          split
          · left; rfl
          · right; rfl
        omega
def cnt (f : Nat → Int) : Nat → Int
  | 0 => 0
  | n + 1 => if f n = -1 then cnt f n else cnt f n + 1
def mx (f : Nat → Int) : Nat → Int
  | 0 => 0
  | n + 1 => if mx f n < f n then f n else mx f n
theorem cnt_R (f : Nat → Int) : ∀ n, 0 ≤ cnt f n ∧ cnt f n ≤ n
  | 0 => ⟨Int.le_refl _, Int.le_refl _⟩
  | n + 1 => by have := cnt_R f n; unfold cnt; split <;> omega
theorem mx_R (f : Nat → Int) (t : Int) (ht : 0 ≤ t) : ∀ n, (∀ j, j < n → f j ≤ t) → 0 ≤ mx f n ∧ mx f n ≤ t
  | 0, _ => ⟨Int.le_refl _, ht⟩
  | n + 1, h => by have := mx_R f t ht n (fun j hj => h j (by omega)); have := h n (by omega); unfold mx; split <;> omega
theorem mx_le (f : Nat → Int) : ∀ n j, j < n → f j ≤ mx f n
  | 0, _, h => by omega
  | n + 1, j, h => by
    unfold mx
    by_cases c : j = n
    · subst c; split <;> omega
    · have := mx_le f n j (by omega); split <;> omega
theorem cnt_ext {f g : Nat → Int} : ∀ n, (∀ j, j < n → f j = g j) → cnt f n = cnt g n
  | 0, _ => rfl
  | n + 1, h => by unfold cnt; rw [cnt_ext n (fun j hj => h j (by omega)), h n (by omega)]
theorem mx_ext {f g : Nat → Int} : ∀ n, (∀ j, j < n → f j = g j) → mx f n = mx g n
  | 0, _ => rfl
  | n + 1, h => by unfold mx; rw [mx_ext n (fun j hj => h j (by omega)), h n (by omega)]
theorem cnt_rs (f : Nat → Int) (k : Nat) (v : Int) (h1 : f k = -1) (h2 : v ≠ -1) : ∀ n, cnt (rs f k v) n = if k < n then cnt f n + 1 else cnt f n
  | 0 => by rfl
  | n + 1 => by
    unfold cnt
    rw [cnt_rs f k v h1 h2 n]
    by_cases c : n = k
    · subst c
      rw [rs_same, if_neg h2, if_neg (by omega), if_pos (by omega), if_pos h1]
    · rw [rs_ne _ _ c]
      repeat' split
      all_goals omega
theorem mx_rs (f : Nat → Int) (k : Nat) (v : Int) (h1 : f k = -1) : ∀ n, mx (rs f k v) n = if k < n ∧ mx f n < v then v else mx f n
  | 0 => by rfl
  | n + 1 => by
    unfold mx
    have h0 : 0 ≤ mx f n := by
      clear h1
      induction n with
      | zero => exact Int.le_refl _
      | succ m ih => unfold mx; split <;> omega
    rw [mx_rs f k v h1 n]
    by_cases c : n = k
    · subst c
      rw [rs_same, h1]
      repeat' split
      all_goals omega
    · rw [rs_ne _ _ c]
      repeat' split
      all_goals omega
theorem cnt_lt {f g : Nat → Int} : ∀ n, (∀ j, j < n → f j ≠ -1 → g j ≠ -1) → cnt f n ≤ cnt g n ∧ ((∃ j, j < n ∧ f j = -1 ∧ g j ≠ -1) → cnt f n + 1 ≤ cnt g n)
  | 0, _ => ⟨Int.le_refl _, by rintro ⟨j, h, _⟩; omega⟩
  | n + 1, h => by
    obtain ⟨g1, g2⟩ := cnt_lt n (fun j hj => h j (by omega))
    have h0 := h n (by omega)
    unfold cnt
    constructor
    · split <;> split <;> first | omega | (exfalso; simp_all)
    · rintro ⟨j, hj, hf, hg⟩
      by_cases c : j = n
      · subst c; rw [if_pos hf, if_neg hg]; omega
      · have := g2 ⟨j, by omega, hf, hg⟩
        split <;> split <;> first | omega | (exfalso; simp_all)
theorem FF_lev (E : Nat → Nat → Bool) (n who : Nat) (hw : who < n) : ∀ t : Nat, (∃ j, j < n ∧ FF E n who t j = t) → (t : Int) + 1 ≤ cnt (FF E n who t) n
  | 0, _ => by
    have h := (cnt_lt (f := fun _ => -1) (g := FF E n who 0) n (by intro j _ h; exact absurd rfl h)).2 ⟨who, hw, rfl, by unfold FF; rw [if_pos rfl]; omega⟩
    have := cnt_R (fun _ => -1) n
    omega
  | t + 1, ⟨j, hj, hf⟩ => by
    have hn : FF E n who t j = -1 := by
      by_cases c : FF E n who t j = -1
      · exact c
      · rw [FF_mono _ _ _ _ _ c] at hf
        have := FF_R E n who t j
        omega
    have hx : ex (fun k => decide (FF E n who t k = t) && E k j) n = true := by
      have hf' := hf
      unfold FF at hf'
      try dsimp only at hf'
      rw [if_neg (by omega)] at hf'
      split at hf'
      · assumption
      · omega
    obtain ⟨k, hk, hk2⟩ := (ex_iff _ _).1 hx
    have hk3 : FF E n who t k = t := by simp at hk2; exact hk2.1
    have h1 := FF_lev E n who hw t ⟨k, hk, hk3⟩
    have h2 := (cnt_lt (f := FF E n who t) (g := FF E n who (t + 1)) n (by intro j _ h; rw [FF_mono _ _ _ _ _ h]; exact h)).2 ⟨j, hj, hn, by omega⟩
    omega
theorem FF_st (E : Nat → Nat → Bool) (n who t : Nat) (h : ∀ j, j < n → FF E n who t j ≠ t) : ∀ s, FF E n who (t + s) = FF E n who t
  | 0 => rfl
  | s + 1 => by
    have ih := FF_st E n who t h s
    have hR : ∀ j, j < n → FF E n who t j < t := fun j hj => by have := FF_R E n who t j; have := h j hj; omega
    funext j
    rw [← ih]
    show FF E n who (t + s + 1) j = _
    conv => lhs; unfold FF
    try dsimp only
    split
    · rfl
    · rename_i c
      have c' : FF E n who (t + s) j = -1 := by omega
      rw [if_neg, c']
      intro hx
      obtain ⟨k, hk, hk2⟩ := (ex_iff _ _).1 hx
      simp at hk2
      have h1 := hk2.1
      rw [ih] at h1
      have := hR k hk
      omega
theorem FF_ten (E : Nat → Nat → Bool) (n who : Nat) (hn : n ≤ 10) (hw : who < n) (j : Nat) (hj : j < n) (t : Nat) : FF E n who t j = FF E n who t j ∧ FF E n who t j ≤ 9 := by
  refine ⟨rfl, ?_⟩
  have h10 : ∀ j, j < n → FF E n who 10 j ≠ 10 := by
    intro j hj hf
    have := FF_lev E n who hw 10 ⟨j, hj, hf⟩
    have := cnt_R (FF E n who 10) n
    omega
  have hR := FF_R E n who t j
  by_cases c : t ≤ 9
  · omega
  · obtain ⟨s, rfl⟩ : ∃ s, t = 10 + s := ⟨t - 10, by omega⟩
    rw [FF_st E n who 10 h10 s]
    have := FF_R E n who 10 j
    have := h10 j hj
    omega
/-- two resting rows are one -/
theorem FF_fix (E : Nat → Nat → Bool) (n who t : Nat) (hn : n ≤ 10) (hw : who < n) (h : ∀ j, j < n → FF E n who t j ≠ t) : FF E n who t = FF E n who 10 := by
  have h10 : ∀ j, j < n → FF E n who 10 j ≠ 10 := fun j hj => by have := (FF_ten E n who hn hw j hj 10).2; omega
  by_cases c : t ≤ 10
  · have := FF_st E n who t h (10 - t)
    rw [show t + (10 - t) = 10 by omega] at this
    exact this.symm
  · have := FF_st E n who 10 h10 (t - 10)
    rw [show 10 + (t - 10) = t by omega] at this
    exact this
def seR (f : Nat → Int) (n : Nat) : Prop := ∀ j, j < n → f j = -1 ∨ (0 ≤ f j ∧ f j < 10)
theorem s_31 (d : Nat) (w : Nat × Bool) (I J : Nat → Nat → Int) (k : Nat) (R t : Int) (hd : 2 ≤ d) (hn : 0 ≤ I 10 6 ∧ I 10 6 ≤ 10) (hk : k < (I 10 6).toNat) (hs : seR (I 16) (I 10 6).toNat) (h5 : pos (I 5)) (h6 : pos (I 6)) (hr : I 36 k = t) (ht : 0 ≤ t ∧ t ≤ 100) :
    ∃ r, semC d 31 [vr 35, vi k, vi R] (mk w I J) = some (none, mk w (sr I 36 r) J) ∧ ∀ j, j < (I 10 6).toNat → r j = if I 36 j = -1 ∧ nbr (I 16) (I 5) (I 6) R k j = true then t + 1 else I 36 j := by
  obtain ⟨e, rfl⟩ : ∃ e, d = e + 1 := ⟨d - 1, by omega⟩
  rw [e_31, b_31_0, if_pos (by omega), nat_i]
  have e1 : ((I 10 6).toNat : Int) = I 10 6 := Int.toNat_of_nonneg hn.1
  by_cases c0 : I 16 k = -1
  · rw [if_pos c0, b_31_15]
    refine ⟨I 36, by rw [sr_self], ?_⟩
    intro j hj
    rw [if_neg]
    rintro ⟨-, h⟩
    unfold nbr at h
    simp [c0] at h
  · rw [if_neg c0, b_31_16]
    have q0 := hs k hk
    obtain ⟨⟨r, v⟩, l1, l2⟩ := lpE (fun (u : Nat) (b : (Nat → Int) × Option mVal) => Sem e 31 19 [some (vr 35), some (vi k), some (vi R), some (vi (I 16 k)), some (vi (u : Int)), b.2] [] (mk w (sr I 36 b.1) J))
      (fun u b => ∀ j, j < (I 10 6).toNat → b.1 j = if j < u ∧ I 36 j = -1 ∧ nbr (I 16) (I 5) (I 6) R k j = true then t + 1 else I 36 j) (I 10 6).toNat (by
      intro u b hu hP
      have hu' := nat_lt hu
      have q := hs u hu
      have hPu := hP u hu
      rw [if_neg (by omega)] at hPu
      have hPk := hP k hk
      rw [if_neg (by omega), hr] at hPk
      try dsimp only
      rw [b_31_19]
      simp only [sr_ne _ _ (show (10 : Nat) ≠ 36 by omega)]
      rw [if_pos (by omega), b_31_31, if_pos (by omega), if_pos (by omega), nat_i, sr_s, sr_ne _ _ (by omega), hPu]
      by_cases c1 : I 36 u = -1
      · rw [if_pos c1, b_31_54]
        by_cases c2 : I 16 u = -1
        · rw [if_pos c2, b_31_60, b_31_92, wr_n1 (by omega)]
          refine ⟨(b.1, _), rfl, ?_⟩
          intro j hj
          rw [hP j hj]
          by_cases c : j = u
          · subst c
            rw [if_neg (by omega), if_neg]
            rintro ⟨-, -, h⟩
            unfold nbr at h
            simp [c2] at h
          · simp only [show (j < u + 1) = (j < u) by simp; omega]
        · rw [if_neg c2, b_31_63, semK_of (s_27 _ _ _ _ _ _ (by omega) (by omega) (by omega) (by rw [sr_ne _ _ (by omega)]; exact h5) (by rw [sr_ne _ _ (by omega)]; exact h6))]
          simp only [mpush, sr_ne _ _ (show (5 : Nat) ≠ 36 by omega), sr_ne _ _ (show (6 : Nat) ≠ 36 by omega)]
          rw [b_31_73]
          by_cases c3 : R < farI (I 5) (I 6) (I 16 k).toNat (I 16 u).toNat
          · rw [if_pos c3, b_31_92, wr_n1 (by omega)]
            refine ⟨(b.1, _), rfl, ?_⟩
            intro j hj
            rw [hP j hj]
            by_cases c : j = u
            · subst c
              rw [if_neg (by omega), if_neg]
              rintro ⟨-, -, h⟩
              unfold nbr at h
              simp at h
              omega
            · simp only [show (j < u + 1) = (j < u) by simp; omega]
          · rw [if_neg c3, b_31_77, if_pos (by omega), if_pos (by omega), nat_i, nat_i, sr_s, hPk, wr_if (by omega), sr_up, b_31_92, wr_n1 (by omega)]
            refine ⟨(rs b.1 u (t + 1), _), rfl, ?_⟩
            intro j hj
            try dsimp only
            by_cases c : j = u
            · subst c
              rw [rs_same, if_pos]
              refine ⟨by omega, c1, ?_⟩
              unfold nbr
              simp
              exact ⟨c0, c2, by omega⟩
            · rw [rs_ne _ _ c, hP j hj]
              simp only [show (j < u + 1) = (j < u) by simp; omega]
      · rw [if_neg c1, b_31_92, wr_n1 (by omega)]
        refine ⟨(b.1, _), rfl, ?_⟩
        intro j hj
        rw [hP j hj]
        by_cases c : j = u
        · subst c
          rw [if_neg (by omega), if_neg]
          rintro ⟨-, h, -⟩
          exact c1 h
        · simp only [show (j < u + 1) = (j < u) by simp; omega]) (I 36, none) (by intro j hj; rw [if_neg (by omega)])
    try dsimp only at l1 l2
    rw [sr_self, e1] at l1
    refine ⟨r, l1.trans ?_, ?_⟩
    · rw [b_31_19, sr_ne _ _ (by omega), if_neg (by omega), b_31_98]
    · intro j hj
      rw [l2 j hj]
      simp only [hj, true_and]
