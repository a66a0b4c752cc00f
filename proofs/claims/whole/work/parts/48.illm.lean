/-! ill of the reference -/
def rch (seat dx dy r : Nat → Int) (R l t : Int) (v o : Nat) : Bool := decide (0 ≤ r o ∧ r o ≤ t ∧ t < r o + l ∧ 0 ≤ seat o ∧ farI dx dy (seat v).toNat (seat o).toNat ≤ R)
theorem FF_2 (E : Nat → Nat → Bool) (n who t j : Nat) : FF E n who (t + 1) j = FF E n who t j ∨ (FF E n who t j = -1 ∧ FF E n who (t + 1) j = t + 1) := by
  by_cases c : FF E n who t j = -1
  · conv => rhs; rhs; lhs; unfold FF
    conv => lhs; lhs; unfold FF
    try dsimp only
    rw [if_neg (by omega)]
    split
    · exact Or.inr ⟨c, rfl⟩
    · exact Or.inl c.symm
  · exact Or.inl (FF_mono _ _ _ _ _ c)
theorem rch_ex (seat dx dy r : Nat → Int) (R l : Int) (n who t v : Nat) (hs : seR seat n) (hl : 1 ≤ l) (hv : v < n) (hsv : 0 ≤ seat v)
    (hr : ∀ j, j < n → r j = FF (nbr seat dx dy R) n who t j ∨ (FF (nbr seat dx dy R) n who t j = -1 ∧ r j = t + 1)) (hf : FF (nbr seat dx dy R) n who t v = -1) :
    ex (rch seat dx dy r R l t v) n = ex (fun k => decide (FF (nbr seat dx dy R) n who t k = t) && nbr seat dx dy R k v) n := by
  rw [Bool.eq_iff_iff, ex_iff, ex_iff]
  constructor
  · rintro ⟨o, ho, h⟩
    unfold rch at h
    have h := of_decide_eq_true h
    obtain ⟨h1, h2, h3, h4, h5⟩ := h
    have hE : nbr seat dx dy R o v = true := by
      unfold nbr
      rw [farI_comm]
      exact decide_eq_true ⟨by omega, by omega, h5⟩
    have hro : r o = FF (nbr seat dx dy R) n who t o := by
      rcases hr o ho with h | h <;> omega
    have hq := FF_cl (nbr seat dx dy R) n who t o v ho
    refine ⟨o, ho, ?_⟩
    rw [hE, Bool.and_true]
    refine decide_eq_true ?_
    by_cases c : FF (nbr seat dx dy R) n who t o < t
    · exact absurd hf (hq (by omega) c hE)
    · omega
  · rintro ⟨o, ho, h⟩
    rw [Bool.and_eq_true] at h
    have h1 := of_decide_eq_true h.1
    have h2 := h.2
    unfold nbr at h2
    have h2 := of_decide_eq_true h2
    rw [farI_comm] at h2
    have h3 := hs o ho
    refine ⟨o, ho, decide_eq_true ?_⟩
    have hro : r o = FF (nbr seat dx dy R) n who t o := by
      rcases hr o ho with h | h <;> omega
    exact ⟨by omega, by omega, by omega, by omega, h2.2.2⟩
theorem ill_in (d : Nat) (w : Nat × Bool) (I J : Nat → Nat → Int) (e : Nat) (a x y l x5 x6 : Int) (r : Nat → Int) (t v : Nat) (u9 u10 : Option mVal) (he : 2 ≤ e) (hn : 0 ≤ I 58 10 ∧ I 58 10 ≤ 10) (hs : seR (I 69) (I 58 10).toNat) (h5 : pos (I 59)) (h6 : pos (I 60)) (ht : t < 100) (hv : v < (I 58 10).toNat) (hl : 1 ≤ l ∧ l ≤ 9) (hx : 0 ≤ x ∧ x < 2147483648) (hr : ∀ j, j < (I 58 10).toNat → -1 ≤ r j ∧ r j ≤ 200) (hf : r v < 0) (hsv : 0 ≤ I 69 v) :
    ∃ z : Int, Sem e 208 135 [some (vr 58), some (vi a), some (vi x), some (vi y), some (vi l), some (vi x5), some (vi x6), some (vi (t : Int)), some (vi (v : Int)), u9, u10] [] (mk w (sr I 89 r) J) = Sem e 208 231 [some (vr 58), some (vi a), some (vi x), some (vi y), some (vi l), some (vi x5), some (vi x6), some (vi (t : Int)), some (vi (v : Int)), some (vi (b2 (ex (rch (I 69) (I 59) (I 60) r (x.tdiv 10) l t v) (I 58 10).toNat))), some (vi z)] [] (mk w (sr I 89 r) J) := by
  rw [b_208_135]
  have e1 : ((I 58 10).toNat : Int) = I 58 10 := Int.toNat_of_nonneg hn.1
  have s58 : sr I 89 r 58 = I 58 := sr_ne _ _ (by omega)
  have s69 : sr I 89 r 69 = I 69 := sr_ne _ _ (by omega)
  have s59 : sr I 89 r 59 = I 59 := sr_ne _ _ (by omega)
  have s60 : sr I 89 r 60 = I 60 := sr_ne _ _ (by omega)
  have hv' := nat_lt hv
  obtain ⟨-, l1, -⟩ := lpE (fun (u : Nat) (b : Unit) => Sem e 208 141 [some (vr 58), some (vi a), some (vi x), some (vi y), some (vi l), some (vi x5), some (vi x6), some (vi (t : Int)), some (vi (v : Int)), some (vi (b2 (ex (rch (I 69) (I 59) (I 60) r (x.tdiv 10) l t v) u))), some (vi (u : Int))] [] (mk w (sr I 89 r) J)) (fun _ _ => True) (I 58 10).toNat (by
    intro u b hu _
    have hu' := nat_lt hu
    have q := hs u hu
    have qv := hs v hv
    have g := hr u hu
    refine ⟨(), ?_, trivial⟩
    try dsimp only
    rw [b_208_141, s58, if_pos (by omega), b_208_150, if_pos (by omega), nat_i, sr_s, ex_s]
    have hno : rch (I 69) (I 59) (I 60) r (x.tdiv 10) l t v u = false → Sem e 208 225 [some (vr 58), some (vi a), some (vi x), some (vi y), some (vi l), some (vi x5), some (vi x6), some (vi (t : Int)), some (vi (v : Int)), some (vi (b2 (ex (rch (I 69) (I 59) (I 60) r (x.tdiv 10) l t v) u))), some (vi (u : Int))] [] (mk w (sr I 89 r) J) = Sem e 208 141 [some (vr 58), some (vi a), some (vi x), some (vi y), some (vi l), some (vi x5), some (vi x6), some (vi (t : Int)), some (vi (v : Int)), some (vi (b2 (ex (rch (I 69) (I 59) (I 60) r (x.tdiv 10) l t v) u || rch (I 69) (I 59) (I 60) r (x.tdiv 10) l t v u))), some (vi ((u + 1 : Nat) : Int))] [] (mk w (sr I 89 r) J) := by
      intro h
      rw [b_208_225, wr_n1 (by omega), h, Bool.or_false]
    by_cases c1 : r u < 0
    · rw [if_pos c1, hno (decide_eq_false (by omega))]
    · rw [if_neg c1, b_208_160, if_pos (by omega), nat_i, sr_s]
      by_cases c2 : (t : Int) < r u
      · rw [if_pos c2, hno (decide_eq_false (by omega))]
      · rw [if_neg c2, b_208_172, if_pos (by omega), nat_i, sr_s, wr_if (by omega)]
        by_cases c3 : (t : Int) < r u + l
        · rw [if_pos c3, b_208_187, if_pos (by omega), nat_i, s69]
          by_cases c4 : I 69 u < 0
          · rw [if_pos c4, hno (decide_eq_false (by omega))]
          · rw [if_neg c4, b_208_197, if_pos (by omega), if_pos (by omega), nat_i, nat_i, s69, semK_of (s_176 _ _ _ _ _ _ (by omega) (by omega) (by omega) (by rw [s59]; exact h5) (by rw [s60]; exact h6)), s59, s60]
            simp only [mpush]
            rw [b_208_215, wr_tdiv (by omega) (by omega)]
            by_cases c5 : x.tdiv 10 < farI (I 59) (I 60) (I 69 v).toNat (I 69 u).toNat
            · rw [if_pos c5, hno (decide_eq_false (by omega))]
            · rw [if_neg c5, b_208_222, b_208_225, wr_n1 (by omega)]
              have hy : rch (I 69) (I 59) (I 60) r (x.tdiv 10) l t v u = true := decide_eq_true (by omega)
              rw [hy, Bool.or_true]
              rfl
        · rw [if_neg c3, hno (decide_eq_false (by omega))]) () trivial
  try dsimp only at l1
  rw [e1] at l1
  refine ⟨I 58 10, l1.trans ?_⟩
  rw [b_208_141, s58, if_neg (by omega)]
theorem ill_day (d : Nat) (w : Nat × Bool) (I J : Nat → Nat → Int) (e : Nat) (a x y l x5 x6 : Int) (r : Nat → Int) (who t : Nat) (u8 u9 u10 : Option mVal) (he : 2 ≤ e) (hn : 0 ≤ I 58 10 ∧ I 58 10 ≤ 10) (hs : seR (I 69) (I 58 10).toNat) (h5 : pos (I 59)) (h6 : pos (I 60)) (ht : t < 100) (hl : 1 ≤ l ∧ l ≤ 9) (hx : 0 ≤ x ∧ x < 2147483648)
    (hr : ∀ j, j < (I 58 10).toNat → r j = FF (nbr (I 69) (I 59) (I 60) (x.tdiv 10)) (I 58 10).toNat who t j) (h56 : x5 = cnt r (I 58 10).toNat ∧ x6 = mx r (I 58 10).toNat + l - 1) :
    ∃ r' x5' x6' z8 z9 z10, Sem e 208 100 [some (vr 58), some (vi a), some (vi x), some (vi y), some (vi l), some (vi x5), some (vi x6), some (vi (t : Int)), u8, u9, u10] [] (mk w (sr I 89 r) J) = Sem e 208 93 [some (vr 58), some (vi a), some (vi x), some (vi y), some (vi l), some (vi x5'), some (vi x6'), some (vi ((t + 1 : Nat) : Int)), z8, z9, z10] [] (mk w (sr I 89 r') J)
      ∧ (∀ j, j < (I 58 10).toNat → r' j = FF (nbr (I 69) (I 59) (I 60) (x.tdiv 10)) (I 58 10).toNat who (t + 1) j) ∧ x5' = cnt r' (I 58 10).toNat ∧ x6' = mx r' (I 58 10).toNat + l - 1 := by
  have e1 : ((I 58 10).toNat : Int) = I 58 10 := Int.toNat_of_nonneg hn.1
  have s58 : ∀ r, sr I 89 r 58 = I 58 := fun r => sr_ne _ _ (by omega)
  have s69 : ∀ r, sr I 89 r 69 = I 69 := fun r => sr_ne _ _ (by omega)
  rw [b_208_100]
  obtain ⟨⟨r', x5', x6', z9, z10⟩, l1, l2, l3, l4⟩ := lpE (fun (v : Nat) (b : (Nat → Int) × Int × Int × Option mVal × Option mVal) => Sem e 208 103 [some (vr 58), some (vi a), some (vi x), some (vi y), some (vi l), some (vi b.2.1), some (vi b.2.2.1), some (vi (t : Int)), some (vi (v : Int)), b.2.2.2.1, b.2.2.2.2] [] (mk w (sr I 89 b.1) J))
    (fun v b => (∀ j, j < (I 58 10).toNat → b.1 j = if j < v then FF (nbr (I 69) (I 59) (I 60) (x.tdiv 10)) (I 58 10).toNat who (t + 1) j else FF (nbr (I 69) (I 59) (I 60) (x.tdiv 10)) (I 58 10).toNat who t j) ∧ b.2.1 = cnt b.1 (I 58 10).toNat ∧ b.2.2.1 = mx b.1 (I 58 10).toNat + l - 1) (I 58 10).toNat (by
    rintro v ⟨r, x5, x6, z9, z10⟩ hv ⟨hP, h5', h6'⟩
    try dsimp only at hP h5' h6' ⊢
    have hv' := nat_lt hv
    have hPv := hP v hv
    rw [if_neg (by omega)] at hPv
    have hRv := FF_R (nbr (I 69) (I 59) (I 60) (x.tdiv 10)) (I 58 10).toNat who t v
    have hsv := hs v hv
    have hrR : ∀ j, j < (I 58 10).toNat → -1 ≤ r j ∧ r j ≤ 200 := by
      intro j hj
      have g1 := FF_R (nbr (I 69) (I 59) (I 60) (x.tdiv 10)) (I 58 10).toNat who t j
      have g2 := FF_R (nbr (I 69) (I 59) (I 60) (x.tdiv 10)) (I 58 10).toNat who (t + 1) j
      rw [hP j hj]; split <;> omega
    have hmx := mx_R r 200 (by omega) (I 58 10).toNat (fun j hj => (hrR j hj).2)
    have hct := cnt_R r (I 58 10).toNat
    have keep : FF (nbr (I 69) (I 59) (I 60) (x.tdiv 10)) (I 58 10).toNat who (t + 1) v = FF (nbr (I 69) (I 59) (I 60) (x.tdiv 10)) (I 58 10).toNat who t v → (∀ j, j < (I 58 10).toNat → r j = if j < v + 1 then FF (nbr (I 69) (I 59) (I 60) (x.tdiv 10)) (I 58 10).toNat who (t + 1) j else FF (nbr (I 69) (I 59) (I 60) (x.tdiv 10)) (I 58 10).toNat who t j) := by
      intro h j hj
      rw [hP j hj]
      by_cases c : j = v
      · subst c; rw [if_neg (by omega), if_pos (by omega), h]
      · by_cases c2 : j < v
        · rw [if_pos c2, if_pos (by omega)]
        · rw [if_neg c2, if_neg (by omega)]
    rw [b_208_103, s58, if_pos (by omega), b_208_112, if_pos (by omega), nat_i, sr_s]
    by_cases c1 : r v < 0
    · have c1' : FF (nbr (I 69) (I 59) (I 60) (x.tdiv 10)) (I 58 10).toNat who t v = -1 := by omega
      rw [if_pos c1, b_208_122, if_pos (by omega), nat_i, s69]
      by_cases c2 : I 69 v < 0
      · rw [if_pos c2, b_208_132, b_208_270, wr_n1 (by omega)]
        refine ⟨(r, x5, x6, z9, z10), rfl, keep ?_, h5', h6'⟩
        have hx0 : ¬ ex (fun k => decide (FF (nbr (I 69) (I 59) (I 60) (x.tdiv 10)) (I 58 10).toNat who t k = t) && nbr (I 69) (I 59) (I 60) (x.tdiv 10) k v) (I 58 10).toNat = true := by
          rw [ex_iff]
          rintro ⟨k, hk, h⟩
          rw [Bool.and_eq_true] at h
          have h2 := h.2
          unfold nbr at h2
          have h2 := of_decide_eq_true h2
          omega
        rw [FF_s]
        unfold FH
        rw [if_neg (by omega), if_neg hx0, c1']
      · rw [if_neg c2]
        obtain ⟨z, k1⟩ := ill_in e w I J e a x y l x5 x6 r t v z9 z10 he hn hs h5 h6 ht hv hl hx hrR c1 (by omega)
        rw [k1, b_208_231]
        have hq := rch_ex (I 69) (I 59) (I 60) r (x.tdiv 10) l (I 58 10).toNat who t v hs hl.1 hv (by omega) (by
          intro j hj
          rw [hP j hj]
          rcases FF_2 (nbr (I 69) (I 59) (I 60) (x.tdiv 10)) (I 58 10).toNat who t j with h | h
          · left; split
            · exact h
            · rfl
          · split
            · right; exact h
            · left; rfl) c1'
        have hF : FF (nbr (I 69) (I 59) (I 60) (x.tdiv 10)) (I 58 10).toNat who (t + 1) v = if ex (rch (I 69) (I 59) (I 60) r (x.tdiv 10) l t v) (I 58 10).toNat = true then (t : Int) + 1 else -1 := by
          rw [FF_s, hq]
          unfold FH
          rw [if_neg (by omega)]
        cases c3 : ex (rch (I 69) (I 59) (I 60) r (x.tdiv 10) l t v) (I 58 10).toNat
        · rw [c3] at hF
          rw [b2_f, if_pos rfl, b_208_236, b_208_270, wr_n1 (by omega)]
          refine ⟨(r, x5, x6, some (vi 0), some (vi z)), rfl, keep ?_, h5', h6'⟩
          rw [hF, c1']; rfl
        · rw [c3] at hF
          rw [b2_t, if_neg (by omega), b_208_239, if_pos (by omega), nat_i, sr_up, wr_if (a := _ + l) (by omega), wr_if (a := x5 + 1) (by omega), wr_if (a := (t : Int) + 1) (by omega)]
          have hrv : r v = -1 := by omega
          have hc := cnt_rs r v ((t : Int) + 1) hrv (by omega) (I 58 10).toNat
          have hm := mx_rs r v ((t : Int) + 1) hrv (I 58 10).toNat
          rw [if_pos hv] at hc
          have hP' : ∀ j, j < (I 58 10).toNat → rs r v ((t : Int) + 1) j = if j < v + 1 then FF (nbr (I 69) (I 59) (I 60) (x.tdiv 10)) (I 58 10).toNat who (t + 1) j else FF (nbr (I 69) (I 59) (I 60) (x.tdiv 10)) (I 58 10).toNat who t j := by
            intro j hj
            by_cases c : j = v
            · subst c; rw [rs_same, if_pos (by omega), hF]; rfl
            · rw [rs_ne _ _ c, hP j hj]
              by_cases c2 : j < v
              · rw [if_pos c2, if_pos (by omega)]
              · rw [if_neg c2, if_neg (by omega)]
          by_cases c4 : x6 < (t : Int) + l
          · rw [if_pos c4, b_208_263, b_208_270, wr_n1 (by omega), wr_if (by omega)]
            refine ⟨(rs r v ((t : Int) + 1), x5 + 1, (t : Int) + l, some (vi 1), some (vi z)), rfl, hP', ?_, ?_⟩
            · show x5 + 1 = cnt (rs r v ((t : Int) + 1)) (I 58 10).toNat
              omega
            · show (t : Int) + l = mx (rs r v ((t : Int) + 1)) (I 58 10).toNat + l - 1
              rw [if_pos (by omega)] at hm
              omega
          · rw [if_neg c4, b_208_270, wr_n1 (by omega)]
            refine ⟨(rs r v ((t : Int) + 1), x5 + 1, x6, some (vi 1), some (vi z)), rfl, hP', ?_, ?_⟩
            · show x5 + 1 = cnt (rs r v ((t : Int) + 1)) (I 58 10).toNat
              omega
            · show x6 = mx (rs r v ((t : Int) + 1)) (I 58 10).toNat + l - 1
              rw [if_neg (by omega)] at hm
              omega
    · rw [if_neg c1, b_208_270, wr_n1 (by omega)]
      exact ⟨(r, x5, x6, z9, z10), rfl, keep (FF_mono _ _ _ _ _ (by omega)), h5', h6'⟩) (r, x5, x6, u9, u10) (by
    refine ⟨?_, h56.1, h56.2⟩
    intro j hj
    rw [if_neg (by omega)]
    exact hr j hj)
  try dsimp only at l1 l2 l3 l4
  rw [e1] at l1
  refine ⟨r', x5', x6', some (vi (I 58 10)), z9, z10, l1.trans ?_, ?_, l3, l4⟩
  · rw [b_208_103, s58, if_neg (by omega), b_208_276, wr_n1 (by omega)]
  · intro j hj
    rw [l2 j hj, if_pos hj]
theorem s_208 (d : Nat) (w : Nat × Bool) (I J : Nat → Nat → Int) (a x y : Int) (hd : 4 ≤ d) (hx : iR x) (hn : 0 ≤ I 58 10 ∧ I 58 10 ≤ 10) (hs : seR (I 69) (I 58 10).toNat) (h5 : pos (I 59)) (h6 : pos (I 60)) :
    ∃ r, semC d 208 [vr 58, vi a, vi x, vi y] (mk w I J) = some (some (vi (illR (I 58 10) (I 69) (I 59) (I 60) a x y)), mk w (sr I 89 r) J) := by
  obtain ⟨e, rfl⟩ : ∃ e, d = e + 1 := ⟨d - 1, by omega⟩
  rw [e_208]
  obtain ⟨hx1, hx2⟩ := id hx
  have e1 : ((I 58 10).toNat : Int) = I 58 10 := Int.toNat_of_nonneg hn.1
  have s58 : ∀ r, sr I 89 r 58 = I 58 := fun r => sr_ne _ _ (by omega)
  have ht9 := Int.tmod_lt_of_pos x (show (0 : Int) < 10 by omega)
  unfold illR
  by_cases c1 : 0 ≤ a ∧ a < I 58 10
  · by_cases c2 : 0 ≤ x
    · by_cases c4 : x.tdiv 10 ≤ 40
      · by_cases c5 : 1 ≤ x.tmod 10
        · by_cases c3 : 0 ≤ y ∧ y ≤ 1
          · rw [if_pos ⟨c1, c2, c3, c4, c5⟩]
            simp (disch := omega) only [b_208_0, b_208_5, b_208_8, b_208_12, b_208_21, b_208_28, b_208_34, b_208_37, b_208_39, s_139 _ _ _ _ _ _ hn, s_135 _ _ _ _ _ _ _ _, semK, Option.bind_some, mpush, wr_if, wr_tdiv, if_pos, if_neg, ↓reduceIte, b2_t, b2_f, Bool.false_eq_true, up2_ne, up2_sne, up2_s, true_or, or_true, true_and, and_true, false_and, and_false, false_or, or_false]
            obtain ⟨r0, l1, l2⟩ := lpE (fun (u : Nat) (r : Nat → Int) => Sem e 208 48 [some (vr 58), some (vi a), some (vi x), some (vi y), some (vi (x.tmod 10)), some (vi (u : Int)), none, none, none, none, none] [] (mk w (sr I 89 r) J)) (fun u r => ∀ j, j < u → r j = if j = a.toNat then 0 else -1) (I 58 10).toNat (by
              intro u r hu hP
              have hu' := nat_lt hu
              refine ⟨rs r u (if u = a.toNat then 0 else -1), ?_, ?_⟩
              · try dsimp only
                rw [b_208_48, s58, if_pos (by omega), b_208_57]
                by_cases c : u = a.toNat
                · rw [if_pos (by omega), b_208_69, b_208_74, if_pos (by omega), nat_i, sr_up, wr_n1 (by omega), if_pos c]
                · rw [if_neg (by omega), b_208_73, b_208_74, if_pos (by omega), nat_i, sr_up, wr_n1 (by omega), if_neg c]
              · intro j hj
                rw [rs_at]
                by_cases c : j = u
                · subst c; rw [if_pos rfl]
                · rw [if_neg c]; exact hP j (by omega)) (I 89) (by intro j hj; omega)
            try dsimp only at l1
            rw [sr_self, e1, show ((0 : Nat) : Int) = 0 from rfl] at l1
            rw [l1.trans (show _ = _ by rw [b_208_48, s58, if_neg (by omega), b_208_81, wr_if (by omega)])]
            have h1n : a.toNat < (I 58 10).toNat := by omega
            have c0 : cnt r0 (I 58 10).toNat = 1 ∧ mx r0 (I 58 10).toNat = 0 := by
              have hE : ∀ j, j < (I 58 10).toNat → r0 j = rs (fun _ => -1) a.toNat 0 j := by
                intro j hj; rw [l2 j hj, rs_at]
              rw [cnt_ext _ hE, mx_ext _ hE, cnt_rs (fun _ => -1) a.toNat 0 rfl (by omega), mx_rs (fun _ => -1) a.toNat 0 rfl, if_pos h1n]
              have z1 : ∀ n, cnt (fun _ => -1) n = 0 ∧ mx (fun _ => -1) n = 0 := by
                intro n
                induction n with
                | zero => exact ⟨rfl, rfl⟩
                | succ n ih => rw [cnt_s, mx_s, ih.1, ih.2]; exact ⟨rfl, rfl⟩
              rw [(z1 _).1, (z1 _).2]
              exact ⟨rfl, by rw [if_neg (by omega)]⟩
            have hQ := lpQ (fun (t : Nat) (b : (Nat → Int) × Int × Int × Option mVal × Option mVal × Option mVal) => Sem e 208 93 [some (vr 58), some (vi a), some (vi x), some (vi y), some (vi (x.tmod 10)), some (vi b.2.1), some (vi b.2.2.1), some (vi (t : Int)), b.2.2.2.1, b.2.2.2.2.1, b.2.2.2.2.2] [] (mk w (sr I 89 b.1) J))
              (fun t b => (∀ j, j < (I 58 10).toNat → b.1 j = FF (nbr (I 69) (I 59) (I 60) (x.tdiv 10)) (I 58 10).toNat a.toNat t j) ∧ b.2.1 = cnt b.1 (I 58 10).toNat ∧ b.2.2.1 = mx b.1 (I 58 10).toNat + x.tmod 10 - 1)
              (fun o => ∃ r, o = some (some (vi (if y = 0 then cnt (FF (nbr (I 69) (I 59) (I 60) (x.tdiv 10)) (I 58 10).toNat a.toNat 10) (I 58 10).toNat else mx (FF (nbr (I 69) (I 59) (I 60) (x.tdiv 10)) (I 58 10).toNat a.toNat 10) (I 58 10).toNat + x.tmod 10 - 1)), mk w (sr I 89 r) J)) 30
            have hend : ∀ (t : Nat) (b : (Nat → Int) × Int × Int × Option mVal × Option mVal × Option mVal), ((∀ j, j < (I 58 10).toNat → b.1 j = FF (nbr (I 69) (I 59) (I 60) (x.tdiv 10)) (I 58 10).toNat a.toNat t j) ∧ b.2.1 = cnt b.1 (I 58 10).toNat ∧ b.2.2.1 = mx b.1 (I 58 10).toNat + x.tmod 10 - 1) → b.2.2.1 < t → ∃ r, Sem e 208 93 [some (vr 58), some (vi a), some (vi x), some (vi y), some (vi (x.tmod 10)), some (vi b.2.1), some (vi b.2.2.1), some (vi (t : Int)), b.2.2.2.1, b.2.2.2.2.1, b.2.2.2.2.2] [] (mk w (sr I 89 b.1) J) = some (some (vi (if y = 0 then cnt (FF (nbr (I 69) (I 59) (I 60) (x.tdiv 10)) (I 58 10).toNat a.toNat 10) (I 58 10).toNat else mx (FF (nbr (I 69) (I 59) (I 60) (x.tdiv 10)) (I 58 10).toNat a.toNat 10) (I 58 10).toNat + x.tmod 10 - 1)), mk w (sr I 89 r) J) := by
              rintro t ⟨r, x5, x6, z8, z9, z10⟩ ⟨hP, h5', h6'⟩ hlt
              try dsimp only at hP h5' h6' hlt ⊢
              have hfx := FF_fix (nbr (I 69) (I 59) (I 60) (x.tdiv 10)) (I 58 10).toNat a.toNat t (by omega) h1n (by
                intro j hj
                have := mx_le r (I 58 10).toNat j hj
                rw [← hP j hj]
                omega)
              rw [cnt_ext _ hP, hfx] at h5'
              rw [mx_ext _ hP, hfx] at h6'
              refine ⟨r, ?_⟩
              rw [b_208_93, if_pos hlt, b_208_282, h5', h6']
              by_cases cy : y = 0
              · rw [if_pos cy, if_pos cy, b_208_286, b_208_293]
              · rw [if_neg cy, if_neg cy, b_208_291, b_208_293]
            refine hQ ?_ ?_ (r0, 1, x.tmod 10 - 1, none, none, none) ?_
            · rintro t ⟨r, x5, x6, z8, z9, z10⟩ ht hP
              by_cases cl : x6 < t
              · right
                exact hend t _ hP cl
              · left
                try dsimp only at hP ⊢
                obtain ⟨r', x5', x6', z8', z9', z10', k1, k2, k3, k4⟩ := ill_day e w I J e a x y (x.tmod 10) x5 x6 r a.toNat t z8 z9 z10 (by omega) hn hs h5 h6 (by omega) (by omega) (by omega) hP.1 hP.2
                refine ⟨(r', x5', x6', z8', z9', z10'), ?_, k2, k3, k4⟩
                try dsimp only
                rw [b_208_93, if_neg cl, k1]
            · rintro ⟨r, x5, x6, z8, z9, z10⟩ hP
              have hm := mx_R r 9 (by omega) (I 58 10).toNat (fun j hj => by
                have := hP.1 j hj
                try dsimp only at this
                rw [this]
                exact (FF_ten (nbr (I 69) (I 59) (I 60) (x.tdiv 10)) (I 58 10).toNat a.toNat (by omega) h1n j hj 30).2)
              have h6' := hP.2.2
              try dsimp only at h6'
              exact hend 30 _ hP (show x6 < _ by omega)
            · refine ⟨?_, c0.1.symm, ?_⟩
              · intro j hj
                exact (l2 j hj).trans rfl
              · show x.tmod 10 - 1 = mx r0 (I 58 10).toNat + x.tmod 10 - 1
                rw [c0.2]; omega
          · refine ⟨I 89, ?_⟩
            rw [sr_self]
            simp (disch := omega) only [b_208_0, b_208_5, b_208_8, b_208_12, b_208_21, b_208_28, b_208_34, b_208_37, s_139 _ _ _ _ _ _ hn, s_135 _ _ _ _ _ _ _ _, semK, Option.bind_some, mpush, wr_if, wr_tdiv, if_pos, if_neg, ↓reduceIte, b2_t, b2_f, Bool.false_eq_true, up2_ne, up2_sne, up2_s, true_or, or_true, true_and, and_true, false_and, and_false, false_or, or_false]
        · have c5' : x.tmod 10 = 0 := by have := Int.tmod_nonneg 10 c2; omega
          refine ⟨I 89, ?_⟩
          rw [sr_self]
          simp (disch := omega) only [b_208_0, b_208_5, b_208_8, b_208_12, b_208_21, b_208_37, s_139 _ _ _ _ _ _ hn, s_135 _ _ _ _ _ _ _ _, semK, Option.bind_some, mpush, wr_if, wr_tdiv, if_pos, if_neg, ↓reduceIte, b2_t, b2_f, Bool.false_eq_true, up2_ne, up2_sne, up2_s, true_or, or_true, true_and, and_true, false_and, and_false, false_or, or_false]
      · refine ⟨I 89, ?_⟩
        rw [sr_self]
        simp (disch := omega) only [b_208_0, b_208_5, b_208_8, b_208_12, b_208_37, s_139 _ _ _ _ _ _ hn, s_135 _ _ _ _ _ _ _ _, semK, Option.bind_some, mpush, wr_if, wr_tdiv, if_pos, if_neg, ↓reduceIte, b2_t, b2_f, Bool.false_eq_true, up2_ne, up2_sne, up2_s, true_or, or_true, true_and, and_true, false_and, and_false, false_or, or_false]
    · refine ⟨I 89, ?_⟩
      rw [sr_self]
      simp (disch := omega) only [b_208_0, b_208_5, b_208_8, b_208_37, s_139 _ _ _ _ _ _ hn, s_135 _ _ _ _ _ _ _ _, semK, Option.bind_some, mpush, wr_if, wr_tdiv, if_pos, if_neg, ↓reduceIte, b2_t, b2_f, Bool.false_eq_true, up2_ne, up2_sne, up2_s, true_or, or_true, true_and, and_true, false_and, and_false, false_or, or_false]
  · refine ⟨I 89, ?_⟩
    rw [sr_self]
    simp (disch := omega) only [b_208_0, b_208_5, b_208_37, s_139 _ _ _ _ _ _ hn, s_135 _ _ _ _ _ _ _ _, semK, Option.bind_some, mpush, wr_if, wr_tdiv, if_pos, if_neg, ↓reduceIte, b2_t, b2_f, Bool.false_eq_true, up2_ne, up2_sne, up2_s, true_or, or_true, true_and, and_true, false_and, and_false, false_or, or_false]
