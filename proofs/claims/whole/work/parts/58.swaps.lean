/-! swaps: the pure side and the class -/
def xch (q : Nat → Int) (a b : Nat) : Nat → Int := rs (rs q a (q b)) b (q a)
theorem xch_at (q : Nat → Int) (a b k : Nat) : xch q a b k = if k = b then q a else if k = a then q b else q k := by
  unfold xch
  rw [rs_at, rs_at]
theorem xch_xch (q : Nat → Int) {a b : Nat} (h : a ≠ b) : xch (xch q a b) a b = q := by
  funext k
  rw [xch_at, xch_at, xch_at, xch_at]
  by_cases h1 : k = b
  · subst h1; rw [if_pos rfl, if_neg h, if_pos rfl]
  · rw [if_neg h1]
    by_cases h2 : k = a
    · subst h2; rw [if_pos rfl, if_pos rfl]
    · rw [if_neg h2, if_neg h1, if_neg h2]
theorem xch_se {q : Nat → Int} {n a b : Nat} (h : seR q n) (ha : a < n) (hb : b < n) : seR (xch q a b) n := by
  intro j hj
  rw [xch_at]
  repeat' split
  · exact h a ha
  · exact h b hb
  · exact h j hj
theorem xch_ds {q : Nat → Int} {n a b : Nat} (h : dst q n) (ha : a < n) (hb : b < n) (hab : a ≠ b) : dst (xch q a b) n := by
  intro i j hi hj hij he
  rw [xch_at, xch_at] at he
  rw [xch_at]
  by_cases i1 : i = b
  · rw [if_pos i1] at he ⊢
    rw [if_neg (by omega)] at he
    by_cases j2 : j = a
    · rw [if_pos j2] at he; exact h a b ha hb hab he
    · rw [if_neg j2] at he; exact h a j ha hj (by omega) he
  · rw [if_neg i1] at he ⊢
    by_cases i2 : i = a
    · rw [if_pos i2] at he ⊢
      by_cases j1 : j = b
      · rw [if_pos j1] at he; exact h b a hb ha (by omega) he
      · rw [if_neg j1, if_neg (by omega)] at he; exact h b j hb hj (by omega) he
    · rw [if_neg i2] at he ⊢
      by_cases j1 : j = b
      · rw [if_pos j1] at he; exact h i a hi ha i2 he
      · rw [if_neg j1] at he
        by_cases j2 : j = a
        · rw [if_pos j2] at he; exact h i b hi hb i1 he
        · rw [if_neg j2] at he; exact h i j hi hj hij he
def agr (n : Nat) (q q' : Nat → Int) : Prop := ∀ j, j < n → q j = q' j
theorem xch_ag {q q' : Nat → Int} {n a b : Nat} (h : agr n q q') (ha : a < n) (hb : b < n) : agr n (xch q a b) (xch q' a b) := by
  intro j hj
  rw [xch_at, xch_at, h a ha, h b hb, h j hj]
/-- the best exchange: what it gains, and of whom -/
def bpI (N : (Nat → Int) → Int) (q : Nat → Int) (a : Nat) (s : Int × Int × Int) : Nat → Int × Int × Int
  | 0 => s
  | k + 1 => if (bpI N q a s k).1 < N (xch q a (a + 1 + k)) then (N (xch q a (a + 1 + k)), (a : Int), ((a + 1 + k : Nat) : Int)) else bpI N q a s k
def bpO (N : (Nat → Int) → Int) (q : Nat → Int) (n : Nat) : Nat → Int × Int × Int
  | 0 => (N q, -1, -1)
  | a + 1 => bpI N q a (bpO N q n a) (n - (a + 1))
theorem bpI_s (N : (Nat → Int) → Int) (q : Nat → Int) (a : Nat) (s : Int × Int × Int) (k : Nat) : bpI N q a s (k + 1) = if (bpI N q a s k).1 < N (xch q a (a + 1 + k)) then (N (xch q a (a + 1 + k)), (a : Int), ((a + 1 + k : Nat) : Int)) else bpI N q a s k := rfl
theorem bpO_s (N : (Nat → Int) → Int) (q : Nat → Int) (n a : Nat) : bpO N q n (a + 1) = bpI N q a (bpO N q n a) (n - (a + 1)) := rfl
def okp (n : Nat) (N : (Nat → Int) → Int) (q : Nat → Int) (s : Int × Int × Int) : Prop := (s.2.1 = -1 ∧ s.1 = N q) ∨ (0 ≤ s.2.1 ∧ s.2.1 < s.2.2 ∧ s.2.2 < n ∧ s.1 = N (xch q s.2.1.toNat s.2.2.toNat))
theorem bpI_ok {n : Nat} {N : (Nat → Int) → Int} {q : Nat → Int} {a : Nat} {s : Int × Int × Int} (h : okp n N q s) : ∀ k, a + k < n → okp n N q (bpI N q a s k)
  | 0, _ => h
  | k + 1, hk => by
    rw [bpI_s]
    split
    · right
      refine ⟨by simp, by simp; omega, by simp; omega, ?_⟩
      simp only [nat_i]
    · exact bpI_ok h k (by omega)
theorem bpO_ok {n : Nat} {N : (Nat → Int) → Int} {q : Nat → Int} : ∀ a, a ≤ n → okp n N q (bpO N q n a)
  | 0, _ => Or.inl ⟨rfl, rfl⟩
  | a + 1, ha => by
    rw [bpO_s]
    exact bpI_ok (bpO_ok a (by omega)) _ (by omega)
theorem bpI_ag {n : Nat} {N N' : (Nat → Int) → Int} {q q' : Nat → Int} (hN : ∀ q q', agr n q q' → N q = N' q') (h : agr n q q') {a : Nat} {s : Int × Int × Int} : ∀ k, a + k < n → bpI N q a s k = bpI N' q' a s k
  | 0, _ => rfl
  | k + 1, hk => by rw [bpI_s, bpI_s, bpI_ag hN h k (by omega), hN _ _ (xch_ag h (by omega) (by omega))]
theorem bpO_ag {n : Nat} {N N' : (Nat → Int) → Int} {q q' : Nat → Int} (hN : ∀ q q', agr n q q' → N q = N' q') (h : agr n q q') : ∀ a, a ≤ n → bpO N q n a = bpO N' q' n a
  | 0, _ => by show (N q, _, _) = (N' q', _, _); rw [hN _ _ h]
  | a + 1, ha => by rw [bpO_s, bpO_s, bpO_ag hN h a (by omega), bpI_ag hN h _ (by omega)]
def bpx (N : (Nat → Int) → Int) (n : Nat) (q : Nat → Int) : Nat → Int := if (bpO N q n n).2.1 = -1 then q else xch q (bpO N q n n).2.1.toNat (bpO N q n n).2.2.toNat
def swQ (N : (Nat → Int) → Int) (n : Nat) (q : Nat → Int) : Nat → Nat → Int
  | 0 => q
  | k + 1 => bpx N n (swQ N n q k)
def swE (N : (Nat → Int) → Int) (n : Nat) (q : Nat → Int) (k : Nat) : Bool := decide ((bpO N (swQ N n q k) n n).2.1 = -1)
def swN (N : (Nat → Int) → Int) (n : Nat) (q : Nat → Int) : Nat := match fnd (swE N n q) 50 with
  | some k => k
  | none => 50
theorem bpx_ag {n : Nat} {N N' : (Nat → Int) → Int} {q q' : Nat → Int} (hN : ∀ q q', agr n q q' → N q = N' q') (h : agr n q q') : agr n (bpx N n q) (bpx N' n q') := by
  unfold bpx
  rw [bpO_ag hN h n (Nat.le_refl _)]
  rcases bpO_ok (N := N') (q := q') (n := n) n (Nat.le_refl _) with h1 | h1
  · rw [if_pos h1.1, if_pos h1.1]; exact h
  · rw [if_neg (by omega), if_neg (by omega)]
    exact xch_ag h (by omega) (by omega)
theorem swQ_ag {n : Nat} {N N' : (Nat → Int) → Int} {q q' : Nat → Int} (hN : ∀ q q', agr n q q' → N q = N' q') (h : agr n q q') : ∀ k, agr n (swQ N n q k) (swQ N' n q' k)
  | 0 => h
  | k + 1 => bpx_ag hN (swQ_ag hN h k)
theorem fnd_ext {p p' : Nat → Bool} (h : ∀ k, p k = p' k) : ∀ n, fnd p n = fnd p' n
  | 0 => rfl
  | n + 1 => by unfold fnd; rw [fnd_ext h n, h n]
theorem swN_ag {n : Nat} {N N' : (Nat → Int) → Int} {q q' : Nat → Int} (hN : ∀ q q', agr n q q' → N q = N' q') (h : agr n q q') : swN N n q = swN N' n q' := by
  unfold swN
  rw [fnd_ext (p' := swE N' n q') (fun k => by unfold swE; rw [bpO_ag hN (swQ_ag hN h k) n (Nat.le_refl _)])]
theorem bpx_se {N : (Nat → Int) → Int} {n : Nat} {q : Nat → Int} (h : seR q n) : seR (bpx N n q) n := by
  unfold bpx
  rcases bpO_ok (N := N) (q := q) (n := n) n (Nat.le_refl _) with h1 | h1
  · rw [if_pos h1.1]; exact h
  · rw [if_neg (by omega)]; exact xch_se h (by omega) (by omega)
theorem bpx_ds {N : (Nat → Int) → Int} {n : Nat} {q : Nat → Int} (h : dst q n) : dst (bpx N n q) n := by
  unfold bpx
  rcases bpO_ok (N := N) (q := q) (n := n) n (Nat.le_refl _) with h1 | h1
  · rw [if_pos h1.1]; exact h
  · rw [if_neg (by omega)]; exact xch_ds h (by omega) (by omega) (by omega)
theorem swQ_se {N : (Nat → Int) → Int} {n : Nat} {q : Nat → Int} (h : seR q n) : ∀ k, seR (swQ N n q k) n
  | 0 => h
  | k + 1 => bpx_se (swQ_se h k)
theorem swQ_ds {N : (Nat → Int) → Int} {n : Nat} {q : Nat → Int} (h : dst q n) : ∀ k, dst (swQ N n q k) n
  | 0 => h
  | k + 1 => bpx_ds (swQ_ds h k)
theorem swN_R (N : (Nat → Int) → Int) (n : Nat) (q : Nat → Int) : swN N n q ≤ 50 := by
  unfold swN
  cases c : fnd (swE N n q) 50 with
  | none => exact Nat.le_refl _
  | some u => have := (fnd_some c).1; show u ≤ 50; omega
def swR (n : Int) (N : (Nat → Int) → Int) (q : Nat → Int) (x : Int) : Int := if x = -1 then (swN N n.toNat q : Int) else if x = -2 then N (swQ N n.toNat q (swN N n.toNat q)) else if 0 ≤ x ∧ x < n then swQ N n.toNat q (swN N n.toNat q) x.toNat else -2000000000
theorem swR_ag {n : Int} {N N' : (Nat → Int) → Int} {q q' : Nat → Int} (hN : ∀ q q', agr n.toNat q q' → N q = N' q') (h : agr n.toNat q q') (x : Int) : swR n N q x = swR n N' q' x := by
  unfold swR
  have h1 := swN_ag hN h
  rw [h1, hN _ _ (swQ_ag hN h _)]
  by_cases c : 0 ≤ x ∧ x < n
  · rw [swQ_ag hN h _ x.toNat (by omega)]
  · rw [if_neg c, if_neg c]
theorem nt_ag {L : Int → Int → Int → Int} {M : Int} {needs mind voice : Nat → Int} {n : Nat} : ∀ q q', agr n q q' → nt L M needs mind voice q n = nt L M needs mind voice q' n := by
  intro q q' h
  unfold nt
  refine sm_ext n (fun i hi => sm_ext n (fun j hj => ?_))
  unfold wt
  rw [h i hi, h j hj]
/-- heaps of the class that differ in the row of tried seats -/
def eS (I I' : Nat → Nat → Int) : Prop := ∀ c, c ≠ 21 → c ≠ 22 → c ≠ 24 → c ≠ 30 → I' c = I c
theorem eS_r (I : Nat → Nat → Int) : eS I I := fun _ _ _ _ _ => rfl
theorem eS_t {I I' I'' : Nat → Nat → Int} (h : eS I I') (h' : eS I' I'') : eS I I'' := fun c a1 a2 a3 a4 => (h' c a1 a2 a3 a4).trans (h c a1 a2 a3 a4)
theorem eS_C {I I' : Nat → Nat → Int} (h : eC I I') : eS I I' := fun c a1 a2 a3 _ => h c a1 a2 a3
theorem eS_sr {I I' : Nat → Nat → Int} (h : eS I I') (r : Nat → Int) : eS I (sr I' 30 r) := fun c a1 a2 a3 a4 => by rw [sr_ne _ _ a4, h c a1 a2 a3 a4]
theorem KC_sr {f : Int → Int → Int → Int → Int} {w : Nat × Bool} {I : Nat → Nat → Int} (h : KC f w I) (c : Nat) (r : Nat → Int) (hc : 25 ≤ c ∧ c ≤ 36) : KC f w (sr I c r) :=
  KC_x h (sr_ne _ _ (by omega)) (sr_ne _ _ (by omega)) (sr_ne _ _ (by omega)) (sr_ne _ _ (by omega)) (sr_ne _ _ (by omega)) (sr_ne _ _ (by omega)) (sr_ne _ _ (by omega)) (sr_ne _ _ (by omega)) (sr_ne _ _ (by omega)) (sr_ne _ _ (by omega)) (sr_ne _ _ (by omega))
theorem SC_s {I I' : Nat → Nat → Int} (hS : SC I) (h : eS I I') : SC I' := by
  unfold SC
  rw [h 10 (by omega) (by omega) (by omega) (by omega), h 11 (by omega) (by omega) (by omega) (by omega), h 12 (by omega) (by omega) (by omega) (by omega), h 23 (by omega) (by omega) (by omega) (by omega)]
  exact hS
theorem Lc_s {f : Int → Int → Int → Int → Int} {I I' : Nat → Nat → Int} (h : eS I I') : Lc f I' = Lc f I :=
  Lc_x (h 4 (by omega) (by omega) (by omega) (by omega)) (h 5 (by omega) (by omega) (by omega) (by omega)) (h 6 (by omega) (by omega) (by omega) (by omega)) (h 7 (by omega) (by omega) (by omega) (by omega)) (h 8 (by omega) (by omega) (by omega) (by omega)) (h 9 (by omega) (by omega) (by omega) (by omega)) (h 23 (by omega) (by omega) (by omega) (by omega))
/-- the net with a row of tried seats -/
def NC (f : Int → Int → Int → Int → Int) (I : Nat → Nat → Int) (q : Nat → Int) : Int := nt (Lc f I) (I 23 3) (I 13) (I 12) (I 11) q (I 10 6).toNat
theorem s_74s (d : Nat) (w : Nat × Bool) (I J : Nat → Nat → Int) (f : Int → Int → Int → Int → Int) (b : Nat → Nat → Int) (r : Nat → Int) (hd : 13 ≤ d) (hS : SC I) (he : eS I b) (hk : KC f w b) (hr : b 30 = r) (hs : seR r (I 10 6).toNat) :
    ∃ b', semC d 74 [vr 23, vr 30] (mk w b J) = some (some (vi (NC f I r)), mk w b' J) ∧ eS I b' ∧ KC f w b' ∧ b' 30 = r := by
  have g10 := he 10 (by omega) (by omega) (by omega) (by omega)
  obtain ⟨b', k1, k2, k3⟩ := s_74 d w b J f 30 hd hk (SC_s hS he) (Or.inr rfl) (by rw [hr, g10]; exact hs)
  rw [Lc_s he, hr, g10, he 11 (by omega) (by omega) (by omega) (by omega), he 12 (by omega) (by omega) (by omega) (by omega), he 13 (by omega) (by omega) (by omega) (by omega), he 23 (by omega) (by omega) (by omega) (by omega)] at k1
  exact ⟨b', k1, eS_t he (eS_C k2), k3, (k2 30 (by omega) (by omega) (by omega)).trans hr⟩
theorem s_55 (d : Nat) (w : Nat × Bool) (I J : Nat → Nat → Int) (f : Int → Int → Int → Int → Int) (b : Nat → Nat → Int) (r : Nat → Int) (x y : Nat) (hd : 1 ≤ d) (he : eS I b) (hk : KC f w b) (hr : b 30 = r) (hx : x < 10) (hy : y < 10) :
    ∃ b', semC d 55 [vr 28, vi x, vi y] (mk w b J) = some (none, mk w b' J) ∧ eS I b' ∧ KC f w b' ∧ b' 30 = xch r x y := by
  obtain ⟨e, rfl⟩ : ∃ e, d = e + 1 := ⟨d - 1, by omega⟩
  refine ⟨sr b 30 (xch r x y), ?_, eS_sr he _, KC_sr hk 30 _ (by omega), sr_s _ _ _⟩
  rw [e_55, b_55_0, if_pos (by omega), if_pos (by omega), if_pos (by omega), if_pos (by omega), nat_i, nat_i]
  rw [up2_sr b 30 x, sr_up, hr]
  rfl
theorem s_54 (d : Nat) (w : Nat × Bool) (I J : Nat → Nat → Int) (f : Int → Int → Int → Int → Int) (b : Nat → Nat → Int) (r : Nat → Int) (hd : 14 ≤ d) (hS : SC I) (he : eS I b) (hk : KC f w b) (hr : b 30 = r) (hs : seR r (I 10 6).toNat) :
    ∃ b', semC d 54 [vr 28] (mk w b J) = some (some (vi (if (bpO (NC f I) r (I 10 6).toNat (I 10 6).toNat).2.1 = -1 then 0 else 1)), mk w b' J) ∧ eS I b' ∧ KC f w b' ∧ b' 30 = bpx (NC f I) (I 10 6).toNat r := by
  obtain ⟨e, rfl⟩ : ∃ e, d = e + 1 := ⟨d - 1, by omega⟩
  have hn := hS.1
  have e1 : ((I 10 6).toNat : Int) = I 10 6 := Int.toNat_of_nonneg hn.1
  obtain ⟨b1, k1, k2, k3, k4⟩ := s_74s e w I J f b r (by omega) hS he hk hr hs
  rw [e_54, b_54_0, semK_of k1]
  simp only [mpush]
  rw [b_54_11]
  obtain ⟨⟨b2, z5, z6⟩, l1, l2, l3, l4⟩ := lpE (fun (a : Nat) (c : (Nat → Nat → Int) × Option mVal × Option mVal) => Sem e 54 19 [some (vr 28), some (vi (bpO (NC f I) r (I 10 6).toNat a).1), some (vi (bpO (NC f I) r (I 10 6).toNat a).2.1), some (vi (bpO (NC f I) r (I 10 6).toNat a).2.2), some (vi (a : Int)), c.2.1, c.2.2] [] (mk w c.1 J)) (fun _ c => eS I c.1 ∧ KC f w c.1 ∧ c.1 30 = r) (I 10 6).toNat (by
    rintro a ⟨c, z5, z6⟩ ha ⟨p1, p2, p3⟩
    try dsimp only at p1 p2 p3 ⊢
    have ha' := nat_lt ha
    have g10 := p1 10 (by omega) (by omega) (by omega) (by omega)
    rw [b_54_19, g10, if_pos (by omega), b_54_31, wr_if (by omega)]
    obtain ⟨⟨c2, y6⟩, m1, m2, m3, m4⟩ := lpE (fun (k : Nat) (c : (Nat → Nat → Int) × Option mVal) => Sem e 54 37 [some (vr 28), some (vi (bpI (NC f I) r a (bpO (NC f I) r (I 10 6).toNat a) k).1), some (vi (bpI (NC f I) r a (bpO (NC f I) r (I 10 6).toNat a) k).2.1), some (vi (bpI (NC f I) r a (bpO (NC f I) r (I 10 6).toNat a) k).2.2), some (vi (a : Int)), some (vi ((a + 1 + k : Nat) : Int)), c.2] [] (mk w c.1 J)) (fun _ c => eS I c.1 ∧ KC f w c.1 ∧ c.1 30 = r) ((I 10 6).toNat - (a + 1)) (by
      rintro k ⟨c, z6⟩ hk' ⟨p1, p2, p3⟩
      try dsimp only at p1 p2 p3 ⊢
      have g10 := p1 10 (by omega) (by omega) (by omega) (by omega)
      obtain ⟨c3, q1, q2, q3, q4⟩ := s_55 e w I J f c r a (a + 1 + k) (by omega) p1 p2 p3 (by omega) (by omega)
      obtain ⟨c4, q5, q6, q7, q8⟩ := s_74s e w I J f c3 (xch r a (a + 1 + k)) (by omega) hS q2 q3 q4 (xch_se hs (by omega) (by omega))
      obtain ⟨c5, q9, qa, qb, qc⟩ := s_55 e w I J f c4 (xch r a (a + 1 + k)) a (a + 1 + k) (by omega) q6 q7 q8 (by omega) (by omega)
      rw [xch_xch r (by omega)] at qc
      rw [b_54_37, g10, if_pos (by omega), b_54_49, semK_of q1]
      simp only [mpush]
      rw [b_54_57, semK_of q5]
      simp only [mpush]
      rw [b_54_68, semK_of q9]
      simp only [mpush]
      rw [b_54_78, bpI_s]
      refine ⟨(c5, some (vi (NC f I (xch r a (a + 1 + k))))), ?_, qa, qb, qc⟩
      by_cases cc : (bpI (NC f I) r a (bpO (NC f I) r (I 10 6).toNat a) k).1 < NC f I (xch r a (a + 1 + k))
      · rw [if_pos cc, if_pos cc, b_54_84, b_54_93, wr_n1 (by omega)]
        rfl
      · rw [if_neg cc, if_neg cc, b_54_93, wr_n1 (by omega)]
        rfl) (c, z6) ⟨p1, p2, p3⟩
    try dsimp only at m1 m2 m3 m4
    have g10' := m2 10 (by omega) (by omega) (by omega) (by omega)
    refine ⟨(c2, some (vi ((a + 1 + ((I 10 6).toNat - (a + 1)) : Nat) : Int)), y6), ?_, m2, m3, m4⟩
    try dsimp only
    refine m1.trans ?_
    rw [b_54_37, g10', if_neg (by omega), b_54_99, wr_n1 (by omega), bpO_s]) (b1, none, none) ⟨k2, k3, k4⟩
  try dsimp only at l1 l2 l3 l4
  rw [e1] at l1
  have g10 := l2 10 (by omega) (by omega) (by omega) (by omega)
  have l1' := l1.trans (show _ = _ by rw [b_54_19, g10, if_neg (by omega), b_54_105])
  have l2' : Sem e 54 19 [some (vr 28), some (vi (NC f I r)), some (vi (-1)), some (vi (-1)), some (vi 0), none, none] [] (mk w b1 J) = _ := l1'
  rw [l2']
  have hok := bpO_ok (N := NC f I) (q := r) (n := (I 10 6).toNat) (I 10 6).toNat (Nat.le_refl _)
  unfold bpx
  by_cases c : (bpO (NC f I) r (I 10 6).toNat (I 10 6).toNat).2.1 = -1
  · refine ⟨b2, ?_, l2, l3, ?_⟩
    · rw [if_pos c, b_54_110, if_pos c]
    · rw [if_pos c]; exact l4
  · obtain ⟨p1, p2, p3⟩ : 0 ≤ (bpO (NC f I) r (I 10 6).toNat (I 10 6).toNat).2.1 ∧ (bpO (NC f I) r (I 10 6).toNat (I 10 6).toNat).2.1 < (bpO (NC f I) r (I 10 6).toNat (I 10 6).toNat).2.2 ∧ (bpO (NC f I) r (I 10 6).toNat (I 10 6).toNat).2.2 < ((I 10 6).toNat : Int) := by
      rcases hok with h | h
      · exact absurd h.1 c
      · exact ⟨h.1, h.2.1, h.2.2.1⟩
    obtain ⟨c3, q1, q2, q3, q4⟩ := s_55 e w I J f b2 r (bpO (NC f I) r (I 10 6).toNat (I 10 6).toNat).2.1.toNat (bpO (NC f I) r (I 10 6).toNat (I 10 6).toNat).2.2.toNat (by omega) l2 l3 l4 (by omega) (by omega)
    rw [Int.toNat_of_nonneg p1, Int.toNat_of_nonneg (by omega)] at q1
    refine ⟨c3, ?_, q2, q3, ?_⟩
    · rw [if_neg c, b_54_112, semK_of q1]
      simp only [mpush]
      rw [b_54_118, if_neg c]
    · rw [if_neg c]; exact q4
