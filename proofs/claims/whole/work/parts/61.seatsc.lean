/-! seats: the class -/
def eT (I I' : Nat → Nat → Int) : Prop := ∀ c, c ≠ 21 → c ≠ 22 → c ≠ 24 → c ≠ 28 → c ≠ 29 → c ≠ 30 → I' c = I c
theorem eT_r (I : Nat → Nat → Int) : eT I I := fun _ _ _ _ _ _ _ => rfl
theorem eT_t {I I' I'' : Nat → Nat → Int} (h : eT I I') (h' : eT I' I'') : eT I I'' := fun c a1 a2 a3 a4 a5 a6 => (h' c a1 a2 a3 a4 a5 a6).trans (h c a1 a2 a3 a4 a5 a6)
theorem eT_C {I I' : Nat → Nat → Int} (h : eC I I') : eT I I' := fun c a1 a2 a3 _ _ _ => h c a1 a2 a3
theorem eT_u {I I' : Nat → Nat → Int} (h : eT I I') (c k : Nat) (v : Int) (hc : c = 28 ∨ c = 29 ∨ c = 30) : eT I (up2 I' c k v) := fun c' a1 a2 a3 a4 a5 a6 => by rw [up2_ne _ _ _ (by omega), h c' a1 a2 a3 a4 a5 a6]
theorem SC_t {I I' : Nat → Nat → Int} (hS : SC I) (h : eT I I') : SC I' := by
  unfold SC
  rw [h 10 (by omega) (by omega) (by omega) (by omega) (by omega) (by omega), h 11 (by omega) (by omega) (by omega) (by omega) (by omega) (by omega), h 12 (by omega) (by omega) (by omega) (by omega) (by omega) (by omega), h 23 (by omega) (by omega) (by omega) (by omega) (by omega) (by omega)]
  exact hS
theorem Lc_t {f : Int → Int → Int → Int → Int} {I I' : Nat → Nat → Int} (h : eT I I') : Lc f I' = Lc f I :=
  Lc_x (h 4 (by omega) (by omega) (by omega) (by omega) (by omega) (by omega)) (h 5 (by omega) (by omega) (by omega) (by omega) (by omega) (by omega)) (h 6 (by omega) (by omega) (by omega) (by omega) (by omega) (by omega)) (h 7 (by omega) (by omega) (by omega) (by omega) (by omega) (by omega)) (h 8 (by omega) (by omega) (by omega) (by omega) (by omega) (by omega)) (h 9 (by omega) (by omega) (by omega) (by omega) (by omega) (by omega)) (h 23 (by omega) (by omega) (by omega) (by omega) (by omega) (by omega))
theorem s_52 (d : Nat) (w : Nat × Bool) (I J : Nat → Nat → Int) (i : Nat) (s : Int) (hd : 1 ≤ d) (hi : i ≤ 10) : semC d 52 [vr 28, vi i, vi s] (mk w I J) = some (some (vi (b2 (tak i (I 30) s))), mk w I J) := by
  obtain ⟨e, rfl⟩ : ∃ e, d = e + 1 := ⟨d - 1, by omega⟩
  rw [e_52, b_52_0]
  refine lpQ (fun (j : Nat) (_ : Unit) => Sem e 52 2 [some (vr 28), some (vi (i : Int)), some (vi s), some (vi (j : Int))] [] (mk w I J)) (fun j _ => nin j (I 30) s) (fun o => o = some (some (vi (b2 (tak i (I 30) s))), mk w I J)) i ?_ ?_ () (fun j hj => absurd hj (by omega))
  · intro j _ hj hP
    try dsimp only
    rw [b_52_2, if_pos (by omega), b_52_7, if_pos (by omega), nat_i]
    by_cases c : I 30 j = s
    · right
      have ht : tak i (I 30) s = true := (ex_iff _ _).2 ⟨j, hj, decide_eq_true c⟩
      rw [if_pos c, b_52_17, ht]
      rfl
    · left
      refine ⟨(), ?_, ?_⟩
      · rw [if_neg c, b_52_19, wr_n1 (by omega)]
      · intro j' hj'
        by_cases q : j' = j
        · subst q; exact c
        · exact hP j' (by omega)
  · intro _ hP
    try dsimp only
    rw [b_52_2, if_neg (by omega), b_52_25, (tak_iff _ _ _).2 hP]
    rfl
/-- what the best place so far is, in the heap -/
def SH (n : Nat) (b : Nat → Nat → Int) (s : sS) : Prop := b 28 5 = b2 s.1 ∧ (s.1 = true → b 28 4 = s.2.1 ∧ agr n (b 29) s.2.2)
def WC (f : Int → Int → Int → Int → Int) (I : Nat → Nat → Int) (q : Nat → Int) (i j : Nat) : Int := wt (Lc f I) (I 23 3) (I 13) (I 12) (I 11) q i j
theorem WC_R {f : Int → Int → Int → Int → Int} {I : Nat → Nat → Int} (hS : SC I) (q : Nat → Int) (i j : Nat) : -891 ≤ WC f I q i j ∧ WC f I q i j ≤ 891 := by
  have := wt_R (needs := I 13) (voice := I 11) (q := q) (Lc_R f I) hS.2.2.2.1 hS.2.2.1 i j
  unfold WC
  omega
theorem WC_0 {f : Int → Int → Int → Int → Int} {I : Nat → Nat → Int} (hS : SC I) (q : Nat → Int) (i : Nat) : WC f I q i i = 0 := by
  unfold WC wt Lc
  rw [LV_z (Or.inr (Or.inr rfl)), pz_z hS.2.2.2.1, wv_0]
theorem prs_x {W W' : Nat → Nat → Int} : ∀ n, (∀ i j, i < n → j < n → W i j = W' i j) → prs W n = prs W' n
  | 0, _ => rfl
  | n + 1, h => by
    show prs W n + sm (fun j => W n j + W j n) n = prs W' n + sm (fun j => W' n j + W' j n) n
    rw [prs_x n (fun i j hi hj => h i j (by omega) (by omega)), sm_ext n (fun j hj => by rw [h n j (by omega) (by omega), h j n (by omega) (by omega)])]
theorem prs_s (W : Nat → Nat → Int) (n : Nat) : prs W (n + 1) = prs W n + sm (fun j => W n j + W j n) n := rfl
theorem row_R {W : Nat → Nat → Int} (h : ∀ i j, -891 ≤ W i j ∧ W i j ≤ 891) (i k : Nat) : 0 - (k : Int) * 1782 ≤ sm (fun j => W i j + W j i) k ∧ sm (fun j => W i j + W j i) k ≤ (k : Int) * 1782 :=
  sm_R k (fun j _ => by have h1 := h i j; have h2 := h j i; omega)
theorem prs_R {W : Nat → Nat → Int} (h : ∀ i j, -891 ≤ W i j ∧ W i j ≤ 891) : ∀ k : Nat, k ≤ 10 → 0 - (k : Int) * 17820 ≤ prs W k ∧ prs W k ≤ (k : Int) * 17820
  | 0, _ => by show 0 - ((0 : Nat) : Int) * 17820 ≤ (0 : Int) ∧ (0 : Int) ≤ ((0 : Nat) : Int) * 17820; omega
  | k + 1, hk => by
    have ih := prs_R h k (by omega)
    have h2 := row_R h k k
    rw [prs_s]
    omega
theorem WC_ag {f : Int → Int → Int → Int → Int} {I : Nat → Nat → Int} {q q' : Nat → Int} {i j : Nat} (h1 : q i = q' i) (h2 : q j = q' j) : WC f I q i j = WC f I q' i j := by unfold WC wt; rw [h1, h2]
/-- the worths of one with those before -/
theorem pl_in (d : Nat) (w : Nat × Bool) (I J : Nat → Nat → Int) (f : Int → Int → Int → Int → Int) (e : Nat) (b : Nat → Nat → Int) (r : Nat → Int) (i : Nat) (x2 s : Int) (he : 12 ≤ e) (hS : SC I) (hx : eT I b) (hk : KC f w b) (hi : i < (I 10 6).toNat) (hr : agr (i + 1) (b 30) (rs r i s)) (hrR : ∀ j, j < i → 0 ≤ r j ∧ r j < 10) (hs : 0 ≤ s ∧ s < 10) (hx2 : -1000000 ≤ x2 ∧ x2 ≤ 1000000) :
    ∃ b', Sem e 51 102 [some (vr 28), some (vi (i : Int)), some (vi x2), some (vi s), some (vi x2), some (vi 0)] [] (mk w b J) = Sem e 51 156 [some (vr 28), some (vi (i : Int)), some (vi x2), some (vi s), some (vi (x2 + sm (fun j => WC f I (rs r i s) i j + WC f I (rs r i s) j i) i)), some (vi (i : Int))] [] (mk w b' J) ∧ eC b b' ∧ KC f w b' := by
  have hn := hS.1
  have hi' := nat_lt hi
  obtain ⟨b1, l1, l2, l3⟩ := lpE (fun (j : Nat) (c : Nat → Nat → Int) => Sem e 51 102 [some (vr 28), some (vi (i : Int)), some (vi x2), some (vi s), some (vi (x2 + sm (fun j => WC f I (rs r i s) i j + WC f I (rs r i s) j i) j)), some (vi (j : Int))] [] (mk w c J)) (fun _ c => eC b c ∧ KC f w c) i (by
    rintro j c hj ⟨hc, hkc⟩
    try dsimp only at hc hkc ⊢
    have hxc := eT_t hx (eT_C hc)
    have g10 := hxc 10 (by omega) (by omega) (by omega) (by omega) (by omega) (by omega)
    have g30 := hc 30 (by omega) (by omega) (by omega)
    have hrj := hrR j hj
    have hbj : b 30 j = r j := by rw [hr j (by omega), rs_ne _ _ (by omega)]
    obtain ⟨c1, k1, k2, k3⟩ := s_73 e w c J f i j s (r j) (by omega) hkc (SC_t hS hxc) (by rw [g10]; exact hi) (by rw [g10]; omega) (Or.inr hs) (Or.inr hrj)
    have hxc1 := eT_t hxc (eT_C k2)
    have g10' := hxc1 10 (by omega) (by omega) (by omega) (by omega) (by omega) (by omega)
    obtain ⟨c2, k4, k5, k6⟩ := s_73 e w c1 J f j i (r j) s (by omega) k3 (SC_t hS hxc1) (by rw [g10']; omega) (by rw [g10']; exact hi) (Or.inr hrj) (Or.inr hs)
    rw [Lc_t hxc, hxc 11 (by omega) (by omega) (by omega) (by omega) (by omega) (by omega), hxc 12 (by omega) (by omega) (by omega) (by omega) (by omega) (by omega), hxc 13 (by omega) (by omega) (by omega) (by omega) (by omega) (by omega), hxc 23 (by omega) (by omega) (by omega) (by omega) (by omega) (by omega)] at k1
    rw [Lc_t hxc1, hxc1 11 (by omega) (by omega) (by omega) (by omega) (by omega) (by omega), hxc1 12 (by omega) (by omega) (by omega) (by omega) (by omega) (by omega), hxc1 13 (by omega) (by omega) (by omega) (by omega) (by omega) (by omega), hxc1 23 (by omega) (by omega) (by omega) (by omega) (by omega) (by omega)] at k4
    have w1 : wv (nd (I 13) i j) (I 12 i) (pz (Lc f I (I 11 j) s (r j) - I 23 3)) = WC f I (rs r i s) i j := by
      unfold WC wt; rw [rs_same, rs_ne _ _ (show j ≠ i by omega)]
    have w2 : wv (nd (I 13) j i) (I 12 j) (pz (Lc f I (I 11 i) (r j) s - I 23 3)) = WC f I (rs r i s) j i := by
      unfold WC wt; rw [rs_same, rs_ne _ _ (show j ≠ i by omega)]
    rw [w1] at k1
    rw [w2] at k4
    have q1 := WC_R (f := f) hS (rs r i s) i j
    have q2 := WC_R (f := f) hS (rs r i s) j i
    have q3 := row_R (fun a b => WC_R (f := f) hS (rs r i s) a b) i j
    refine ⟨c2, ?_, eC_t (eC_t hc k2) k5, k6⟩
    rw [b_51_102, if_pos (by omega), b_51_108, if_pos (by omega), nat_i, g30, hbj, semK_of k1]
    simp only [mpush]
    rw [b_51_128, if_pos (by omega), nat_i, k2 30 (by omega) (by omega) (by omega), g30, hbj, semK_of k4]
    simp only [mpush]
    rw [b_51_146, wr_n1 (by omega), sm_s, wr_if (a := WC f I (rs r i s) i j + WC f I (rs r i s) j i) (by omega), wr_if (by omega), Int.add_assoc]) b ⟨eC_r b, hk⟩
  try dsimp only at l1 l2 l3
  refine ⟨b1, ?_, l2, l3⟩
  have l1' : Sem e 51 102 [some (vr 28), some (vi (i : Int)), some (vi x2), some (vi s), some (vi (x2 + 0)), some (vi 0)] [] (mk w b J) = _ := l1
  rw [Int.add_zero] at l1'
  rw [l1', b_51_102, if_neg (by omega)]
theorem s_51 (w : Nat × Bool) (I J : Nat → Nat → Int) (f : Int → Int → Int → Int → Int) (hS : SC I) (hn5 : 1 ≤ I 10 6 ∧ I 10 6 ≤ 5) (hD : 0 ≤ I 4 4 ∧ I 4 4 ≤ 6) : ∀ (k i d : Nat) (b : Nat → Nat → Int) (r : Nat → Int) (s : sS), i + k = (I 10 6).toNat → 13 + k ≤ d → eT I b → KC f w b → agr i (b 30) r → (∀ j, j < i → 0 ≤ r j ∧ r j < 10) → SH (I 10 6).toNat b s →
    ∃ b', semC d 51 [vr 28, vi i, vi (prs (WC f I r) i)] (mk w b J) = some (none, mk w b' J) ∧ eT I b' ∧ KC f w b' ∧ agr i (b' 30) r ∧ SH (I 10 6).toNat b' (dfs (NC f I) (I 4 4).toNat k i r s) := by
  have hN : ∀ q q', agr (I 10 6).toNat q q' → NC f I q = NC f I q' := nt_ag
  intro k
  induction k with
  | zero =>
    intro i d b r s hik hd hx hk hr hrR hSH
    obtain ⟨e, rfl⟩ : ∃ e, d = e + 1 := ⟨d - 1, by omega⟩
    have hi : i = (I 10 6).toNat := by omega
    have g10 := hx 10 (by omega) (by omega) (by omega) (by omega) (by omega) (by omega)
    have hval : prs (WC f I r) i = NC f I r := by
      unfold NC nt
      rw [← hi]
      exact (prs_full (WC_0 hS r) i).symm
    rw [e_51, b_51_0, g10, if_neg (by omega), b_51_17, hval]
    have upd : (s.1 = false ∨ s.2.1 < NC f I r) → ∃ b', Sem e 51 33 [some (vr 28), some (vi (i : Int)), some (vi (NC f I r)), none, none, none] [] (mk w b J) = some (none, mk w b' J) ∧ eT I b' ∧ KC f w b' ∧ agr i (b' 30) r ∧ SH (I 10 6).toNat b' (dfs (NC f I) (I 4 4).toNat 0 i r s) := by
      intro hc
      have hdf : dfs (NC f I) (I 4 4).toNat 0 i r s = (true, NC f I r, r) := by show upS _ _ _ = _; unfold upS; rw [if_pos hc]
      rw [hdf, b_51_33, g10, if_pos (by omega)]
      have C : ∀ c, c ≠ 28 → c ≠ 29 → cpy (up2 (up2 b 28 5 1) 28 4 (NC f I r)) 30 29 (0 : Int).toNat (0 : Int).toNat (I 10 6).toNat c = b c := fun c h1 h2 => by rw [cpy_row, if_neg h2, up2_ne _ _ _ h1, up2_ne _ _ _ h1]
      refine ⟨_, rfl, ?_, ?_, ?_, ?_, ?_⟩
      · intro c a1 a2 a3 a4 a5 a6
        rw [C c a4 a5, hx c a1 a2 a3 a4 a5 a6]
      · exact KC_x hk (C _ (by omega) (by omega)) (C _ (by omega) (by omega)) (C _ (by omega) (by omega)) (C _ (by omega) (by omega)) (C _ (by omega) (by omega)) (C _ (by omega) (by omega)) (C _ (by omega) (by omega)) (C _ (by omega) (by omega)) (C _ (by omega) (by omega)) (C _ (by omega) (by omega)) (C _ (by omega) (by omega))
      · rw [C 30 (by omega) (by omega)]; exact hr
      · rw [cpy_row, if_neg (by omega), up2_sne _ _ _ (by omega), up2_s]; rfl
      · intro _
        refine ⟨?_, ?_⟩
        · rw [cpy_row, if_neg (by omega), up2_s]
        · intro j hj
          rw [cpy_row, if_pos rfl]
          unfold cr
          rw [if_pos ⟨by simp, by simpa using hj⟩, up2_ne _ _ _ (by omega), up2_ne _ _ _ (by omega)]
          have := hr j (by omega)
          simpa using this
    by_cases c1 : s.1 = true
    · have h5 : b 28 5 = 1 := by rw [hSH.1, c1]; rfl
      have h4 := (hSH.2 c1).1
      rw [h5, if_neg (by omega), b_51_24, h4]
      by_cases c2 : s.2.1 < NC f I r
      · rw [if_pos c2]
        exact upd (Or.inr c2)
      · rw [if_neg c2, b_51_32]
        have hdf : dfs (NC f I) (I 4 4).toNat 0 i r s = s := by
          show upS _ _ _ = _
          unfold upS
          rw [if_neg]
          rintro (h | h)
          · rw [c1] at h; cases h
          · exact c2 h
        rw [hdf]
        exact ⟨b, rfl, hx, hk, hr, hSH⟩
    · have c1' : s.1 = false := by simpa using c1
      have h5 : b 28 5 = 0 := by rw [hSH.1, c1']; rfl
      rw [h5, if_pos rfl]
      exact upd (Or.inl c1')
  | succ k ih =>
    intro i d b r s hik hd hx hk hr hrR hSH
    obtain ⟨e, rfl⟩ : ∃ e, d = e + 1 := ⟨d - 1, by omega⟩
    have g10 := hx 10 (by omega) (by omega) (by omega) (by omega) (by omega) (by omega)
    have hpR := prs_R (fun a b => WC_R (f := f) hS r a b) i (by omega)
    rw [e_51, b_51_0, g10, if_pos (by omega), b_51_11, if_pos (by omega), b_51_64, dfs_s]
    have eD : ((I 4 4).toNat : Int) = I 4 4 := Int.toNat_of_nonneg hD.1
    obtain ⟨⟨b1, z4, z5⟩, l1, l2, l3, l4, l5⟩ := lpE (fun (q : Nat) (c : (Nat → Nat → Int) × Option mVal × Option mVal) => Sem e 51 66 [some (vr 28), some (vi (i : Int)), some (vi (prs (WC f I r) i)), some (vi (q : Int)), c.2.1, c.2.2] [] (mk w c.1 J)) (fun q c => eT I c.1 ∧ KC f w c.1 ∧ agr i (c.1 30) r ∧ SH (I 10 6).toNat c.1 (fld (fun d s => if tak i r d = true then s else dfs (NC f I) (I 4 4).toNat k (i + 1) (rs r i d) s) q s)) (I 4 4).toNat (by
      rintro q ⟨c, z4, z5⟩ hq ⟨p1, p2, p3, p4⟩
      try dsimp only at p1 p2 p3 p4 ⊢
      have hq' := nat_lt hq
      have g4 := p1 4 (by omega) (by omega) (by omega) (by omega) (by omega) (by omega)
      have ht : tak i (c 30) q = tak i r q := by
        rw [Bool.eq_iff_iff]
        unfold tak
        rw [ex_iff, ex_iff]
        constructor
        · rintro ⟨j, hj, h⟩; exact ⟨j, hj, by rw [← p3 j hj]; exact h⟩
        · rintro ⟨j, hj, h⟩; exact ⟨j, hj, by rw [p3 j hj]; exact h⟩
      rw [b_51_66, g4, if_pos (by omega), b_51_77, semK_of (s_52 _ _ _ _ _ _ (by omega) (by omega)), ht, fld_s]
      simp only [mpush]
      rw [b_51_83]
      cases cT : tak i r q
      · rw [b2_f, if_pos rfl, b_51_89, if_pos (by omega), nat_i]
        have hx1 : eT I (up2 c 30 i q) := eT_u p1 30 i q (by omega)
        have hk1 : KC f w (up2 c 30 i q) := KC_u p2 30 i q (by omega)
        have hr1 : agr (i + 1) (up2 c 30 i q 30) (rs r i q) := by
          intro j hj
          rw [up2_row, if_pos rfl, rs_at, rs_at]
          by_cases cj : j = i
          · rw [if_pos cj, if_pos cj]
          · rw [if_neg cj, if_neg cj]; exact p3 j (by omega)
        have h28 : up2 c 30 i q 28 = c 28 := up2_ne _ _ _ (by omega)
        have h29 : up2 c 30 i q 29 = c 29 := up2_ne _ _ _ (by omega)
        generalize up2 c 30 i q = c1 at hx1 hk1 hr1 h28 h29
        obtain ⟨c2, m1, m2, m3⟩ := pl_in e w I J f e c1 r i (prs (WC f I r) i) q (by omega) hS hx1 hk1 (by omega) hr1 hrR (by omega) (by omega)
        have hps : prs (WC f I r) i + sm (fun j => WC f I (rs r i q) i j + WC f I (rs r i q) j i) i = prs (WC f I (rs r i q)) (i + 1) := by
          rw [prs_s, prs_x (W := WC f I (rs r i q)) (W' := WC f I r) i (fun a b ha hb => WC_ag (rs_ne _ _ (by omega)) (rs_ne _ _ (by omega)))]
        rw [hps] at m1
        obtain ⟨c3, n1, n2, n3, n4, n5⟩ := ih (i + 1) e c2 (rs r i q) (fld (fun d s => if tak i r d = true then s else dfs (NC f I) (I 4 4).toNat k (i + 1) (rs r i d) s) q s) (by omega) (by omega) (eT_t hx1 (eT_C m2)) m3 (by rw [m2 30 (by omega) (by omega) (by omega)]; exact hr1) (by
          intro j hj
          rw [rs_at]
          split
          · omega
          · exact hrR j (by omega)) (by
          unfold SH
          rw [m2 28 (by omega) (by omega) (by omega), m2 29 (by omega) (by omega) (by omega), h28, h29]
          exact p4)
        rw [show ((i + 1 : Nat) : Int) = (i : Int) + 1 from rfl] at n1
        rw [m1, b_51_156, wr_if (by omega), semK_of n1]
        simp only [mpush]
        rw [b_51_165, wr_n1 (by omega)]
        refine ⟨(c3, _, _), rfl, n2, n3, ?_, ?_⟩
        · intro j hj
          exact (n4 j (by omega)).trans (rs_ne _ _ (by omega))
        · rw [if_neg (by simp)]; exact n5
      · rw [b2_t, if_neg (by omega), b_51_86, b_51_165, wr_n1 (by omega)]
        refine ⟨(c, _, _), rfl, p1, p2, p3, ?_⟩
        rw [if_pos rfl]; exact p4) (b, none, none) ⟨hx, hk, hr, hSH⟩
    try dsimp only at l1 l2 l3 l4 l5
    rw [eD] at l1
    refine ⟨b1, l1.trans ?_, l2, l3, l4, l5⟩
    rw [b_51_66, l2 4 (by omega) (by omega) (by omega) (by omega) (by omega) (by omega), if_neg (by omega), b_51_171]
def seatsR (n D : Int) (N : (Nat → Int) → Int) (x : Int) : Int :=
  if (x = -1 ∨ (0 ≤ x ∧ x < n)) ∧ n ≠ 0 ∧ n ≤ 5 ∧ D ≤ 6 ∧ n ≤ D then
    (if x = -1 then (dfs N D.toNat n.toNat 0 (fun _ => 0) (false, 0, fun _ => 0)).2.1 else (dfs N D.toNat n.toNat 0 (fun _ => 0) (false, 0, fun _ => 0)).2.2 x.toNat) else -2000000000
theorem s_112 (d : Nat) (w : Nat × Bool) (I J : Nat → Nat → Int) (f : Int → Int → Int → Int → Int) (x : Int) (hd : 22 ≤ d) (hK : KC f w I) (hS : SC I) :
    ∃ I', semC d 112 [vr 3, vi x] (mk w I J) = some (some (vi (seatsR (I 10 6) (I 4 4) (NC f I) x)), mk w I' J) ∧ eT I I' ∧ KC f w I' := by
  obtain ⟨e, rfl⟩ : ∃ e, d = e + 1 := ⟨d - 1, by omega⟩
  have hn := hS.1
  have hD := hK.1.1
  rw [e_112]
  unfold seatsR
  by_cases c1 : x = -1 ∨ (0 ≤ x ∧ x < I 10 6)
  · by_cases c2 : I 10 6 ≠ 0 ∧ I 10 6 ≤ 5 ∧ I 4 4 ≤ 6 ∧ I 10 6 ≤ I 4 4
    · rw [if_pos ⟨c1, c2⟩]
      have hx0 : eT I (up2 I 28 5 0) := eT_u (eT_r I) 28 5 0 (by omega)
      obtain ⟨b, k1, k2, k3, k4, k5⟩ := s_51 w I J f hS (by omega) (by omega) (I 10 6).toNat 0 (e - 1) (up2 I 28 5 0) (fun _ => 0) (false, 0, fun _ => 0) (by omega) (by omega) hx0 (KC_u hK 28 5 0 (by omega)) (fun j hj => absurd hj (by omega)) (fun j hj => absurd hj (by omega)) ⟨up2_s _ _ _ _, fun h => by cases h⟩
      have hf := dfs_f (NC f I) (I 4 4).toNat (I 10 6).toNat 0 (fun _ => 0) (false, 0, fun _ => 0) (by omega) (fun j hj => absurd hj (by omega))
      obtain ⟨h4, h29⟩ := k5.2 hf
      have k50 : semC e 50 [vr 28] (mk w I J) = some (some (vi (dfs (NC f I) (I 4 4).toNat (I 10 6).toNat 0 (fun _ => 0) (false, 0, fun _ => 0)).2.1), mk w b J) := by
        obtain ⟨e', rfl⟩ : ∃ e', e = e' + 1 := ⟨e - 1, by omega⟩
        rw [show e' + 1 - 1 = e' from rfl] at k1
        have k1' : semC e' 51 [vr 28, vi 0, vi 0] (mk w (up2 I 28 5 0) J) = some (none, mk w b J) := k1
        rw [e_50, b_50_0, semK_of k1']
        simp only [mpush]
        rw [b_50_11, h4]
      refine ⟨b, ?_, k2, k3⟩
      by_cases c3 : x = -1
      · rw [if_pos c3]
        simp (disch := omega) only [b_112_0, b_112_19, b_112_29, b_112_43, b_112_55, b_112_75, b_112_82, b_112_88, b_112_101, semK, Option.bind_some, mpush, wr_if, wr_tdiv, if_pos, if_neg, ↓reduceIte, b2_t, b2_f, Bool.false_eq_true, up2_ne, up2_sne, up2_s, true_or, or_true, true_and, and_true, false_and, and_false, false_or, or_false, k50]
      · rw [if_neg c3]
        simp (disch := omega) only [b_112_0, b_112_5, b_112_13, b_112_19, b_112_29, b_112_43, b_112_55, b_112_75, b_112_82, b_112_92, b_112_101, s_80 _ _ _ _ _ _, semK, Option.bind_some, mpush, wr_if, wr_tdiv, if_pos, if_neg, ↓reduceIte, b2_t, b2_f, Bool.false_eq_true, up2_ne, up2_sne, up2_s, true_or, or_true, true_and, and_true, false_and, and_false, false_or, or_false, k50]
        rw [h29 _ (by omega)]
    · rw [if_neg (fun h => c2 h.2)]
      refine ⟨I, ?_, eT_r I, hK⟩
      have hgo : Sem e 112 19 [some (vr 3), some (vi x), none] [] (mk w I J) = some (some (vi (-2000000000)), mk w I J) := by
        rw [b_112_19]
        by_cases d1 : I 10 6 = 0
        · rw [if_pos d1, b_112_40]
        · rw [if_neg d1, b_112_29]
          by_cases d2 : (5 : Int) < I 10 6
          · rw [if_pos d2, b_112_40]
          · rw [if_neg d2, b_112_43]
            by_cases d3 : (6 : Int) < I 4 4
            · rw [if_pos d3, b_112_72]
            · rw [if_neg d3, b_112_55, if_pos (by omega), b_112_72]
      by_cases c3 : x = -1
      · rw [b_112_0, if_pos c3, hgo]
      · rw [b_112_0, if_neg c3, b_112_5, semK_of (s_80 _ _ _ _ _ (by omega)), if_pos (by omega)]
        simp only [mpush]
        rw [b_112_13, if_neg (by omega), hgo]
  · rw [if_neg (fun h => c1 h.1)]
    refine ⟨I, ?_, eT_r I, hK⟩
    rw [b_112_0, if_neg (by omega), b_112_5, semK_of (s_80 _ _ _ _ _ (by omega)), if_neg (by omega)]
    simp only [mpush]
    rw [b_112_13, if_pos rfl, b_112_16]
