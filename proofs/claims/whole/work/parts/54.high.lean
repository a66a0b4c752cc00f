/-! higher -/
theorem CO_b {f : Int → Int → Int → Int → Int} {I I' : Nat → Nat → Int} (h : CO f I) (h24 : I' 24 = I 24) (hs : st I < st I') : CO f I' := by
  intro k hk
  obtain ⟨c1, c2, c3⟩ := h k hk
  rw [h24]
  exact ⟨c1, by omega, fun e => by omega⟩
theorem KC_b {f : Int → Int → Int → Int → Int} {w : Nat × Bool} {I I' : Nat → Nat → Int} (h : KC f w I) (hg : GC I') (h5 : I' 17 5 = I 17 5) (hw : I' (wst w) = I (wst w)) (h24 : I' 24 = I 24) (hs : st I < st I') : KC f w I' := by
  obtain ⟨g, l, c⟩ := h
  refine ⟨hg, ?_, CO_b c h24 hs⟩
  unfold lawC at l ⊢
  rw [h5, hw]; exact l
/-- the same heap of the class but for the count of changes of the floor -/
def eH (m : Int) (I I' : Nat → Nat → Int) : Prop := (∀ c, c ≠ 4 → c ≠ 21 → c ≠ 22 → c ≠ 24 → I' c = I c) ∧ (∀ k, k ≠ 9 → I' 4 k = I 4 k) ∧ I 4 9 ≤ I' 4 9 ∧ I' 4 9 ≤ I 4 9 + m
theorem eH_r {m : Int} (hm : 0 ≤ m) (I : Nat → Nat → Int) : eH m I I := ⟨fun _ _ _ _ _ => rfl, fun _ _ => rfl, by omega, by omega⟩
theorem eH_t {m m' : Int} {I I' I'' : Nat → Nat → Int} (h : eH m I I') (h' : eH m' I' I'') : eH (m + m') I I'' := by
  obtain ⟨a1, a2, a3, a4⟩ := h
  obtain ⟨b1, b2, b3, b4⟩ := h'
  exact ⟨fun c x y z v => (b1 c x y z v).trans (a1 c x y z v), fun k hk => (b2 k hk).trans (a2 k hk), by omega, by omega⟩
theorem eH_C {I I' : Nat → Nat → Int} (h : eC I I') : eH 0 I I' := by
  have h4 := h 4 (by omega) (by omega) (by omega)
  exact ⟨fun c _ y z v => h c y z v, fun k _ => by rw [h4], by rw [h4]; omega, by rw [h4]; omega⟩
theorem eH_m {m m' : Int} {I I' : Nat → Nat → Int} (h : eH m I I') (hm : m ≤ m') : eH m' I I' := ⟨h.1, h.2.1, h.2.2.1, by have := h.2.2.2; omega⟩
def hr (h : Nat → Int) (s : Nat) : Nat → Int := rs h s (if h s < 9 then h s + 1 else h s)
theorem hr_R {h : Nat → Int} (hh : ∀ k, 0 ≤ h k ∧ h k ≤ 9) (s : Nat) : ∀ k, 0 ≤ hr h s k ∧ hr h s k ≤ 9 := by
  intro k
  have h1 := hh k
  have h2 := hh s
  unfold hr
  rw [rs_at]
  repeat' split
  all_goals omega
theorem rs_id (h : Nat → Int) (s : Nat) : rs h s (h s) = h := by funext k; rw [rs_at]; split <;> simp_all
theorem rs_rs (h : Nat → Int) (s : Nat) (a b : Int) : rs (rs h s a) s b = rs h s b := by funext k; rw [rs_at, rs_at, rs_at]; split <;> rfl
theorem pos9 {h : Nat → Int} (hh : ∀ k, 0 ≤ h k ∧ h k ≤ 9) : pos h := fun k => by have := hh k; omega
def Nc (f : Int → Int → Int → Int → Int) (I : Nat → Nat → Int) (s : Nat) : Int := nt (LV f (I 5) (I 6) (I 7) (I 8) (hr (I 9) s) (I 4 8).toNat (I 23 4)) (I 23 3) (I 13) (I 12) (I 11) (I 16) (I 10 6).toNat
theorem s_78 (d : Nat) (w : Nat × Bool) (I J : Nat → Nat → Int) (f : Int → Int → Int → Int → Int) (s : Nat) (hd : 14 ≤ d) (hK : KC f w I) (hS : SC I) (hs : seR (I 16) (I 10 6).toNat) (h9 : ∀ k, 0 ≤ I 9 k ∧ I 9 k ≤ 9) (hs10 : s < 10) (hc : I 4 9 ≤ 900000) :
    ∃ I', semC d 78 [vr 23, vi s] (mk w I J) = some (some (vi (Nc f I s)), mk w I' J) ∧ eH 2 I I' ∧ KC f w I' := by
  obtain ⟨e, rfl⟩ : ∃ e, d = e + 1 := ⟨d - 1, by omega⟩
  obtain ⟨g4, g8, g5, g6, g9, g23, gs1, gs2, gs3⟩ := hK.1
  have hw := wst_or w
  have q9 := h9 s
  rw [e_78, b_78_0, if_pos (by omega), nat_i]
  by_cases c : I 9 s < 9
  · rw [if_pos c, b_78_28, wr_if (by omega), semK_of (s_26 _ _ _ _ _ _ (by omega) (by omega) gs1), nat_i]
    simp only [mpush]
    rw [b_78_39]
    have hhr : rs (I 9) s (I 9 s + 1) = hr (I 9) s := by unfold hr; rw [if_pos c]
    have A9 : up2 (up2 I 9 s (I 9 s + 1)) 4 9 (I 4 9 + 1) 9 = hr (I 9) s := by rw [up2_ne _ _ _ (by omega), up2_row, if_pos rfl, hhr]
    have A4 : ∀ k, k ≠ 9 → up2 (up2 I 9 s (I 9 s + 1)) 4 9 (I 4 9 + 1) 4 k = I 4 k := fun k hk => by rw [up2_sne _ _ _ hk, up2_ne _ _ _ (by omega)]
    have A49 : up2 (up2 I 9 s (I 9 s + 1)) 4 9 (I 4 9 + 1) 4 9 = I 4 9 + 1 := up2_s _ _ _ _
    have Ao : ∀ c, c ≠ 4 → c ≠ 9 → up2 (up2 I 9 s (I 9 s + 1)) 4 9 (I 4 9 + 1) c = I c := fun c h1 h2 => by rw [up2_ne _ _ _ h1, up2_ne _ _ _ h2]
    generalize up2 (up2 I 9 s (I 9 s + 1)) 4 9 (I 4 9 + 1) = I1 at A9 A4 A49 Ao
    have hK1 : KC f w I1 := by
      refine KC_b hK ?_ (by rw [Ao 17 (by omega) (by omega)]) (Ao _ (by omega) (by omega)) (Ao 24 (by omega) (by omega)) ?_
      · unfold GC
        rw [A4 4 (by omega), A4 8 (by omega), A9, A49, Ao 5 (by omega) (by omega), Ao 6 (by omega) (by omega), Ao 17 (by omega) (by omega), Ao 23 (by omega) (by omega)]
        exact ⟨g4, g8, g5, g6, pos9 (hr_R h9 s), g23, by omega, gs2, gs3⟩
      · unfold st
        rw [A49, Ao 17 (by omega) (by omega), Ao 23 (by omega) (by omega)]
        omega
    have hS1 : SC I1 := by
      unfold SC
      rw [Ao 10 (by omega) (by omega), Ao 11 (by omega) (by omega), Ao 12 (by omega) (by omega), Ao 23 (by omega) (by omega)]
      exact hS
    obtain ⟨I2, k1, k2, k3⟩ := s_74 e w I1 J f 16 (by omega) hK1 hS1 (Or.inl rfl) (by rw [Ao 16 (by omega) (by omega), Ao 10 (by omega) (by omega)]; exact hs)
    have hN : nt (Lc f I1) (I1 23 3) (I1 13) (I1 12) (I1 11) (I1 16) (I1 10 6).toNat = Nc f I s := by
      unfold Lc Nc
      rw [A4 8 (by omega), A9, Ao 5 (by omega) (by omega), Ao 6 (by omega) (by omega), Ao 7 (by omega) (by omega), Ao 8 (by omega) (by omega), Ao 23 (by omega) (by omega), Ao 13 (by omega) (by omega), Ao 12 (by omega) (by omega), Ao 11 (by omega) (by omega), Ao 16 (by omega) (by omega), Ao 10 (by omega) (by omega)]
    rw [hN] at k1
    have B4 := k2 4 (by omega) (by omega) (by omega)
    have B9 := k2 9 (by omega) (by omega) (by omega)
    rw [semK_of k1]
    simp only [mpush]
    rw [b_78_50, semK_of (s_26 _ _ _ _ _ _ (by omega) (by omega) (by rw [B4, A49]; omega)), nat_i]
    simp only [mpush]
    rw [b_78_60]
    have C9 : up2 (up2 I2 9 s (I 9 s)) 4 9 (I2 4 9 + 1) 9 = I 9 := by rw [up2_ne _ _ _ (by omega), up2_row, if_pos rfl, B9, A9]; unfold hr; rw [rs_rs, rs_id]
    have C4 : ∀ k, k ≠ 9 → up2 (up2 I2 9 s (I 9 s)) 4 9 (I2 4 9 + 1) 4 k = I 4 k := fun k hk => by rw [up2_sne _ _ _ hk, up2_ne _ _ _ (by omega), B4, A4 k hk]
    have C49 : up2 (up2 I2 9 s (I 9 s)) 4 9 (I2 4 9 + 1) 4 9 = I 4 9 + 2 := by rw [up2_s, B4, A49]; omega
    have Co : ∀ c, c ≠ 4 → c ≠ 9 → up2 (up2 I2 9 s (I 9 s)) 4 9 (I2 4 9 + 1) c = I2 c := fun c h1 h2 => by rw [up2_ne _ _ _ h1, up2_ne _ _ _ h2]
    refine ⟨_, rfl, ?_, ?_⟩
    · refine ⟨fun c h1 h2 h3 h4 => ?_, C4, by omega, by omega⟩
      by_cases q : c = 9
      · subst q; exact C9
      · rw [Co c h1 q, k2 c h2 h3 h4, Ao c h1 q]
    · have E : ∀ c, c ≠ 4 → c ≠ 9 → c ≠ 21 → c ≠ 22 → c ≠ 24 → up2 (up2 I2 9 s (I 9 s)) 4 9 (I2 4 9 + 1) c = I c := fun c h1 h2 h3 h4 h5 => by rw [Co c h1 h2, k2 c h3 h4 h5, Ao c h1 h2]
      refine KC_b k3 ?_ (by rw [Co 17 (by omega) (by omega)]) (Co _ (by omega) (by omega)) (Co 24 (by omega) (by omega)) ?_
      · unfold GC
        rw [C4 4 (by omega), C4 8 (by omega), C9, C49, E 5 (by omega) (by omega) (by omega) (by omega) (by omega), E 6 (by omega) (by omega) (by omega) (by omega) (by omega), E 17 (by omega) (by omega) (by omega) (by omega) (by omega), E 23 (by omega) (by omega) (by omega) (by omega) (by omega)]
        exact ⟨g4, g8, g5, g6, pos9 h9, g23, by omega, gs2, gs3⟩
      · unfold st
        rw [C49, Co 17 (by omega) (by omega), Co 23 (by omega) (by omega), B4, A49]
        omega
  · have hhr : hr (I 9) s = I 9 := by unfold hr; rw [if_neg c, rs_id]
    obtain ⟨I2, k1, k2, k3⟩ := s_74 e w I J f 16 (by omega) hK hS (Or.inl rfl) hs
    rw [if_neg c, b_78_16, semK_of k1]
    simp only [mpush]
    rw [b_78_27]
    refine ⟨I2, ?_, eH_m (eH_C k2) (by omega), k3⟩
    unfold Nc
    rw [hhr]
    rfl
def bst (N : Nat → Int) : Nat → Int × Int
  | 0 => (0, N 0)
  | k + 1 => if (bst N k).2 < N (k + 1) then ((k : Int) + 1, N (k + 1)) else bst N k
theorem bst_s (N : Nat → Int) (k : Nat) : bst N (k + 1) = if (bst N k).2 < N (k + 1) then ((k : Int) + 1, N (k + 1)) else bst N k := rfl
theorem bst_R (N : Nat → Int) : ∀ k, 0 ≤ (bst N k).1
  | 0 => Int.le_refl _
  | k + 1 => by
    have := bst_R N k
    rw [bst_s]
    split
    · show (0 : Int) ≤ (k : Int) + 1
      omega
    · exact this
def highR (ns : Int) (N : Nat → Int) (b x : Int) : Int := if 0 ≤ x ∧ x ≤ 1 then (if ns = 0 then (if x = 0 then -2 else b) else (if x = 0 then (bst N (ns.toNat - 1)).1 else (bst N (ns.toNat - 1)).2)) else -2000000000
theorem Nc_e {m : Int} {f : Int → Int → Int → Int → Int} {I I' : Nat → Nat → Int} (h : eH m I I') (s : Nat) : Nc f I' s = Nc f I s := by
  unfold Nc
  rw [h.2.1 8 (by omega), h.1 5 (by omega) (by omega) (by omega) (by omega), h.1 6 (by omega) (by omega) (by omega) (by omega), h.1 7 (by omega) (by omega) (by omega) (by omega), h.1 8 (by omega) (by omega) (by omega) (by omega), h.1 9 (by omega) (by omega) (by omega) (by omega), h.1 10 (by omega) (by omega) (by omega) (by omega), h.1 11 (by omega) (by omega) (by omega) (by omega), h.1 12 (by omega) (by omega) (by omega) (by omega), h.1 13 (by omega) (by omega) (by omega) (by omega), h.1 16 (by omega) (by omega) (by omega) (by omega), h.1 23 (by omega) (by omega) (by omega) (by omega)]
theorem SC_h {m : Int} {I I' : Nat → Nat → Int} (hS : SC I) (h : eH m I I') : SC I' := by
  unfold SC
  rw [h.1 10 (by omega) (by omega) (by omega) (by omega), h.1 11 (by omega) (by omega) (by omega) (by omega), h.1 12 (by omega) (by omega) (by omega) (by omega), h.1 23 (by omega) (by omega) (by omega) (by omega)]
  exact hS
theorem s_109 (d : Nat) (w : Nat × Bool) (I J : Nat → Nat → Int) (f : Int → Int → Int → Int → Int) (x : Int) (hd : 15 ≤ d) (hK : KC f w I) (hS : SC I) (hs : seR (I 16) (I 10 6).toNat) (h9 : ∀ k, 0 ≤ I 9 k ∧ I 9 k ≤ 9) (hc : I 4 9 ≤ 800000) :
    ∃ I', semC d 109 [vr 3, vi x] (mk w I J) = some (some (vi (highR (I 4 8) (Nc f I) (nt (Lc f I) (I 23 3) (I 13) (I 12) (I 11) (I 16) (I 10 6).toNat) x)), mk w I' J) ∧ eH 20 I I' ∧ KC f w I' := by
  obtain ⟨e, rfl⟩ : ∃ e, d = e + 1 := ⟨d - 1, by omega⟩
  obtain ⟨g4, g8, g5, g6, g9, g23, gs1, gs2, gs3⟩ := hK.1
  rw [e_109]
  unfold highR
  by_cases c1 : 0 ≤ x ∧ x ≤ 1
  · rw [if_pos c1, b_109_0, semK_of (s_133 _ _ _ _ _ _ _ (by omega)), if_pos c1]
    simp only [mpush]
    rw [b_109_6, if_neg (by omega), b_109_12]
    by_cases c2 : I 4 8 = 0
    · rw [if_pos c2, if_pos c2, b_109_22]
      by_cases c3 : x = 0
      · rw [if_pos c3, if_pos c3, b_109_26, b_109_45]
        exact ⟨I, rfl, eH_r (by omega) I, hK⟩
      · obtain ⟨I2, k1, k2, k3⟩ := s_74 e w I J f 16 (by omega) hK hS (Or.inl rfl) hs
        rw [if_neg c3, if_neg c3, b_109_31, semK_of k1]
        simp only [mpush]
        rw [b_109_45]
        exact ⟨I2, rfl, eH_m (eH_C k2) (by omega), k3⟩
    · rw [if_neg c2, if_neg c2, b_109_46]
      obtain ⟨I2, k1, k2, k3⟩ := s_78 e w I J f 0 (by omega) hK hS hs h9 (by omega) (by omega)
      rw [show ((0 : Nat) : Int) = 0 from rfl] at k1
      rw [semK_of k1]
      simp only [mpush]
      rw [b_109_56]
      obtain ⟨⟨I3, z⟩, l1, l2, l3⟩ := lpE (fun (u : Nat) (b : (Nat → Nat → Int) × Option mVal) => Sem e 109 60 [some (vr 3), some (vi x), some (vi (bst (Nc f I) u).1), some (vi (bst (Nc f I) u).2), some (vi ((u : Int) + 1)), b.2] [] (mk w b.1 J)) (fun u b => eH (2 * (u : Int) + 2) I b.1 ∧ KC f w b.1) ((I 4 8).toNat - 1) (by
        rintro u ⟨b, z⟩ hu ⟨he, hk⟩
        try dsimp only at he hk ⊢
        have A := fun c h1 h2 h3 h4 => he.1 c h1 h2 h3 h4
        have hu' : (u : Int) + 1 < I 4 8 := by omega
        obtain ⟨I4, m1, m2, m3⟩ := s_78 e w b J f (u + 1) (by omega) hk (SC_h hS he) (by rw [A 16 (by omega) (by omega) (by omega) (by omega), A 10 (by omega) (by omega) (by omega) (by omega)]; exact hs) (by rw [A 9 (by omega) (by omega) (by omega) (by omega)]; exact h9) (by omega) (by have := he.2.2.2; omega)
        rw [Nc_e he] at m1
        rw [b_109_60, he.2.1 8 (by omega), if_pos hu', b_109_72]
        rw [show ((u + 1 : Nat) : Int) = (u : Int) + 1 from rfl] at m1
        rw [semK_of m1]
        simp only [mpush]
        rw [b_109_81]
        have hE : eH (2 * ((u + 1 : Nat) : Int) + 2) I I4 := eH_m (eH_t he m2) (by omega)
        by_cases c3 : (bst (Nc f I) u).2 < Nc f I (u + 1)
        · rw [if_pos c3, b_109_89, b_109_95, wr_if (by omega)]
          refine ⟨(I4, some (vi (Nc f I (u + 1)))), ?_, hE, m3⟩
          rw [bst_s, if_pos c3]
          rfl
        · rw [if_neg c3, b_109_95, wr_if (by omega)]
          refine ⟨(I4, some (vi (Nc f I (u + 1)))), ?_, hE, m3⟩
          rw [bst_s, if_neg c3]
          rfl) (I2, none) ⟨k2, k3⟩
      try dsimp only at l1 l2 l3
      have e1 : (((I 4 8).toNat - 1 : Nat) : Int) + 1 = I 4 8 := by omega
      rw [e1] at l1
      refine ⟨I3, l1.trans ?_, eH_m l2 (by omega), l3⟩
      rw [b_109_60, l2.2.1 8 (by omega), if_neg (by omega), b_109_101]
      by_cases c3 : x = 0
      · rw [if_pos c3, if_pos c3, b_109_105, b_109_110]
      · rw [if_neg c3, if_neg c3, b_109_109, b_109_110]
  · refine ⟨I, ?_, eH_r (by omega) I, hK⟩
    simp (disch := omega) only [b_109_0, b_109_6, b_109_9, s_133 _ _ _ _ _ _ _ _, semK, Option.bind_some, mpush, wr_if, wr_tdiv, if_pos, if_neg, ↓reduceIte, b2_t, b2_f, Bool.false_eq_true, up2_ne, up2_sne, up2_s, true_or, or_true, true_and, and_true, false_and, and_false, false_or, or_false]
def Nm (f : Int → Int → Int → Int → Int) (I : Nat → Nat → Int) (s : Nat) : Int := nt (LV f (I 59) (I 60) (I 61) (I 62) (hr (I 63) s) (I 58 6).toNat (I 58 18)) (I 58 17) (I 66) (I 65) (I 64) (I 69) (I 58 10).toNat
theorem s_192 (d : Nat) (w : Nat × Bool) (I J : Nat → Nat → Int) (f : Int → Int → Int → Int → Int) (x : Int) (hd : 15 ≤ d) (hK : KM f w I) (hS : SM I) (h9 : ∀ k, 0 ≤ I 63 k ∧ I 63 k ≤ 9) :
    ∃ I', semC d 192 [vr 58, vi x] (mk w I J) = some (some (vi (highR (I 58 6) (Nm f I) (nt (Lm f I) (I 58 17) (I 66) (I 65) (I 64) (I 69) (I 58 10).toNat) x)), mk w I' J) ∧ eM I I' := by
  obtain ⟨e, rfl⟩ : ∃ e, d = e + 1 := ⟨d - 1, by omega⟩
  obtain ⟨hn, h64, h65, hM, hs, hds⟩ := id hS
  obtain ⟨g3, g6, g59, g60, g63, g18⟩ := hK.1
  have e1 : ((I 58 6).toNat : Int) = I 58 6 := Int.toNat_of_nonneg g6.1
  rw [e_192]
  unfold highR
  by_cases c1 : 0 ≤ x ∧ x ≤ 1
  · obtain ⟨I2, k1, k2⟩ := s_188 e w I J f (by omega) hK hS
    rw [if_pos c1, b_192_0, semK_of (s_135 _ _ _ _ _ _ _ (by omega)), if_pos c1]
    simp only [mpush]
    rw [b_192_6, if_neg (by omega), b_192_12, semK_of k1]
    simp only [mpush]
    rw [b_192_19]
    generalize nt (Lm f I) (I 58 17) (I 66) (I 65) (I 64) (I 69) (I 58 10).toNat = base
    obtain ⟨⟨I3, y2, y3, z5, z6⟩, l1, l2, l3⟩ := lpE (fun (u : Nat) (b : (Nat → Nat → Int) × Int × Int × Option mVal × Option mVal) => Sem e 192 23 [some (vr 58), some (vi x), some (vi b.2.1), some (vi b.2.2.1), some (vi (u : Int)), b.2.2.2.1, b.2.2.2.2] [] (mk w b.1 J)) (fun u b => eM I b.1 ∧ ((u = 0 ∧ b.2.1 = -2 ∧ b.2.2.1 = base) ∨ ∃ k, u = k + 1 ∧ (b.2.1, b.2.2.1) = bst (Nm f I) k)) (I 58 6).toNat (by
      rintro u ⟨b, y2, y3, z5, z6⟩ hu ⟨he, hP⟩
      try dsimp only at he hP ⊢
      have hu' := nat_lt hu
      have q9 := h9 u
      have b58 := he 58 (by omega) (by omega)
      have b63 := he 63 (by omega) (by omega)
      have hro : ∀ (v : Int) c, c ≠ 63 → c ≠ 80 → c ≠ 81 → up2 b 63 u v c = I c := fun v c h1 h2 h3 => by rw [up2_ne _ _ _ h1, he c h2 h3]
      have hrow : ∀ v : Int, up2 b 63 u v 63 = rs (I 63) u v := fun v => by rw [up2_row, if_pos rfl, b63]
      have hcall : ∀ v : Int, rs (I 63) u v = hr (I 63) u → ∃ I4, semC e 188 [vr 58] (mk w (up2 b 63 u v) J) = some (some (vi (Nm f I u)), mk w I4 J) ∧ eM (up2 b 63 u v) I4 := by
        intro v hv
        have h58 := hro v 58 (by omega) (by omega) (by omega)
        obtain ⟨I4, m1, m2⟩ := s_188 e w (up2 b 63 u v) J f (by omega) (KM_x hK (by rw [h58]) (by rw [h58]) (by rw [h58]) (by rw [h58]) (hro v 59 (by omega) (by omega) (by omega)) (hro v 60 (by omega) (by omega) (by omega)) (by rw [hrow, hv]; exact pos9 (hr_R h9 u)) (fun c a1 a2 => hro v c (by omega) (by omega) (by omega))) (by
          unfold SM
          rw [h58, hro v 64 (by omega) (by omega) (by omega), hro v 65 (by omega) (by omega) (by omega), hro v 69 (by omega) (by omega) (by omega)]
          exact hS)
        refine ⟨I4, ?_, m2⟩
        rw [m1]
        unfold Lm Nm
        rw [h58, hrow, hv, hro v 59 (by omega) (by omega) (by omega), hro v 60 (by omega) (by omega) (by omega), hro v 61 (by omega) (by omega) (by omega), hro v 62 (by omega) (by omega) (by omega), hro v 64 (by omega) (by omega) (by omega), hro v 65 (by omega) (by omega) (by omega), hro v 66 (by omega) (by omega) (by omega), hro v 69 (by omega) (by omega) (by omega)]
      obtain ⟨v, I4, hst, m2⟩ : ∃ (v : Int) (I4 : Nat → Nat → Int), Sem e 192 32 [some (vr 58), some (vi x), some (vi y2), some (vi y3), some (vi (u : Int)), z5, z6] [] (mk w b J) = Sem e 192 68 [some (vr 58), some (vi x), some (vi y2), some (vi y3), some (vi (u : Int)), some (vi (I 63 u)), z6] [vi (Nm f I u)] (mk w I4 J) ∧ eM (up2 b 63 u v) I4 := by
        rw [b_192_32, if_pos (by omega), nat_i, b63]
        by_cases c : I 63 u < 9
        · obtain ⟨I4, m1, m2⟩ := hcall (I 63 u + 1) (by unfold hr; rw [if_pos c])
          refine ⟨_, I4, ?_, m2⟩
          rw [if_pos c, b_192_54, b_192_63, if_pos (by omega), nat_i, wr_if (by omega), semK_of m1]
          rfl
        · obtain ⟨I4, m1, m2⟩ := hcall 9 (by unfold hr; rw [if_neg c, show I 63 u = 9 by omega])
          refine ⟨_, I4, ?_, m2⟩
          rw [if_neg c, b_192_61, b_192_63, if_pos (by omega), nat_i, semK_of m1]
          rfl
      have hE : eM I (up2 I4 63 u (I 63 u)) := by
        intro c h1 h2
        by_cases q : c = 63
        · subst q
          rw [up2_row, if_pos rfl, m2 63 (by omega) (by omega), hrow, rs_rs, rs_id]
        · rw [up2_ne _ _ _ q, m2 c h1 h2, hro v c q h1 h2]
      rw [b_192_23, b58, if_pos (by omega), hst, b_192_68, if_pos (by omega), nat_i]
      rcases hP with ⟨p1, p2, p3⟩ | ⟨k, p1, p2⟩
      · rw [if_pos (by omega), b_192_92, b_192_98, wr_n1 (by omega)]
        refine ⟨(_, (u : Int), Nm f I u, some (vi (I 63 u)), some (vi (Nm f I u))), rfl, hE, Or.inr ⟨0, by omega, ?_⟩⟩
        subst p1; rfl
      · have hb := bst_R (Nm f I) k
        have p3 : y2 = (bst (Nm f I) k).1 := by rw [← p2]
        have p4 : y3 = (bst (Nm f I) k).2 := by rw [← p2]
        rw [if_neg (by omega), b_192_83]
        by_cases c : y3 < Nm f I u
        · rw [if_pos c, b_192_92, b_192_98, wr_n1 (by omega)]
          refine ⟨(_, (u : Int), Nm f I u, some (vi (I 63 u)), some (vi (Nm f I u))), rfl, hE, Or.inr ⟨u, rfl, ?_⟩⟩
          subst p1
          rw [bst_s, if_pos (by rw [← p4]; exact c)]
          rfl
        · rw [if_neg c, b_192_89, b_192_98, wr_n1 (by omega)]
          refine ⟨(_, y2, y3, some (vi (I 63 u)), some (vi (Nm f I u))), rfl, hE, Or.inr ⟨u, rfl, ?_⟩⟩
          subst p1
          rw [bst_s, if_neg (by rw [← p4]; exact c), ← p2]) (I2, -2, base, none, none) ⟨k2, Or.inl ⟨rfl, rfl, rfl⟩⟩
    try dsimp only at l1 l2 l3
    rw [e1] at l1
    refine ⟨I3, l1.trans ?_, l2⟩
    rw [b_192_23, l2 58 (by omega) (by omega), if_neg (by omega), b_192_104]
    rcases l3 with ⟨p1, p2, p3⟩ | ⟨k, p1, p2⟩
    · rw [if_pos (show I 58 6 = 0 by omega)]
      by_cases c3 : x = 0
      · rw [if_pos c3, if_pos c3, b_192_108, b_192_113, p2]
      · rw [if_neg c3, if_neg c3, b_192_112, b_192_113, p3]
    · have p3 : y2 = (bst (Nm f I) k).1 := by rw [← p2]
      have p4 : y3 = (bst (Nm f I) k).2 := by rw [← p2]
      rw [if_neg (show ¬ I 58 6 = 0 by omega), show (I 58 6).toNat - 1 = k by omega]
      by_cases c3 : x = 0
      · rw [if_pos c3, if_pos c3, b_192_108, b_192_113, p3]
      · rw [if_neg c3, if_neg c3, b_192_112, b_192_113, p4]
  · refine ⟨I, ?_, eM_r I⟩
    simp (disch := omega) only [b_192_0, b_192_6, b_192_9, s_135 _ _ _ _ _ _ _ _, semK, Option.bind_some, mpush, wr_if, wr_tdiv, if_pos, if_neg, ↓reduceIte, b2_t, b2_f, Bool.false_eq_true, up2_ne, up2_sne, up2_s, true_or, or_true, true_and, and_true, false_and, and_false, false_or, or_false]
