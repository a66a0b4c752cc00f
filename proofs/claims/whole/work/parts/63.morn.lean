/-! mornings: the pure side and the class -/
/-- what desk s is worth to i, the others at r -/
def mvl (L : Int → Int → Int → Int) (M : Int) (needs mind voice : Nat → Int) (r : Nat → Int) (i : Nat) (s : Int) (n : Nat) : Int := sm (fun j => if j = i ∨ r j = s then 0 else wv (nd needs i j) (mind i) (pz (L (voice j) s (r j) - M))) n
theorem mvl_s (L : Int → Int → Int → Int) (M : Int) (needs mind voice : Nat → Int) (r : Nat → Int) (i : Nat) (s : Int) (n : Nat) : mvl L M needs mind voice r i s (n + 1) = mvl L M needs mind voice r i s n + (if n = i ∨ r n = s then 0 else wv (nd needs i n) (mind i) (pz (L (voice n) s (r n) - M))) := rfl
/-- the best free desk -/
def mbs (V : (Nat → Int) → Nat → Int → Int) (r : Nat → Int) (i : Nat) : Nat → Int × Int
  | 0 => (-1, 0)
  | s + 1 => if tak i r s = true then mbs V r i s else if (mbs V r i s).1 = -1 ∨ (mbs V r i s).2 < V r i s then ((s : Int), V r i s) else mbs V r i s
theorem mbs_s (V : (Nat → Int) → Nat → Int → Int) (r : Nat → Int) (i s : Nat) : mbs V r i (s + 1) = if tak i r s = true then mbs V r i s else if (mbs V r i s).1 = -1 ∨ (mbs V r i s).2 < V r i s then ((s : Int), V r i s) else mbs V r i s := rfl
theorem mbs_R (V : (Nat → Int) → Nat → Int → Int) (r : Nat → Int) (i : Nat) : ∀ D : Nat, (mbs V r i D).1 = -1 ∨ (0 ≤ (mbs V r i D).1 ∧ (mbs V r i D).1 < D)
  | 0 => Or.inl rfl
  | s + 1 => by
    have ih := mbs_R V r i s
    rw [mbs_s]
    repeat' split
    · omega
    · right
      show (0 : Int) ≤ (s : Int) ∧ (s : Int) < _
      omega
    · omega
def dyR (V : (Nat → Int) → Nat → Int → Int) (D : Nat) (r : Nat → Int) : Nat → Nat → Int
  | 0 => r
  | k + 1 => rs (dyR V D r k) k (mbs V (dyR V D r k) k D).1
theorem dyR_s (V : (Nat → Int) → Nat → Int → Int) (D : Nat) (r : Nat → Int) (k : Nat) : dyR V D r (k + 1) = rs (dyR V D r k) k (mbs V (dyR V D r k) k D).1 := rfl
theorem dyR_o (V : (Nat → Int) → Nat → Int → Int) (D : Nat) (r : Nat → Int) : ∀ k j, k ≤ j → dyR V D r k j = r j
  | 0, _, _ => rfl
  | k + 1, j, h => by rw [dyR_s, rs_ne _ _ (by omega), dyR_o V D r k j (by omega)]
theorem dyR_k (V : (Nat → Int) → Nat → Int → Int) (D : Nat) (r : Nat → Int) (k : Nat) : ∀ m, dyR V D r (k + 1 + m) k = (mbs V (dyR V D r k) k D).1
  | 0 => by show rs (dyR V D r k) k _ k = _; rw [rs_same]
  | m + 1 => by show rs (dyR V D r (k + 1 + m)) (k + 1 + m) _ k = _; rw [rs_ne _ _ (by omega), dyR_k V D r k m]
theorem dyR_se {V : (Nat → Int) → Nat → Int → Int} {D n : Nat} {r : Nat → Int} (hD : D ≤ 10) (h : seR r n) : ∀ k, seR (dyR V D r k) n
  | 0 => h
  | k + 1 => by
    intro j hj
    rw [dyR_s, rs_at]
    split
    · have := mbs_R V (dyR V D r k) k D; omega
    · exact dyR_se hD h k j hj
def moQ (V : (Nat → Int) → Nat → Int → Int) (D n : Nat) (r : Nat → Int) : Nat → Nat → Int
  | 0 => r
  | k + 1 => dyR V D (moQ V D n r k) n
def moE (V : (Nat → Int) → Nat → Int → Int) (D n : Nat) (r : Nat → Int) (k : Nat) : Bool := !(ex (fun i => decide (moQ V D n r (k + 1) i ≠ moQ V D n r k i)) n)
def moN (V : (Nat → Int) → Nat → Int → Int) (D n : Nat) (r : Nat → Int) : Nat := match fnd (moE V D n r) 50 with
  | some u => u + 1
  | none => 0
def moF (V : (Nat → Int) → Nat → Int → Int) (D n : Nat) (r : Nat → Int) : Nat → Int := match fnd (moE V D n r) 50 with
  | some u => moQ V D n r (u + 1)
  | none => moQ V D n r 50
theorem moNs {V : (Nat → Int) → Nat → Int → Int} {D n : Nat} {r : Nat → Int} {u : Nat} (hu : u < 50) (h1 : moE V D n r u = true) (h2 : ∀ j, j < u → moE V D n r j = false) : moN V D n r = u + 1 ∧ moF V D n r = moQ V D n r (u + 1) := by
  unfold moN moF
  rw [fnd_eq h1 h2 50 hu]
  exact ⟨rfl, rfl⟩
theorem moNn {V : (Nat → Int) → Nat → Int → Int} {D n : Nat} {r : Nat → Int} (h2 : ∀ j, j < 50 → moE V D n r j = false) : moN V D n r = 0 ∧ moF V D n r = moQ V D n r 50 := by
  unfold moN moF
  rw [fnd_no h2]
  exact ⟨rfl, rfl⟩
theorem moQ_se {V : (Nat → Int) → Nat → Int → Int} {D n : Nat} {r : Nat → Int} (hD : D ≤ 10) (h : seR r n) : ∀ k, seR (moQ V D n r k) n
  | 0 => h
  | k + 1 => dyR_se hD (moQ_se hD h k) n
/-- rows that agree below n -/
theorem tak_ag {n i : Nat} {r r' : Nat → Int} (h : agr n r r') (hi : i ≤ n) (d : Int) : tak i r d = tak i r' d := by
  rw [Bool.eq_iff_iff]
  unfold tak
  rw [ex_iff, ex_iff]
  constructor
  · rintro ⟨j, hj, hh⟩; exact ⟨j, hj, by rw [← h j (by omega)]; exact hh⟩
  · rintro ⟨j, hj, hh⟩; exact ⟨j, hj, by rw [h j (by omega)]; exact hh⟩
def Vok (n : Nat) (V V' : (Nat → Int) → Nat → Int → Int) : Prop := ∀ r r' i s, agr n r r' → i < n → V r i s = V' r' i s
theorem mbs_ag {n : Nat} {V V' : (Nat → Int) → Nat → Int → Int} (hV : Vok n V V') {r r' : Nat → Int} (h : agr n r r') {i : Nat} (hi : i < n) : ∀ D, mbs V r i D = mbs V' r' i D
  | 0 => rfl
  | s + 1 => by rw [mbs_s, mbs_s, mbs_ag hV h hi s, tak_ag h (by omega), hV r r' i s h hi]
theorem dyR_ag {n D : Nat} {V V' : (Nat → Int) → Nat → Int → Int} (hV : Vok n V V') {r r' : Nat → Int} (h : agr n r r') : ∀ k, k ≤ n → agr n (dyR V D r k) (dyR V' D r' k)
  | 0, _ => h
  | k + 1, hk => by
    have ih := dyR_ag (D := D) hV h k (by omega)
    intro j hj
    rw [dyR_s, dyR_s, mbs_ag hV ih (by omega) D, rs_at, rs_at]
    split
    · rfl
    · exact ih j hj
theorem moQ_ag {n D : Nat} {V V' : (Nat → Int) → Nat → Int → Int} (hV : Vok n V V') {r r' : Nat → Int} (h : agr n r r') : ∀ k, agr n (moQ V D n r k) (moQ V' D n r' k)
  | 0 => h
  | k + 1 => dyR_ag hV (moQ_ag hV h k) n (Nat.le_refl _)
theorem moE_ag {n D : Nat} {V V' : (Nat → Int) → Nat → Int → Int} (hV : Vok n V V') {r r' : Nat → Int} (h : agr n r r') (k : Nat) : moE V D n r k = moE V' D n r' k := by
  unfold moE
  congr 1
  rw [Bool.eq_iff_iff, ex_iff, ex_iff]
  have h1 := moQ_ag (D := D) hV h k
  have h2 := moQ_ag (D := D) hV h (k + 1)
  constructor
  · rintro ⟨j, hj, hh⟩; exact ⟨j, hj, by rw [← h1 j hj, ← h2 j hj]; exact hh⟩
  · rintro ⟨j, hj, hh⟩; exact ⟨j, hj, by rw [h1 j hj, h2 j hj]; exact hh⟩
def mornR (n D : Int) (V : (Nat → Int) → Nat → Int → Int) (r : Nat → Int) (x : Int) : Int :=
  if x = -1 ∨ (0 ≤ x ∧ x < n) then (if moN V D.toNat n.toNat r = 0 then -2 else if x = -1 then (moN V D.toNat n.toNat r : Int) else moF V D.toNat n.toNat r x.toNat) else -2000000000
theorem mornR_ag {n D : Int} {V V' : (Nat → Int) → Nat → Int → Int} (hV : Vok n.toNat V V') {r r' : Nat → Int} (h : agr n.toNat r r') (x : Int) : mornR n D V r x = mornR n D V' r' x := by
  unfold mornR
  by_cases c : x = -1 ∨ (0 ≤ x ∧ x < n)
  · rw [if_pos c, if_pos c]
    unfold moN moF
    rw [fnd_ext (p' := moE V' D.toNat n.toNat r') (moE_ag hV h)]
    cases fnd (moE V' D.toNat n.toNat r') 50 with
    | none =>
      show (if (0 : Nat) = 0 then (-2 : Int) else if x = -1 then ((0 : Nat) : Int) else moQ V D.toNat n.toNat r 50 x.toNat) = (if (0 : Nat) = 0 then (-2 : Int) else if x = -1 then ((0 : Nat) : Int) else moQ V' D.toNat n.toNat r' 50 x.toNat)
      rw [if_pos rfl, if_pos rfl]
    | some u =>
      show (if u + 1 = 0 then (-2 : Int) else if x = -1 then ((u + 1 : Nat) : Int) else moQ V D.toNat n.toNat r (u + 1) x.toNat) = (if u + 1 = 0 then (-2 : Int) else if x = -1 then ((u + 1 : Nat) : Int) else moQ V' D.toNat n.toNat r' (u + 1) x.toNat)
      by_cases c2 : x = -1
      · rw [if_pos c2, if_pos c2]
      · rw [if_neg c2, if_neg c2, moQ_ag hV h (u + 1) x.toNat (by omega)]
  · rw [if_neg c, if_neg c]
theorem mvl_ag {L : Int → Int → Int → Int} {M : Int} {needs mind voice : Nat → Int} {n : Nat} : Vok n (fun r i s => mvl L M needs mind voice r i s n) (fun r i s => mvl L M needs mind voice r i s n) := by
  intro r r' i s h hi
  unfold mvl
  exact sm_ext n (fun j hj => by rw [h j hj])
theorem mvl_R {L : Int → Int → Int → Int} {M : Int} {needs mind voice : Nat → Int} (hL : ∀ v a b, 0 ≤ L v a b ∧ L v a b ≤ 99) (hM : 0 ≤ M) (hm : ∀ k, 0 ≤ mind k ∧ mind k ≤ 9) (r : Nat → Int) (i : Nat) (s : Int) (n : Nat) : 0 - (n : Int) * 891 ≤ mvl L M needs mind voice r i s n ∧ mvl L M needs mind voice r i s n ≤ (n : Int) * 891 := by
  refine sm_R n (fun k _ => ?_)
  have h := hL (voice k) s (r k)
  have h2 := wv_R (b := nd needs i k) (hm i) (pz_R (x := L (voice k) s (r k) - M) (B := 99) (by omega) (by omega))
  split <;> omega
/-- heaps of the class that differ in the mornings' scratch -/
def eD (I I' : Nat → Nat → Int) : Prop := ∀ c, c ≠ 21 → c ≠ 22 → c ≠ 24 → c ≠ 30 → c ≠ 31 → I' c = I c
theorem eD_r (I : Nat → Nat → Int) : eD I I := fun _ _ _ _ _ _ => rfl
theorem eD_t {I I' I'' : Nat → Nat → Int} (h : eD I I') (h' : eD I' I'') : eD I I'' := fun c a1 a2 a3 a4 a5 => (h' c a1 a2 a3 a4 a5).trans (h c a1 a2 a3 a4 a5)
theorem eD_C {I I' : Nat → Nat → Int} (h : eC I I') : eD I I' := fun c a1 a2 a3 _ _ => h c a1 a2 a3
theorem eD_u {I I' : Nat → Nat → Int} (h : eD I I') (c k : Nat) (v : Int) (hc : c = 30 ∨ c = 31) : eD I (up2 I' c k v) := fun c' a1 a2 a3 a4 a5 => by rw [up2_ne _ _ _ (by omega), h c' a1 a2 a3 a4 a5]
theorem eD_sr {I I' : Nat → Nat → Int} (h : eD I I') (c : Nat) (r : Nat → Int) (hc : c = 30 ∨ c = 31) : eD I (sr I' c r) := fun c' a1 a2 a3 a4 a5 => by rw [sr_ne _ _ (by omega), h c' a1 a2 a3 a4 a5]
theorem SC_d {I I' : Nat → Nat → Int} (hS : SC I) (h : eD I I') : SC I' := by
  unfold SC
  rw [h 10 (by omega) (by omega) (by omega) (by omega) (by omega), h 11 (by omega) (by omega) (by omega) (by omega) (by omega), h 12 (by omega) (by omega) (by omega) (by omega) (by omega), h 23 (by omega) (by omega) (by omega) (by omega) (by omega)]
  exact hS
theorem Lc_d {f : Int → Int → Int → Int → Int} {I I' : Nat → Nat → Int} (h : eD I I') : Lc f I' = Lc f I :=
  Lc_x (h 4 (by omega) (by omega) (by omega) (by omega) (by omega)) (h 5 (by omega) (by omega) (by omega) (by omega) (by omega)) (h 6 (by omega) (by omega) (by omega) (by omega) (by omega)) (h 7 (by omega) (by omega) (by omega) (by omega) (by omega)) (h 8 (by omega) (by omega) (by omega) (by omega) (by omega)) (h 9 (by omega) (by omega) (by omega) (by omega) (by omega)) (h 23 (by omega) (by omega) (by omega) (by omega) (by omega))
def VC (f : Int → Int → Int → Int → Int) (I : Nat → Nat → Int) (r : Nat → Int) (i : Nat) (s : Int) : Int := mvl (Lc f I) (I 23 3) (I 13) (I 12) (I 11) r i s (I 10 6).toNat
theorem s_58 (d : Nat) (w : Nat × Bool) (I J : Nat → Nat → Int) (f : Int → Int → Int → Int → Int) (b : Nat → Nat → Int) (i : Nat) (hd : 13 ≤ d) (hS : SC I) (hD : 0 ≤ I 4 4 ∧ I 4 4 ≤ 10) (hx : eD I b) (hk : KC f w b) (hi : i < (I 10 6).toNat) (hs : seR (b 30) (I 10 6).toNat) :
    ∃ b', semC d 58 [vr 28, vi i] (mk w b J) = some (some (vi (mbs (VC f I) (b 30) i (I 4 4).toNat).1), mk w b' J) ∧ eC b b' ∧ KC f w b' := by
  obtain ⟨e, rfl⟩ : ∃ e, d = e + 1 := ⟨d - 1, by omega⟩
  obtain ⟨hn, h11, h12, h23⟩ := id hS
  have e1 : ((I 10 6).toNat : Int) = I 10 6 := Int.toNat_of_nonneg hn.1
  have eD : ((I 4 4).toNat : Int) = I 4 4 := Int.toNat_of_nonneg hD.1
  have hi' := nat_lt hi
  rw [e_58, b_58_0]
  obtain ⟨⟨b1, z5, z6⟩, l1, l2, l3⟩ := lpE (fun (s : Nat) (c : (Nat → Nat → Int) × Option mVal × Option mVal) => Sem e 58 7 [some (vr 28), some (vi (i : Int)), some (vi (mbs (VC f I) (b 30) i s).1), some (vi (mbs (VC f I) (b 30) i s).2), some (vi (s : Int)), c.2.1, c.2.2] [] (mk w c.1 J)) (fun _ c => eC b c.1 ∧ KC f w c.1) (I 4 4).toNat (by
    rintro s ⟨c, z5, z6⟩ hs4 ⟨hc, hkc⟩
    try dsimp only at hc hkc ⊢
    have hs4' := nat_lt hs4
    have hxc := eD_t hx (eD_C hc)
    have g4 := hxc 4 (by omega) (by omega) (by omega) (by omega) (by omega)
    have g30 := hc 30 (by omega) (by omega) (by omega)
    rw [b_58_7, g4, if_pos (by omega), b_58_19, semK_of (s_52 _ _ _ _ _ _ (by omega) (by omega)), g30, mbs_s]
    simp only [mpush]
    rw [b_58_26]
    cases cT : tak i (b 30) s
    · rw [b2_f, if_pos rfl, b_58_32, if_neg (by simp)]
      obtain ⟨c2, m1, m2, m3⟩ := lpE (fun (j : Nat) (c : Nat → Nat → Int) => Sem e 58 38 [some (vr 28), some (vi (i : Int)), some (vi (mbs (VC f I) (b 30) i s).1), some (vi (mbs (VC f I) (b 30) i s).2), some (vi (s : Int)), some (vi (mvl (Lc f I) (I 23 3) (I 13) (I 12) (I 11) (b 30) i s j)), some (vi (j : Int))] [] (mk w c J)) (fun _ c => eC b c ∧ KC f w c) (I 10 6).toNat (by
        rintro j c hj ⟨hc, hkc⟩
        try dsimp only at hc hkc ⊢
        have hj' := nat_lt hj
        have hxc := eD_t hx (eD_C hc)
        have g10 := hxc 10 (by omega) (by omega) (by omega) (by omega) (by omega)
        have g30 := hc 30 (by omega) (by omega) (by omega)
        have hsj := hs j hj
        rw [b_58_38, g10, if_pos (by omega), b_58_50, mvl_s]
        by_cases cj : j = i
        · rw [if_pos (by omega), b_58_92, wr_n1 (by omega), if_pos (Or.inl cj), Int.add_zero]
          exact ⟨c, rfl, hc, hkc⟩
        · rw [if_neg (by omega), b_58_56, if_pos (by omega), nat_i, g30]
          by_cases cs : b 30 j = s
          · rw [if_pos cs, b_58_92, wr_n1 (by omega), if_pos (Or.inr cs), Int.add_zero]
            exact ⟨c, rfl, hc, hkc⟩
          · obtain ⟨c1, k1, k2, k3⟩ := s_73 e w c J f i j s (b 30 j) (by omega) hkc (SC_d hS hxc) (by rw [g10]; exact hi) (by rw [g10]; exact hj) (Or.inr (by omega)) hsj
            rw [Lc_d hxc, hxc 11 (by omega) (by omega) (by omega) (by omega) (by omega), hxc 12 (by omega) (by omega) (by omega) (by omega) (by omega), hxc 13 (by omega) (by omega) (by omega) (by omega) (by omega), hxc 23 (by omega) (by omega) (by omega) (by omega) (by omega)] at k1
            have hR := mvl_R (needs := I 13) (mind := I 12) (voice := I 11) (Lc_R f I) h23.1 h12 (b 30) i s j
            have hL := Lc_R f I (I 11 j) s (b 30 j)
            have hW := wv_R (b := nd (I 13) i j) (h12 i) (pz_R (x := Lc f I (I 11 j) s (b 30 j) - I 23 3) (B := 99) (by omega) (by omega))
            rw [if_neg cs, b_58_68, if_pos (by omega), nat_i, g30, semK_of k1, if_neg (by omega)]
            simp only [mpush]
            rw [b_58_89, b_58_92, wr_n1 (by omega), wr_if (by omega)]
            exact ⟨c1, rfl, eC_t hc k2, k3⟩) c ⟨hc, hkc⟩
      try dsimp only at m1 m2 m3
      rw [e1] at m1
      have hxc2 := eD_t hx (eD_C m2)
      have g10' := hxc2 10 (by omega) (by omega) (by omega) (by omega) (by omega)
      have m1' : Sem e 58 38 [some (vr 28), some (vi (i : Int)), some (vi (mbs (VC f I) (b 30) i s).1), some (vi (mbs (VC f I) (b 30) i s).2), some (vi (s : Int)), some (vi 0), some (vi 0)] [] (mk w c J) = _ := m1
      rw [m1', b_58_38, g10', if_neg (by omega), b_58_98]
      have hv : mvl (Lc f I) (I 23 3) (I 13) (I 12) (I 11) (b 30) i s (I 10 6).toNat = VC f I (b 30) i s := rfl
      rw [hv]
      refine ⟨(c2, some (vi (VC f I (b 30) i s)), some (vi (I 10 6))), ?_, m2, m3⟩
      by_cases q1 : (mbs (VC f I) (b 30) i s).1 = -1
      · rw [if_pos q1, b_58_109, b_58_115, wr_n1 (by omega), if_pos (Or.inl q1)]
      · rw [if_neg q1, b_58_103]
        by_cases q2 : (mbs (VC f I) (b 30) i s).2 < VC f I (b 30) i s
        · rw [if_pos q2, b_58_109, b_58_115, wr_n1 (by omega), if_pos (Or.inr q2)]
        · rw [if_neg q2, b_58_115, wr_n1 (by omega), if_neg (by omega)]
    · rw [b2_t, if_neg (by omega), b_58_29, b_58_115, wr_n1 (by omega), if_pos rfl]
      exact ⟨(c, z5, z6), rfl, hc, hkc⟩) (b, none, none) ⟨eC_r b, hk⟩
  try dsimp only at l1 l2 l3
  rw [eD] at l1
  refine ⟨b1, l1.trans ?_, l2, l3⟩
  rw [b_58_7, (eD_t hx (eD_C l2)) 4 (by omega) (by omega) (by omega) (by omega) (by omega), if_neg (by omega), b_58_121]
/-- one morning -/
theorem s_57 (d : Nat) (w : Nat × Bool) (I J : Nat → Nat → Int) (f : Int → Int → Int → Int → Int) (b : Nat → Nat → Int) (hd : 14 ≤ d) (hS : SC I) (hD : 0 ≤ I 4 4 ∧ I 4 4 ≤ 10) (hx : eD I b) (hk : KC f w b) (hs : seR (b 30) (I 10 6).toNat) :
    ∃ b', semC d 57 [vr 28] (mk w b J) = some (some (vi (b2 (ex (fun i => decide (dyR (VC f I) (I 4 4).toNat (b 30) (I 10 6).toNat i ≠ b 30 i)) (I 10 6).toNat))), mk w b' J) ∧ eD I b' ∧ KC f w b' ∧ b' 30 = dyR (VC f I) (I 4 4).toNat (b 30) (I 10 6).toNat := by
  obtain ⟨e, rfl⟩ : ∃ e, d = e + 1 := ⟨d - 1, by omega⟩
  obtain ⟨hn, h11, h12, h23⟩ := id hS
  have e1 : ((I 10 6).toNat : Int) = I 10 6 := Int.toNat_of_nonneg hn.1
  have g10 := hx 10 (by omega) (by omega) (by omega) (by omega) (by omega)
  have hC : cpy b 30 31 (0 : Int).toNat (0 : Int).toNat (I 10 6).toNat = sr b 31 (cr (b 30) (b 31) 0 0 (I 10 6).toNat) := by
    funext c
    rw [cpy_row]
    unfold sr
    rfl
  have hag : agr (I 10 6).toNat (cr (b 30) (b 31) 0 0 (I 10 6).toNat) (b 30) := by
    intro j hj
    unfold cr
    rw [if_pos (by omega)]
    simp
  rw [e_57, b_57_0, g10, if_pos (by omega), hC]
  generalize cr (b 30) (b 31) 0 0 (I 10 6).toNat = y at hag
  obtain ⟨b1, l1, l2, l3, l4, l5⟩ := lpE (fun (i : Nat) (c : Nat → Nat → Int) => Sem e 57 24 [some (vr 28), some (vi (b2 (ex (fun i => decide (dyR (VC f I) (I 4 4).toNat (b 30) (I 10 6).toNat i ≠ b 30 i)) i))), some (vi (i : Int))] [] (mk w c J)) (fun i c => eD I c ∧ KC f w c ∧ c 30 = dyR (VC f I) (I 4 4).toNat (b 30) i ∧ c 31 = y) (I 10 6).toNat (by
    rintro i c hi ⟨p1, p2, p3, p4⟩
    try dsimp only at p1 p2 p3 p4 ⊢
    have hi' := nat_lt hi
    have c10 := p1 10 (by omega) (by omega) (by omega) (by omega) (by omega)
    obtain ⟨c1, k1, k2, k3⟩ := s_58 e w I J f c i (by omega) hS hD p1 p2 hi (by rw [p3]; exact dyR_se (by omega) hs i)
    rw [p3] at k1
    have hm := mbs_R (VC f I) (dyR (VC f I) (I 4 4).toNat (b 30) i) i (I 4 4).toNat
    have hdk : dyR (VC f I) (I 4 4).toNat (b 30) (I 10 6).toNat i = (mbs (VC f I) (dyR (VC f I) (I 4 4).toNat (b 30) i) i (I 4 4).toNat).1 := by
      have := dyR_k (VC f I) (I 4 4).toNat (b 30) i ((I 10 6).toNat - (i + 1))
      rwa [show i + 1 + ((I 10 6).toNat - (i + 1)) = (I 10 6).toNat by omega] at this
    rw [b_57_24, c10, if_pos (by omega), b_57_35, semK_of k1]
    simp only [mpush]
    rw [b_57_45, if_pos (by omega), if_pos (by omega), if_pos (by omega), nat_i, up2_s, k2 31 (by omega) (by omega) (by omega), p4, hag i hi, ex_s, ← hdk]
    have k30 : c1 30 = dyR (VC f I) (I 4 4).toNat (b 30) i := (k2 30 (by omega) (by omega) (by omega)).trans p3
    refine ⟨up2 c1 30 i (dyR (VC f I) (I 4 4).toNat (b 30) (I 10 6).toNat i), ?_, eD_u (eD_t p1 (eD_C k2)) 30 i _ (Or.inl rfl), KC_u k3 30 i _ (by omega), ?_, ?_⟩
    · by_cases cc : dyR (VC f I) (I 4 4).toNat (b 30) (I 10 6).toNat i = b 30 i
      · rw [if_pos cc, b_57_63, wr_n1 (by omega), decide_eq_false (show ¬ dyR (VC f I) (I 4 4).toNat (b 30) (I 10 6).toNat i ≠ b 30 i from fun h => h cc), Bool.or_false]
      · rw [if_neg cc, b_57_61, b_57_63, wr_n1 (by omega), decide_eq_true cc, Bool.or_true]
        rfl
    · rw [up2_row, if_pos rfl, k30, dyR_s, hdk]
    · rw [up2_ne _ _ _ (by omega), k2 31 (by omega) (by omega) (by omega), p4]) (sr b 31 y) ⟨eD_sr hx 31 y (Or.inr rfl), KC_sr hk 31 y (by omega), sr_ne _ _ (by omega), sr_s _ _ _⟩
  try dsimp only at l1 l2 l3 l4 l5
  rw [e1] at l1
  have hb2 : ∀ b : Bool, b2 b = 0 ∨ b2 b = 1 := fun b => by cases b <;> simp [b2]
  refine ⟨b1, l1.trans ?_, l2, l3, l4⟩
  rw [b_57_24, l2 10 (by omega) (by omega) (by omega) (by omega) (by omega), if_neg (by omega), b_57_69, if_pos (hb2 _)]
theorem s_116 (d : Nat) (w : Nat × Bool) (I J : Nat → Nat → Int) (f : Int → Int → Int → Int → Int) (x : Int) (hd : 16 ≤ d) (hK : KC f w I) (hS : SC I) (hs : seR (I 16) (I 10 6).toNat) :
    ∃ I', semC d 116 [vr 3, vi x] (mk w I J) = some (some (vi (mornR (I 10 6) (I 4 4) (VC f I) (I 16) x)), mk w I' J) ∧ eD I I' ∧ KC f w I' := by
  obtain ⟨e, rfl⟩ : ∃ e, d = e + 2 := ⟨d - 2, by omega⟩
  obtain ⟨hn, h11, h12, h23⟩ := id hS
  have hD := hK.1.1
  have e1 : ((I 10 6).toNat : Int) = I 10 6 := Int.toNat_of_nonneg hn.1
  have hV : Vok (I 10 6).toNat (VC f I) (VC f I) := mvl_ag
  have hC : cpy I 16 30 (0 : Int).toNat (0 : Int).toNat (I 10 6).toNat = sr I 30 (cr (I 16) (I 30) 0 0 (I 10 6).toNat) := by
    funext c
    rw [cpy_row]
    unfold sr
    rfl
  have hag : agr (I 10 6).toNat (cr (I 16) (I 30) 0 0 (I 10 6).toNat) (I 16) := by
    intro j hj
    unfold cr
    rw [if_pos (by omega)]
    simp
  have hs0 : seR (cr (I 16) (I 30) 0 0 (I 10 6).toNat) (I 10 6).toNat := by
    intro j hj
    rw [hag j hj]; exact hs j hj
  rw [← mornR_ag hV hag]
  have k56 : ∃ b', semC (e + 1) 56 [vr 28] (mk w I J) = some (some (vi (if moN (VC f I) (I 4 4).toNat (I 10 6).toNat (cr (I 16) (I 30) 0 0 (I 10 6).toNat) = 0 then -2 else moN (VC f I) (I 4 4).toNat (I 10 6).toNat (cr (I 16) (I 30) 0 0 (I 10 6).toNat))), mk w b' J) ∧ eD I b' ∧ KC f w b' ∧ b' 30 = moF (VC f I) (I 4 4).toNat (I 10 6).toNat (cr (I 16) (I 30) 0 0 (I 10 6).toNat) := by
    rw [e_56, b_56_0, if_pos (by omega), hC]
    generalize cr (I 16) (I 30) 0 0 (I 10 6).toNat = r0 at hag hs0
    refine lpQ (fun (u : Nat) (b : Nat → Nat → Int) => Sem e 56 25 [some (vr 28), some (vi ((u : Int) + 1))] [] (mk w b J)) (fun u b => eD I b ∧ KC f w b ∧ b 30 = moQ (VC f I) (I 4 4).toNat (I 10 6).toNat r0 u ∧ ∀ j, j < u → moE (VC f I) (I 4 4).toNat (I 10 6).toNat r0 j = false) (fun o => ∃ b', o = some (some (vi (if moN (VC f I) (I 4 4).toNat (I 10 6).toNat r0 = 0 then -2 else moN (VC f I) (I 4 4).toNat (I 10 6).toNat r0)), mk w b' J) ∧ eD I b' ∧ KC f w b' ∧ b' 30 = moF (VC f I) (I 4 4).toNat (I 10 6).toNat r0) 50 ?_ ?_ (sr I 30 r0) ⟨eD_sr (eD_r I) 30 r0 (Or.inl rfl), KC_sr hK 30 _ (by omega), sr_s _ _ _, fun j hj => absurd hj (by omega)⟩
    · rintro u b hu ⟨p1, p2, p3, p4⟩
      try dsimp only at p1 p2 p3 p4 ⊢
      obtain ⟨b', q1, q2, q3, q4⟩ := s_57 e w I J f b (by omega) hS hD p1 p2 (by rw [p3]; exact moQ_se (by omega) hs0 u)
      rw [p3] at q1 q4
      have hE : ex (fun i => decide (dyR (VC f I) (I 4 4).toNat (moQ (VC f I) (I 4 4).toNat (I 10 6).toNat r0 u) (I 10 6).toNat i ≠ moQ (VC f I) (I 4 4).toNat (I 10 6).toNat r0 u i)) (I 10 6).toNat = !moE (VC f I) (I 4 4).toNat (I 10 6).toNat r0 u := by
        unfold moE
        rw [Bool.not_not]
        rfl
      rw [hE] at q1
      rw [b_56_25, if_neg (by omega), b_56_31, semK_of q1]
      simp only [mpush]
      rw [b_56_35]
      cases c : moE (VC f I) (I 4 4).toNat (I 10 6).toNat r0 u
      · left
        rw [Bool.not_false, b2_t, if_neg (by omega), b_56_40, wr_if (by omega)]
        refine ⟨b', rfl, q2, q3, q4, ?_⟩
        intro j hj
        by_cases cj : j = u
        · subst cj; exact c
        · exact p4 j (by omega)
      · right
        obtain ⟨v1, v2⟩ := moNs hu c p4
        rw [Bool.not_true, b2_f, if_pos rfl, b_56_38, v1, v2, if_neg (by omega)]
        exact ⟨b', rfl, q2, q3, q4⟩
    · rintro b ⟨p1, p2, p3, p4⟩
      try dsimp only at p1 p2 p3 p4 ⊢
      obtain ⟨v1, v2⟩ := moNn p4
      rw [b_56_25, if_pos (by omega), b_56_46, v1, v2, if_pos rfl]
      exact ⟨b, rfl, p1, p2, p3⟩
  obtain ⟨b, q1, q2, q3, q4⟩ := k56
  generalize cr (I 16) (I 30) 0 0 (I 10 6).toNat = r0 at q1 q4
  rw [e_116]
  unfold mornR
  by_cases c1 : x = -1 ∨ (0 ≤ x ∧ x < I 10 6)
  · rw [if_pos c1]
    refine ⟨b, ?_, q2, q3⟩
    have hgo : Sem (e + 1) 116 19 [some (vr 3), some (vi x), none] [] (mk w I J) = some (some (vi (if moN (VC f I) (I 4 4).toNat (I 10 6).toNat r0 = 0 then -2 else if x = -1 then (moN (VC f I) (I 4 4).toNat (I 10 6).toNat r0 : Int) else moF (VC f I) (I 4 4).toNat (I 10 6).toNat r0 x.toNat)), mk w b J) := by
      rw [b_116_19, semK_of q1]
      simp only [mpush]
      rw [b_116_26]
      by_cases c3 : moN (VC f I) (I 4 4).toNat (I 10 6).toNat r0 = 0
      · rw [if_pos c3, if_pos rfl, if_pos c3, b_116_38]
      · rw [if_neg c3, if_neg (by omega), if_neg c3, b_116_33]
        by_cases c4 : x = -1
        · rw [if_pos c4, if_pos c4, b_116_38]
        · rw [if_neg c4, if_neg c4, b_116_40, if_pos (by omega), q4]
    rw [b_116_0]
    by_cases c4 : x = -1
    · rw [if_pos c4, hgo]
    · rw [if_neg c4, b_116_5, semK_of (s_80 _ _ _ _ _ (by omega)), if_pos (by omega)]
      simp only [mpush]
      rw [b_116_13, if_neg (by omega), hgo]
  · rw [if_neg c1]
    refine ⟨I, ?_, eD_r I, hK⟩
    rw [b_116_0, if_neg (by omega), b_116_5, semK_of (s_80 _ _ _ _ _ (by omega)), if_neg (by omega)]
    simp only [mpush]
    rw [b_116_13, if_pos rfl, b_116_16]
