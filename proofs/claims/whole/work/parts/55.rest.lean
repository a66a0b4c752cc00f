/-! rest and hush: the class -/
theorem fnd_no {p : Nat → Bool} : ∀ {n : Nat}, (∀ j, j < n → p j = false) → fnd p n = none
  | 0, _ => rfl
  | n + 1, h => by
    unfold fnd
    rw [fnd_no (fun j hj => h j (by omega)), h n (by omega)]
    rfl
theorem fnd_eq {p : Nat → Bool} {u : Nat} (h : p u = true) (hb : ∀ j, j < u → p j = false) : ∀ n, u < n → fnd p n = some u
  | 0, hn => by omega
  | n + 1, hn => by
    unfold fnd
    by_cases c : u = n
    · subst c
      rw [fnd_no hb, h]; rfl
    · rw [fnd_eq h hb n (by omega)]
def hrd (L : Int → Int → Int → Int) (M : Int) (q r : Nat → Int) (i n : Nat) : Int := sm (fun j => pz (L (r j) (q i) (q j) - M)) n
theorem hrd_s (L : Int → Int → Int → Int) (M : Int) (q r : Nat → Int) (i n : Nat) : hrd L M q r i (n + 1) = hrd L M q r i n + pz (L (r n) (q i) (q n) - M) := rfl
theorem hrd_R {L : Int → Int → Int → Int} {M : Int} (hL : ∀ v a b, 0 ≤ L v a b ∧ L v a b ≤ 99) (hM : 0 ≤ M) (q r : Nat → Int) (i n : Nat) : 0 ≤ hrd L M q r i n ∧ hrd L M q r i n ≤ (n : Int) * 99 := by
  refine sm_R0 n (fun k _ => ?_)
  have h := hL (r k) (q i) (q k)
  exact pz_R (by omega) (by omega)
theorem hrd_ext {L : Int → Int → Int → Int} {M : Int} {q r r' : Nat → Int} (i n : Nat) (h : ∀ j, j < n → r j = r' j) : hrd L M q r i n = hrd L M q r' i n := by
  unfold hrd
  exact sm_ext n (fun k hk => by rw [h k hk])
def nxv (L : Int → Int → Int → Int) (M : Int) (q voice : Nat → Int) (h : Int) (n : Nat) (r : Nat → Int) (i : Nat) : Int := if (i : Int) = h ∨ q i < 0 then r i else clp (voice i + (hrd L M q r i n).tdiv 8)
theorem nxv_ext {L : Int → Int → Int → Int} {M : Int} {q voice : Nat → Int} {h : Int} {n : Nat} {r r' : Nat → Int} {i : Nat} (hi : i < n) (hr : ∀ j, j < n → r j = r' j) : nxv L M q voice h n r i = nxv L M q voice h n r' i := by
  unfold nxv
  rw [hr i hi, hrd_ext i n hr]
def VV (L : Int → Int → Int → Int) (M : Int) (q voice : Nat → Int) (h : Int) (n : Nat) (m : Bool) : Nat → Nat → Int
  | 0 => fun i => if (i : Int) = h then 0 else if m = true then 99 else voice i
  | k + 1 => fun i => nxv L M q voice h n (VV L M q voice h n m k) i
theorem VV_R {L : Int → Int → Int → Int} {M : Int} {q voice : Nat → Int} {h : Int} {n : Nat} {m : Bool} (hv : ∀ k, 0 ≤ voice k ∧ voice k ≤ 99) : ∀ k i, 0 ≤ VV L M q voice h n m k i ∧ VV L M q voice h n m k i ≤ 99
  | 0, i => by
    have := hv i
    unfold VV
    repeat' split
    all_goals omega
  | k + 1, i => by
    show 0 ≤ nxv L M q voice h n (VV L M q voice h n m k) i ∧ nxv L M q voice h n (VV L M q voice h n m k) i ≤ 99
    unfold nxv
    split
    · exact VV_R hv k i
    · exact clp_R _
def VQ (L : Int → Int → Int → Int) (M : Int) (q voice : Nat → Int) (h : Int) (n : Nat) (m : Bool) (u : Nat) : Bool := !(ex (fun i => decide (VV L M q voice h n m (u + 1) i ≠ VV L M q voice h n m u i)) n)
/-- after how many rounds the voices rest; 0: never -/
def VN (L : Int → Int → Int → Int) (M : Int) (q voice : Nat → Int) (h : Int) (n : Nat) (m : Bool) : Nat := match fnd (VQ L M q voice h n m) 100 with
  | some u => u + 1
  | none => 0
/-- the voices then -/
def VF (L : Int → Int → Int → Int) (M : Int) (q voice : Nat → Int) (h : Int) (n : Nat) (m : Bool) : Nat → Int := match fnd (VQ L M q voice h n m) 100 with
  | some u => VV L M q voice h n m (u + 1)
  | none => VV L M q voice h n m 100
theorem VNF_s {L : Int → Int → Int → Int} {M : Int} {q voice : Nat → Int} {h : Int} {n : Nat} {m : Bool} {u : Nat} (hu : u < 100) (h1 : VQ L M q voice h n m u = true) (h2 : ∀ j, j < u → VQ L M q voice h n m j = false) : VN L M q voice h n m = u + 1 ∧ VF L M q voice h n m = VV L M q voice h n m (u + 1) := by
  unfold VN VF
  rw [fnd_eq h1 h2 100 hu]
  exact ⟨rfl, rfl⟩
theorem VNF_n {L : Int → Int → Int → Int} {M : Int} {q voice : Nat → Int} {h : Int} {n : Nat} {m : Bool} (h2 : ∀ j, j < 100 → VQ L M q voice h n m j = false) : VN L M q voice h n m = 0 ∧ VF L M q voice h n m = VV L M q voice h n m 100 := by
  unfold VN VF
  rw [fnd_no h2]
  exact ⟨rfl, rfl⟩
theorem VF_R {L : Int → Int → Int → Int} {M : Int} {q voice : Nat → Int} {h : Int} {n : Nat} {m : Bool} (hv : ∀ k, 0 ≤ voice k ∧ voice k ≤ 99) (i : Nat) : 0 ≤ VF L M q voice h n m i ∧ VF L M q voice h n m i ≤ 99 := by
  unfold VF
  cases fnd (VQ L M q voice h n m) 100 with
  | none => exact VV_R hv _ _
  | some u => exact VV_R hv _ _
theorem VN_R (L : Int → Int → Int → Int) (M : Int) (q voice : Nat → Int) (h : Int) (n : Nat) (m : Bool) : VN L M q voice h n m ≤ 100 := by
  unfold VN
  cases c : fnd (VQ L M q voice h n m) 100 with
  | none => exact Nat.zero_le _
  | some u => have := (fnd_some c).1; show u + 1 ≤ 100; omega
/-- heaps of the class that differ in scratch rows of the voices -/
def eV (I I' : Nat → Nat → Int) : Prop := ∀ c, c ≠ 21 → c ≠ 22 → c ≠ 24 → c ≠ 26 → c ≠ 27 → I' c = I c
theorem eV_r (I : Nat → Nat → Int) : eV I I := fun _ _ _ _ _ _ => rfl
theorem eV_t {I I' I'' : Nat → Nat → Int} (h : eV I I') (h' : eV I' I'') : eV I I'' := fun c a1 a2 a3 a4 a5 => (h' c a1 a2 a3 a4 a5).trans (h c a1 a2 a3 a4 a5)
theorem eV_C {I I' : Nat → Nat → Int} (h : eC I I') : eV I I' := fun c a1 a2 a3 _ _ => h c a1 a2 a3
theorem eV_u {I I' : Nat → Nat → Int} (h : eV I I') (c k : Nat) (v : Int) (hc : c = 26 ∨ c = 27) : eV I (up2 I' c k v) := fun c' a1 a2 a3 a4 a5 => by rw [up2_ne _ _ _ (by omega), h c' a1 a2 a3 a4 a5]
theorem KC_u {f : Int → Int → Int → Int → Int} {w : Nat × Bool} {I : Nat → Nat → Int} (h : KC f w I) (c k : Nat) (v : Int) (hc : 25 ≤ c ∧ c ≤ 36) : KC f w (up2 I c k v) :=
  KC_x h (up2_ne _ _ _ (by omega)) (up2_ne _ _ _ (by omega)) (up2_ne _ _ _ (by omega)) (up2_ne _ _ _ (by omega)) (up2_ne _ _ _ (by omega)) (up2_ne _ _ _ (by omega)) (up2_ne _ _ _ (by omega)) (up2_ne _ _ _ (by omega)) (up2_ne _ _ _ (by omega)) (up2_ne _ _ _ (by omega)) (up2_ne _ _ _ (by omega))
theorem Lc_v {f : Int → Int → Int → Int → Int} {I I' : Nat → Nat → Int} (h : eV I I') : Lc f I' = Lc f I :=
  Lc_x (h 4 (by omega) (by omega) (by omega) (by omega) (by omega)) (h 5 (by omega) (by omega) (by omega) (by omega) (by omega)) (h 6 (by omega) (by omega) (by omega) (by omega) (by omega)) (h 7 (by omega) (by omega) (by omega) (by omega) (by omega)) (h 8 (by omega) (by omega) (by omega) (by omega) (by omega)) (h 9 (by omega) (by omega) (by omega) (by omega) (by omega)) (h 23 (by omega) (by omega) (by omega) (by omega) (by omega))
theorem SC_v {I I' : Nat → Nat → Int} (hS : SC I) (h : eV I I') : SC I' := by
  unfold SC
  rw [h 10 (by omega) (by omega) (by omega) (by omega) (by omega), h 11 (by omega) (by omega) (by omega) (by omega) (by omega), h 12 (by omega) (by omega) (by omega) (by omega) (by omega), h 23 (by omega) (by omega) (by omega) (by omega) (by omega)]
  exact hS
theorem s_90 (d : Nat) (w : Nat × Bool) (I J : Nat → Nat → Int) (f : Int → Int → Int → Int → Int) (i : Nat) (hd : 12 ≤ d) (hK : KC f w I) (hS : SC I) (hi : i < (I 10 6).toNat) (hs : seR (I 16) (I 10 6).toNat) (hr : ∀ j, j < (I 10 6).toNat → 0 ≤ I 26 j ∧ I 26 j ≤ 99) :
    ∃ I', semC d 90 [vr 25, vi i] (mk w I J) = some (some (vi (clp (I 11 i + (hrd (Lc f I) (I 23 3) (I 16) (I 26) i (I 10 6).toNat).tdiv 8))), mk w I' J) ∧ eC I I' ∧ KC f w I' := by
  obtain ⟨e, rfl⟩ : ∃ e, d = e + 1 := ⟨d - 1, by omega⟩
  obtain ⟨hn, h11, h12, h23⟩ := id hS
  have e1 : ((I 10 6).toNat : Int) = I 10 6 := Int.toNat_of_nonneg hn.1
  have hi' := nat_lt hi
  rw [e_90, b_90_0]
  obtain ⟨I1, l1, l2, l3⟩ := lpE (fun (j : Nat) (b : Nat → Nat → Int) => Sem e 90 4 [some (vr 25), some (vi (i : Int)), some (vi (hrd (Lc f I) (I 23 3) (I 16) (I 26) i j)), some (vi (j : Int))] [] (mk w b J)) (fun _ b => eC I b ∧ KC f w b) (I 10 6).toNat (by
    rintro j I2 hj ⟨he, hk⟩
    try dsimp only at he hk ⊢
    have hj' := nat_lt hj
    have g10 := he 10 (by omega) (by omega) (by omega)
    have g26 := he 26 (by omega) (by omega) (by omega)
    have g16 := he 16 (by omega) (by omega) (by omega)
    have g23 := he 23 (by omega) (by omega) (by omega)
    rw [b_90_4, g10, if_pos (by omega), b_90_15, hrd_s]
    by_cases c : j = i
    · rw [if_pos (by omega), b_90_20, b_90_69, wr_n1 (by omega)]
      refine ⟨I2, ?_, he, hk⟩
      have hz : pz (Lc f I (I 26 j) (I 16 i) (I 16 j) - I 23 3) = 0 := by
        unfold Lc
        rw [LV_z (by subst c; omega), pz_z h23.1]
      rw [hz, Int.add_zero]
    · obtain ⟨I3, k1, k2, k3⟩ := s_72 e w I2 J f (I 26 j) (I 16 i) (I 16 j) (by omega) hk (hr j hj) (hs i hi) (hs j hj)
      rw [Lc_e he] at k1
      have g23' := k2 23 (by omega) (by omega) (by omega)
      have hL := Lc_R f I (I 26 j) (I 16 i) (I 16 j)
      have hR := hrd_R (Lc_R f I) h23.1 (I 16) (I 26) i j
      rw [if_neg (by omega), b_90_23, if_pos (by omega), if_pos (by omega), if_pos (by omega), nat_i, nat_i, g26, g16, semK_of k1]
      simp only [mpush]
      refine ⟨I3, ?_, eC_t he k2, k3⟩
      rw [b_90_56, g23', g23, b_90_69, wr_n1 (by omega), wr_if (a := _ - _) (by omega)]
      have hp : (if (0 : Int) < Lc f I (I 26 j) (I 16 i) (I 16 j) - I 23 3 then Lc f I (I 26 j) (I 16 i) (I 16 j) - I 23 3 else 0) = pz (Lc f I (I 26 j) (I 16 i) (I 16 j) - I 23 3) := rfl
      have hpR := pz_R (x := Lc f I (I 26 j) (I 16 i) (I 16 j) - I 23 3) (B := 99) (by omega) (by omega)
      rw [hp, wr_if (by omega)]) I ⟨eC_r I, hK⟩
  try dsimp only at l1 l2 l3
  rw [e1] at l1
  have g10 := l2 10 (by omega) (by omega) (by omega)
  have g11 := l2 11 (by omega) (by omega) (by omega)
  refine ⟨I1, l1.trans ?_, l2, l3⟩
  have hR := hrd_R (Lc_R f I) h23.1 (I 16) (I 26) i (I 10 6).toNat
  have hv := h11 i
  rw [b_90_4, g10, if_neg (by omega), b_90_75, if_pos (by omega), nat_i, g11]
  generalize hrd (Lc f I) (I 23 3) (I 16) (I 26) i (I 10 6).toNat = z at hR
  have hq : z.tdiv 8 = z / 8 := Int.tdiv_eq_ediv_of_nonneg hR.1
  rw [hq, wr_if (a := z / 8) (by omega), wr_if (by omega)]
  unfold clp
  repeat' split
  all_goals first | rfl | omega | (congr; omega) | (exfalso; omega) | skip
  all_goals (have : I 11 i + z / 8 = 99 := by omega); rw [this]
theorem s_89 (d : Nat) (w : Nat × Bool) (I J : Nat → Nat → Int) (f : Int → Int → Int → Int → Int) (h : Int) (hd : 13 ≤ d) (hK : KC f w I) (hS : SC I) (hs : seR (I 16) (I 10 6).toNat) (hr : ∀ j, j < (I 10 6).toNat → 0 ≤ I 26 j ∧ I 26 j ≤ 99) :
    ∃ I', semC d 89 [vr 25, vi h] (mk w I J) = some (some (vi (b2 (ex (fun i => decide (nxv (Lc f I) (I 23 3) (I 16) (I 11) h (I 10 6).toNat (I 26) i ≠ I 26 i)) (I 10 6).toNat))), mk w I' J) ∧ eV I I' ∧ KC f w I' ∧ ∀ i, i < (I 10 6).toNat → I' 26 i = nxv (Lc f I) (I 23 3) (I 16) (I 11) h (I 10 6).toNat (I 26) i := by
  obtain ⟨e, rfl⟩ : ∃ e, d = e + 1 := ⟨d - 1, by omega⟩
  obtain ⟨hn, h11, h12, h23⟩ := id hS
  have e1 : ((I 10 6).toNat : Int) = I 10 6 := Int.toNat_of_nonneg hn.1
  rw [e_89, b_89_0]
  obtain ⟨⟨I1, z⟩, l1, l2, l3, l4, l5⟩ := lpE (fun (i : Nat) (b : (Nat → Nat → Int) × Option mVal) => Sem e 89 4 [some (vr 25), some (vi h), some (vi (b2 (ex (fun i => decide (nxv (Lc f I) (I 23 3) (I 16) (I 11) h (I 10 6).toNat (I 26) i ≠ I 26 i)) i))), some (vi (i : Int)), b.2] [] (mk w b.1 J)) (fun i b => eV I b.1 ∧ KC f w b.1 ∧ b.1 26 = I 26 ∧ ∀ j, j < i → b.1 27 j = nxv (Lc f I) (I 23 3) (I 16) (I 11) h (I 10 6).toNat (I 26) j) (I 10 6).toNat (by
    rintro i ⟨b, z⟩ hi ⟨he, hk, h26, h27⟩
    try dsimp only at he hk h26 h27 ⊢
    have hi' := nat_lt hi
    have g10 := he 10 (by omega) (by omega) (by omega) (by omega) (by omega)
    have g16 := he 16 (by omega) (by omega) (by omega) (by omega) (by omega)
    have qi := hs i hi
    rw [b_89_4, g10, if_pos (by omega), b_89_15]
    have fin : ∀ (b' : Nat → Nat → Int) (x4 v : Int), eV I b' → KC f w b' → b' 26 = I 26 → (∀ j, j < i → b' 27 j = nxv (Lc f I) (I 23 3) (I 16) (I 11) h (I 10 6).toNat (I 26) j) → v = nxv (Lc f I) (I 23 3) (I 16) (I 11) h (I 10 6).toNat (I 26) i →
        ∃ bb : (Nat → Nat → Int) × Option mVal, Sem e 89 64 [some (vr 25), some (vi h), some (vi (b2 (ex (fun i => decide (nxv (Lc f I) (I 23 3) (I 16) (I 11) h (I 10 6).toNat (I 26) i ≠ I 26 i)) i))), some (vi (i : Int)), some (vi x4)] [vi v, vi (i : Int), vr 27] (mk w b' J) = Sem e 89 4 [some (vr 25), some (vi h), some (vi (b2 (ex (fun i => decide (nxv (Lc f I) (I 23 3) (I 16) (I 11) h (I 10 6).toNat (I 26) i ≠ I 26 i)) (i + 1)))), some (vi ((i + 1 : Nat) : Int)), bb.2] [] (mk w bb.1 J) ∧ eV I bb.1 ∧ KC f w bb.1 ∧ bb.1 26 = I 26 ∧ ∀ j, j < i + 1 → bb.1 27 j = nxv (Lc f I) (I 23 3) (I 16) (I 11) h (I 10 6).toNat (I 26) j := by
      intro b' x4 v a1 a2 a3 a4 a5
      refine ⟨(up2 b' 27 i v, some (vi x4)), ?_, eV_u a1 27 i v (Or.inr rfl), KC_u a2 27 i v (by omega), ?_, ?_⟩
      · rw [b_89_64, if_pos (by omega), if_pos (by omega), if_pos (by omega), nat_i, up2_s, a3, ex_s, a5]
        by_cases c : nxv (Lc f I) (I 23 3) (I 16) (I 11) h (I 10 6).toNat (I 26) i = I 26 i
        · rw [if_pos c, b_89_82, wr_n1 (by omega), decide_eq_false (show ¬ nxv (Lc f I) (I 23 3) (I 16) (I 11) h (I 10 6).toNat (I 26) i ≠ I 26 i from fun hh => hh c), Bool.or_false]
        · rw [if_neg c, b_89_80, b_89_82, wr_n1 (by omega), decide_eq_true c, Bool.or_true]
          rfl
      · show up2 b' 27 i v 26 = I 26
        rw [up2_ne _ _ _ (by omega), a3]
      · intro j hj
        show up2 b' 27 i v 27 j = _
        by_cases c : j = i
        · subst c; rw [up2_s, a5]
        · rw [up2_sne _ _ _ c]; exact a4 j (by omega)
    by_cases c : (i : Int) = h ∨ I 16 i < 0
    · have hx : nxv (Lc f I) (I 23 3) (I 16) (I 11) h (I 10 6).toNat (I 26) i = I 26 i := by unfold nxv; rw [if_pos c]
      have hgo : Sem e 89 33 [some (vr 25), some (vi h), some (vi (b2 (ex (fun i => decide (nxv (Lc f I) (I 23 3) (I 16) (I 11) h (I 10 6).toNat (I 26) i ≠ I 26 i)) i))), some (vi (i : Int)), z] [] (mk w b J) = Sem e 89 64 [some (vr 25), some (vi h), some (vi (b2 (ex (fun i => decide (nxv (Lc f I) (I 23 3) (I 16) (I 11) h (I 10 6).toNat (I 26) i ≠ I 26 i)) i))), some (vi (i : Int)), some (vi 1)] [vi (I 26 i), vi (i : Int), vr 27] (mk w b J) := by
        rw [b_89_33, b_89_38, if_neg (by omega), b_89_50, if_pos (by omega), nat_i, h26]
      by_cases c1 : (i : Int) = h
      · rw [if_pos c1, hgo]
        exact fin b 1 (I 26 i) he hk h26 h27 hx.symm
      · rw [if_neg c1, b_89_20, if_pos (by omega), nat_i, g16, if_pos (by omega), hgo]
        exact fin b 1 (I 26 i) he hk h26 h27 hx.symm
    · have hx : nxv (Lc f I) (I 23 3) (I 16) (I 11) h (I 10 6).toNat (I 26) i = clp (I 11 i + (hrd (Lc f I) (I 23 3) (I 16) (I 26) i (I 10 6).toNat).tdiv 8) := by unfold nxv; rw [if_neg c]
      obtain ⟨I3, k1, k2, k3⟩ := s_90 e w b J f i (by omega) hk (SC_v hS he) (by rw [g10]; exact hi) (by rw [g10, g16]; exact hs) (by rw [g10, h26]; exact hr)
      rw [Lc_v he, h26, g10, g16, he 11 (by omega) (by omega) (by omega) (by omega) (by omega), he 23 (by omega) (by omega) (by omega) (by omega) (by omega)] at k1
      rw [if_neg (by omega), b_89_20, if_pos (by omega), nat_i, g16, if_neg (by omega), b_89_37, b_89_38, if_pos rfl, b_89_59, semK_of k1]
      simp only [mpush]
      refine fin I3 0 _ (eV_t he (eV_C k2)) k3 ((k2 26 (by omega) (by omega) (by omega)).trans h26) ?_ hx.symm
      intro j hj
      rw [k2 27 (by omega) (by omega) (by omega)]
      exact h27 j hj) (I, none) ⟨eV_r I, hK, rfl, fun j hj => absurd hj (by omega)⟩
  try dsimp only at l1 l2 l3 l4 l5
  rw [e1] at l1
  have g10 := l2 10 (by omega) (by omega) (by omega) (by omega) (by omega)
  have hb2 : ∀ b : Bool, b2 b = 0 ∨ b2 b = 1 := fun b => by cases b <;> simp [b2]
  have C : ∀ c, c ≠ 26 → cpy I1 27 26 (0 : Int).toNat (0 : Int).toNat (I1 10 6).toNat c = I1 c := fun c hc => by rw [cpy_row, if_neg hc]
  refine ⟨cpy I1 27 26 (0 : Int).toNat (0 : Int).toNat (I1 10 6).toNat, l1.trans ?_, ?_, ?_, ?_⟩
  · rw [b_89_4, g10, if_neg (by omega), b_89_88, g10, if_pos (by omega), if_pos (hb2 _)]
  · intro c a1 a2 a3 a4 a5
    rw [C c a4, l2 c a1 a2 a3 a4 a5]
  · exact KC_x l3 (C _ (by omega)) (C _ (by omega)) (C _ (by omega)) (C _ (by omega)) (C _ (by omega)) (C _ (by omega)) (C _ (by omega)) (C _ (by omega)) (C _ (by omega)) (C _ (by omega)) (C _ (by omega))
  · intro i hi
    rw [cpy_row, if_pos rfl]
    unfold cr
    rw [g10, if_pos ⟨by simp, by simpa using hi⟩]
    have := l5 i hi
    simpa using this
