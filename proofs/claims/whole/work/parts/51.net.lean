/-! net, clear voices, sums: the class -/
def sm (g : Nat → Int) : Nat → Int
  | 0 => 0
  | n + 1 => sm g n + g n
theorem sm_s (g : Nat → Int) (n : Nat) : sm g (n + 1) = sm g n + g n := rfl
theorem sm_ext {f g : Nat → Int} : ∀ n, (∀ k, k < n → f k = g k) → sm f n = sm g n
  | 0, _ => rfl
  | n + 1, h => by rw [sm_s, sm_s, sm_ext n (fun k hk => h k (by omega)), h n (by omega)]
theorem sm_R {g : Nat → Int} {B : Int} : ∀ n, (∀ k, k < n → 0 - B ≤ g k ∧ g k ≤ B) → 0 - (n : Int) * B ≤ sm g n ∧ sm g n ≤ (n : Int) * B
  | 0, _ => by unfold sm; omega
  | n + 1, h => by
    have ih := sm_R n (fun k hk => h k (by omega))
    have hn := h n (by omega)
    have e : ((n + 1 : Nat) : Int) * B = (n : Int) * B + B := by rw [show ((n + 1 : Nat) : Int) = (n : Int) + 1 from rfl, Int.add_mul, Int.one_mul]
    rw [sm_s, e]
    omega
theorem sm_R0 {g : Nat → Int} {B : Int} (n : Nat) (h : ∀ k, k < n → 0 ≤ g k ∧ g k ≤ B) : 0 ≤ sm g n ∧ sm g n ≤ (n : Int) * B := by
  induction n with
  | zero => unfold sm; omega
  | succ n ih =>
    have ih := ih (fun k hk => h k (by omega))
    have hn := h n (by omega)
    have e : ((n + 1 : Nat) : Int) * B = (n : Int) * B + B := by rw [show ((n + 1 : Nat) : Int) = (n : Int) + 1 from rfl, Int.add_mul, Int.one_mul]
    rw [sm_s, e]
    omega
/-- bits -/
theorem bit01 (y : BitVec 32) : (y &&& 1#32).toInt = if y.getLsbD 0 = true then 1 else 0 := by
  have h1 : (y &&& 1#32).toNat = y.toNat % 2 := by rw [BitVec.toNat_and]; exact Nat.and_one_is_mod _
  have h2 : y.getLsbD 0 = decide (y.toNat % 2 = 1) := by unfold BitVec.getLsbD; rw [Nat.testBit_zero]
  rw [BitVec.toInt_eq_toNat_cond, h1, if_pos (by omega), h2]
  by_cases c : y.toNat % 2 = 1
  · rw [c]; rfl
  · rw [show y.toNat % 2 = 0 by omega]; rfl
theorem ishr_bv (x j : Int) : ∃ k : Nat, ∀ x : Int, (oi x >>> (oi j &&& 31)).toBitVec = (oi x).toBitVec.sshiftRight k := ⟨(((oi j &&& 31).toBitVec.smod 32)).toNat, fun _ => rfl⟩
theorem oi_ii (y : Int32) : oi y.toInt = y := Int32.ofInt_toInt y
theorem bit_or (x j : Int) : iand (ishr x j) 1 = 0 ∨ iand (ishr x j) 1 = 1 := by
  unfold iand ishr
  rw [oi_ii]
  have h := bit01 (oi x >>> (oi j &&& 31)).toBitVec
  have e : ((oi x >>> (oi j &&& 31)) &&& oi 1).toInt = ((oi x >>> (oi j &&& 31)).toBitVec &&& 1#32).toInt := rfl
  rw [e, h]
  split
  · exact Or.inr rfl
  · exact Or.inl rfl
theorem bit_not (x j : Int) : iand (ishr (ixor x (-1)) j) 1 = 0 ↔ iand (ishr x j) 1 = 1 := by
  obtain ⟨k, hk⟩ := ishr_bv x j
  unfold iand ishr ixor
  rw [oi_ii, oi_ii, oi_ii]
  have e : ∀ y : Int32, (y &&& oi 1).toInt = (y.toBitVec &&& 1#32).toInt := fun _ => rfl
  have hk' := hk ((oi x ^^^ oi (-1)).toInt)
  rw [oi_ii] at hk'
  rw [e, e, hk', hk x, bit01, bit01, BitVec.getLsbD_sshiftRight, BitVec.getLsbD_sshiftRight]
  have e2 : (oi x ^^^ oi (-1)).toBitVec = ~~~ (oi x).toBitVec := by
    show (oi x).toBitVec ^^^ BitVec.allOnes 32 = _
    rw [BitVec.xor_allOnes]
  rw [e2, Nat.add_zero, BitVec.getLsbD_not, BitVec.msb_not]
  generalize (oi x).toBitVec = y
  by_cases c : k < 32
  · rw [if_pos c, if_pos c]
    cases y.getLsbD k <;> simp [c]
  · rw [if_neg c, if_neg c]
    cases y.msb <;> simp
def nd (needs : Nat → Int) (i j : Nat) : Bool := decide (iand (ishr (needs i) j) 1 = 1)
def wv (b : Bool) (m y : Int) : Int := if b = true then 3 * y else -m * y
def SC (I : Nat → Nat → Int) : Prop := (0 ≤ I 10 6 ∧ I 10 6 ≤ 10) ∧ (∀ k, 0 ≤ I 11 k ∧ I 11 k ≤ 99) ∧ (∀ k, 0 ≤ I 12 k ∧ I 12 k ≤ 9) ∧ (0 ≤ I 23 3 ∧ I 23 3 ≤ 60)
theorem s_83 (d : Nat) (w : Nat × Bool) (I J : Nat → Nat → Int) (i j : Nat) (hd : 1 ≤ d) (hi : i < 10) : semC d 83 [vr 10, vi i, vi j] (mk w I J) = some (some (vi (b2 (nd (I 13) i j))), mk w I J) := by
  obtain ⟨e, rfl⟩ : ∃ e, d = e + 1 := ⟨d - 1, by omega⟩
  rw [e_83, b_83_0, if_pos (by omega), nat_i]
  unfold nd
  by_cases c : iand (ishr (I 13 i) j) 1 = 1
  · rw [if_pos c, b_83_14, b_83_19, if_pos (by omega), decide_eq_true c]; rfl
  · rw [if_neg c, b_83_18, b_83_19, if_pos (by omega), decide_eq_false c]; rfl
theorem mul_R {m y : Int} (hm : 0 ≤ m ∧ m ≤ 9) (hy : 0 ≤ y ∧ y ≤ 99) : -891 ≤ -m * y ∧ -m * y ≤ 0 := by
  have h1 : 0 ≤ m * y := Int.mul_nonneg hm.1 hy.1
  have h2 : m * y ≤ 9 * y := Int.mul_le_mul_of_nonneg_right hm.2 hy.1
  rw [Int.neg_mul]
  omega
theorem wv_R {b : Bool} {m y : Int} (hm : 0 ≤ m ∧ m ≤ 9) (hy : 0 ≤ y ∧ y ≤ 99) : -891 ≤ wv b m y ∧ wv b m y ≤ 297 := by
  have := mul_R hm hy
  unfold wv; split <;> omega
theorem wv_0 (b : Bool) (m : Int) : wv b m 0 = 0 := by unfold wv; split <;> simp
theorem s_73 (d : Nat) (w : Nat × Bool) (I J : Nat → Nat → Int) (f : Int → Int → Int → Int → Int) (i j : Nat) (a b : Int) (hd : 12 ≤ d) (hK : KC f w I) (hS : SC I) (hi : i < (I 10 6).toNat) (hj : j < (I 10 6).toNat) (ha : a = -1 ∨ (0 ≤ a ∧ a < 10)) (hb : b = -1 ∨ (0 ≤ b ∧ b < 10)) :
    ∃ I', semC d 73 [vr 23, vi i, vi j, vi a, vi b] (mk w I J) = some (some (vi (wv (nd (I 13) i j) (I 12 i) (pz (Lc f I (I 11 j) a b - I 23 3)))), mk w I' J) ∧ eC I I' ∧ KC f w I' := by
  obtain ⟨e, rfl⟩ : ∃ e, d = e + 1 := ⟨d - 1, by omega⟩
  obtain ⟨hn, h11, h12, h23⟩ := id hS
  have hi' := nat_lt hi
  have hj' := nat_lt hj
  obtain ⟨I1, k1, k2, k3⟩ := s_72 e w I J f (I 11 j) a b (by omega) hK (h11 j) ha hb
  have hR : 0 ≤ Lc f I (I 11 j) a b ∧ Lc f I (I 11 j) a b ≤ 99 := LV_R _ _ _ _ _ _ _ _ _ _ _
  have g23 := k2 23 (by omega) (by omega) (by omega)
  have g13 := k2 13 (by omega) (by omega) (by omega)
  have g12 := k2 12 (by omega) (by omega) (by omega)
  have m12 := h12 i
  refine ⟨I1, ?_, k2, k3⟩
  rw [e_73, b_73_0, if_pos (by omega), nat_i, semK_of k1]
  simp only [mpush]
  rw [b_73_16, g23, wr_if (a := _ - _) (by omega)]
  unfold pz
  by_cases c : 0 < Lc f I (I 11 j) a b - I 23 3
  · rw [if_pos c, if_pos c, b_73_30, semK_of (s_83 _ _ _ _ _ _ (by omega) (by omega)), g13]
    simp only [mpush]
    have hm := mul_R (m := I 12 i) (y := Lc f I (I 11 j) a b - I 23 3) m12 (by omega)
    unfold wv
    rw [b_73_39]
    cases nd (I 13) i j
    · rw [b2_f, if_pos rfl, b_73_49, if_pos (by omega), nat_i, g12, b_73_62, wr_if (a := -_) (by omega), wr_if (by omega)]
      rfl
    · rw [b2_t, if_neg (by omega), b_73_42, b_73_62, wr_if (by omega)]
      rfl
  · rw [if_neg c, if_neg c, b_73_28, wv_0]
/-- what is gained, all in all -/
def wt (L : Int → Int → Int → Int) (M : Int) (needs mind voice q : Nat → Int) (i j : Nat) : Int := wv (nd needs i j) (mind i) (pz (L (voice j) (q i) (q j) - M))
def nt (L : Int → Int → Int → Int) (M : Int) (needs mind voice q : Nat → Int) (n : Nat) : Int := sm (fun i => sm (fun j => wt L M needs mind voice q i j) n) n
theorem wt_R {L : Int → Int → Int → Int} {M : Int} {needs mind voice q : Nat → Int} (hL : ∀ v a b, 0 ≤ L v a b ∧ L v a b ≤ 99) (hM : 0 ≤ M) (hm : ∀ k, 0 ≤ mind k ∧ mind k ≤ 9) (i j : Nat) : -891 ≤ wt L M needs mind voice q i j ∧ wt L M needs mind voice q i j ≤ 297 := by
  refine wv_R (hm i) (pz_R ?_ (by omega))
  have := hL (voice j) (q i) (q j)
  omega
theorem Lc_R (f : Int → Int → Int → Int → Int) (I : Nat → Nat → Int) : ∀ v a b, 0 ≤ Lc f I v a b ∧ Lc f I v a b ≤ 99 := fun _ _ _ => LV_R _ _ _ _ _ _ _ _ _ _ _
theorem Lm_R (f : Int → Int → Int → Int → Int) (I : Nat → Nat → Int) : ∀ v a b, 0 ≤ Lm f I v a b ∧ Lm f I v a b ≤ 99 := fun _ _ _ => LV_R _ _ _ _ _ _ _ _ _ _ _
theorem smw_R {L : Int → Int → Int → Int} {M : Int} {needs mind voice q : Nat → Int} (hL : ∀ v a b, 0 ≤ L v a b ∧ L v a b ≤ 99) (hM : 0 ≤ M) (hm : ∀ k, 0 ≤ mind k ∧ mind k ≤ 9) (i n : Nat) : 0 - (n : Int) * 891 ≤ sm (fun j => wt L M needs mind voice q i j) n ∧ sm (fun j => wt L M needs mind voice q i j) n ≤ (n : Int) * 891 :=
  sm_R n (fun k _ => by have := wt_R (needs := needs) (voice := voice) (q := q) hL hM hm i k; omega)
theorem nt_R {L : Int → Int → Int → Int} {M : Int} {needs mind voice q : Nat → Int} (hL : ∀ v a b, 0 ≤ L v a b ∧ L v a b ≤ 99) (hM : 0 ≤ M) (hm : ∀ k, 0 ≤ mind k ∧ mind k ≤ 9) {n : Nat} (hn : n ≤ 10) (k : Nat) : 0 - (k : Int) * 8910 ≤ sm (fun i => sm (fun j => wt L M needs mind voice q i j) n) k ∧ sm (fun i => sm (fun j => wt L M needs mind voice q i j) n) k ≤ (k : Int) * 8910 :=
  sm_R k (fun i _ => by have := smw_R (needs := needs) (voice := voice) (q := q) hL hM hm i n; omega)
theorem s_74 (d : Nat) (w : Nat × Bool) (I J : Nat → Nat → Int) (f : Int → Int → Int → Int → Int) (q : Nat) (hd : 13 ≤ d) (hK : KC f w I) (hS : SC I) (hq : q = 16 ∨ q = 30) (hs : seR (I q) (I 10 6).toNat) :
    ∃ I', semC d 74 [vr 23, vr q] (mk w I J) = some (some (vi (nt (Lc f I) (I 23 3) (I 13) (I 12) (I 11) (I q) (I 10 6).toNat)), mk w I' J) ∧ eC I I' ∧ KC f w I' := by
  obtain ⟨e, rfl⟩ : ∃ e, d = e + 1 := ⟨d - 1, by omega⟩
  obtain ⟨hn, h11, h12, h23⟩ := id hS
  have e1 : ((I 10 6).toNat : Int) = I 10 6 := Int.toNat_of_nonneg hn.1
  have hm : ∀ I', mtg (mk w I' J) q = (20, 10) := by
    intro I'
    rcases hq with h | h <;> subst h <;> rfl
  rw [e_74, b_74_0]
  obtain ⟨⟨I1, z⟩, l1, l2, l3⟩ := lpE (fun (i : Nat) (b : (Nat → Nat → Int) × Option mVal) => Sem e 74 4 [some (vr 23), some (vr q), some (vi (sm (fun i => sm (fun j => wt (Lc f I) (I 23 3) (I 13) (I 12) (I 11) (I q) i j) (I 10 6).toNat) i)), some (vi (i : Int)), b.2] [] (mk w b.1 J)) (fun _ b => eC I b.1 ∧ KC f w b.1) (I 10 6).toNat (by
    rintro i ⟨I1, z⟩ hi ⟨he, hk⟩
    try dsimp only at he hk ⊢
    have hi' := nat_lt hi
    have g10 := he 10 (by omega) (by omega) (by omega)
    have hRo := nt_R (needs := I 13) (voice := I 11) (q := I q) (Lc_R f I) h23.1 h12 (n := (I 10 6).toNat) (by omega) i
    rw [b_74_4, g10, if_pos (by omega), b_74_15]
    obtain ⟨I2, m1, m2, m3⟩ := lpE (fun (j : Nat) (b : Nat → Nat → Int) => Sem e 74 18 [some (vr 23), some (vr q), some (vi (sm (fun i => sm (fun j => wt (Lc f I) (I 23 3) (I 13) (I 12) (I 11) (I q) i j) (I 10 6).toNat) i + sm (fun j => wt (Lc f I) (I 23 3) (I 13) (I 12) (I 11) (I q) i j) j)), some (vi (i : Int)), some (vi (j : Int))] [] (mk w b J)) (fun _ b => eC I b ∧ KC f w b) (I 10 6).toNat (by
      rintro j I2 hj ⟨he, hk⟩
      try dsimp only at he hk ⊢
      have hj' := nat_lt hj
      have g10 := he 10 (by omega) (by omega) (by omega)
      have gq := he q (by omega) (by omega) (by omega)
      have hRi := smw_R (needs := I 13) (voice := I 11) (q := I q) (Lc_R f I) h23.1 h12 i j
      have hRw := wt_R (needs := I 13) (voice := I 11) (q := I q) (Lc_R f I) h23.1 h12 i j
      rw [b_74_18, g10, if_pos (by omega), b_74_30]
      by_cases c : j = i
      · rw [if_pos (by omega), b_74_53, wr_n1 (by omega)]
        refine ⟨I2, ?_, he, hk⟩
        have hz : wt (Lc f I) (I 23 3) (I 13) (I 12) (I 11) (I q) i j = 0 := by
          unfold wt Lc
          rw [LV_z (by subst c; omega), pz_z h23.1, wv_0]
        rw [sm_s, hz, Int.add_zero]
      · have hS2 : SC I2 := by
          unfold SC
          rw [g10, he 11 (by omega) (by omega) (by omega), he 12 (by omega) (by omega) (by omega), he 23 (by omega) (by omega) (by omega)]
          exact hS
        obtain ⟨I3, k1, k2, k3⟩ := s_73 e w I2 J f i j (I q i) (I q j) (by omega) hk hS2 (by rw [g10]; exact hi) (by rw [g10]; exact hj) (hs i hi) (hs j hj)
        rw [he 13 (by omega) (by omega) (by omega), he 12 (by omega) (by omega) (by omega), he 11 (by omega) (by omega) (by omega), he 23 (by omega) (by omega) (by omega), Lc_e he] at k1
        rw [if_neg (by omega), b_74_36, hm, if_pos (by omega), if_pos (by omega), if_pos (by omega), if_pos (by omega), nat_i, nat_i, gq, semK_of k1]
        simp only [mpush]
        refine ⟨I3, ?_, eC_t he k2, k3⟩
        rw [b_74_51, b_74_53, wr_n1 (by omega), sm_s]
        have hw : wv (nd (I 13) i j) (I 12 i) (pz (Lc f I (I 11 j) (I q i) (I q j) - I 23 3)) = wt (Lc f I) (I 23 3) (I 13) (I 12) (I 11) (I q) i j := rfl
        rw [hw, wr_if (by omega), Int.add_assoc]) I1 ⟨he, hk⟩
    try dsimp only at m1
    rw [e1] at m1
    have g10' := m2 10 (by omega) (by omega) (by omega)
    refine ⟨(I2, some (vi (I 10 6))), ?_, m2, m3⟩
    try dsimp only
    have m0 : sm (fun j => wt (Lc f I) (I 23 3) (I 13) (I 12) (I 11) (I q) i j) 0 = 0 := rfl
    rw [m0, Int.add_zero] at m1
    refine m1.trans ?_
    rw [b_74_18, g10', if_neg (by omega), b_74_59, wr_n1 (by omega), sm_s]) (I, none) ⟨eC_r I, hK⟩
  try dsimp only at l1 l2 l3
  rw [e1] at l1
  have g10 := l2 10 (by omega) (by omega) (by omega)
  refine ⟨I1, l1.trans ?_, l2, l3⟩
  rw [b_74_4, g10, if_neg (by omega), b_74_65]
  rfl
/-- whose voices are clear to one: a sum of bits -/
def cb (p : Nat → Bool) : Nat → Int
  | 0 => 0
  | n + 1 => if p n = true then ior (cb p n) (ishl 1 n) else cb p n
theorem cb_s (p : Nat → Bool) (n : Nat) : cb p (n + 1) = if p n = true then ior (cb p n) (ishl 1 n) else cb p n := rfl
theorem cb_ext {p q : Nat → Bool} : ∀ n, (∀ k, k < n → p k = q k) → cb p n = cb q n
  | 0, _ => rfl
  | n + 1, h => by rw [cb_s, cb_s, cb_ext n (fun k hk => h k (by omega)), h n (by omega)]
def clr (L : Int → Int → Int → Int) (M : Int) (voice q : Nat → Int) (i j : Nat) : Bool := decide (M < L (voice j) (q i) (q j))
theorem SC_e {I I' : Nat → Nat → Int} (h : SC I) (he : eC I I') : SC I' := by
  unfold SC
  rw [he 10 (by omega) (by omega) (by omega), he 11 (by omega) (by omega) (by omega), he 12 (by omega) (by omega) (by omega), he 23 (by omega) (by omega) (by omega)]
  exact h
theorem s_75 (d : Nat) (w : Nat × Bool) (I J : Nat → Nat → Int) (f : Int → Int → Int → Int → Int) (i : Nat) (hd : 12 ≤ d) (hK : KC f w I) (hS : SC I) (hi : i < (I 10 6).toNat) (hs : seR (I 16) (I 10 6).toNat) :
    ∃ I', semC d 75 [vr 23, vi i] (mk w I J) = some (some (vi (cb (clr (Lc f I) (I 23 3) (I 11) (I 16) i) (I 10 6).toNat)), mk w I' J) ∧ eC I I' ∧ KC f w I' := by
  obtain ⟨e, rfl⟩ : ∃ e, d = e + 1 := ⟨d - 1, by omega⟩
  obtain ⟨hn, h11, h12, h23⟩ := id hS
  have e1 : ((I 10 6).toNat : Int) = I 10 6 := Int.toNat_of_nonneg hn.1
  have hi' := nat_lt hi
  rw [e_75, b_75_0]
  obtain ⟨I1, l1, l2, l3⟩ := lpE (fun (j : Nat) (b : Nat → Nat → Int) => Sem e 75 4 [some (vr 23), some (vi (i : Int)), some (vi (cb (clr (Lc f I) (I 23 3) (I 11) (I 16) i) j)), some (vi (j : Int))] [] (mk w b J)) (fun _ b => eC I b ∧ KC f w b) (I 10 6).toNat (by
    rintro j I2 hj ⟨he, hk⟩
    try dsimp only at he hk ⊢
    have hj' := nat_lt hj
    have g10 := he 10 (by omega) (by omega) (by omega)
    have g11 := he 11 (by omega) (by omega) (by omega)
    have g16 := he 16 (by omega) (by omega) (by omega)
    have g23 := he 23 (by omega) (by omega) (by omega)
    rw [b_75_4, g10, if_pos (by omega), b_75_15, cb_s]
    by_cases c : j = i
    · rw [if_pos (by omega), b_75_20, b_75_67, wr_n1 (by omega)]
      refine ⟨I2, ?_, he, hk⟩
      have hz : clr (Lc f I) (I 23 3) (I 11) (I 16) i j = false := by
        unfold clr Lc
        rw [LV_z (by subst c; omega)]
        exact decide_eq_false (by omega)
      rw [hz, if_neg (by simp)]
    · obtain ⟨I3, k1, k2, k3⟩ := s_72 e w I2 J f (I 11 j) (I 16 i) (I 16 j) (by omega) hk (h11 j) (hs i hi) (hs j hj)
      rw [Lc_e he] at k1
      have g23' := k2 23 (by omega) (by omega) (by omega)
      rw [if_neg (by omega), b_75_23, if_pos (by omega), if_pos (by omega), if_pos (by omega), nat_i, nat_i, g11, g16, semK_of k1]
      simp only [mpush]
      refine ⟨I3, ?_, eC_t he k2, k3⟩
      rw [b_75_54, g23', g23]
      by_cases c2 : I 23 3 < Lc f I (I 11 j) (I 16 i) (I 16 j)
      · have hz : clr (Lc f I) (I 23 3) (I 11) (I 16) i j = true := decide_eq_true c2
        rw [if_pos c2, b_75_61, b_75_67, wr_n1 (by omega), if_pos hz]
      · have hz : ¬ clr (Lc f I) (I 23 3) (I 11) (I 16) i j = true := by unfold clr; simpa using c2
        rw [if_neg c2, b_75_67, wr_n1 (by omega), if_neg hz]) I ⟨eC_r I, hK⟩
  try dsimp only at l1 l2 l3
  rw [e1] at l1
  have g10 := l2 10 (by omega) (by omega) (by omega)
  refine ⟨I1, l1.trans ?_, l2, l3⟩
  rw [b_75_4, g10, if_neg (by omega), b_75_73]
def lsum (L : Int → Int → Int → Int) (M : Int) (voice q : Nat → Int) (p : Nat → Bool) (i n : Nat) : Int := sm (fun j => if p j = true then pz (L (voice j) (q i) (q j) - M) else 0) n
theorem lsum_R {L : Int → Int → Int → Int} {M : Int} {voice q : Nat → Int} {p : Nat → Bool} (hL : ∀ v a b, 0 ≤ L v a b ∧ L v a b ≤ 99) (hM : 0 ≤ M) (i n : Nat) : 0 ≤ lsum L M voice q p i n ∧ lsum L M voice q p i n ≤ (n : Int) * 99 := by
  refine sm_R0 n (fun k _ => ?_)
  have h := hL (voice k) (q i) (q k)
  have h2 := pz_R (x := L (voice k) (q i) (q k) - M) (B := 99) (by omega) (by omega)
  split
  · exact h2
  · omega
theorem lsum_s (L : Int → Int → Int → Int) (M : Int) (voice q : Nat → Int) (p : Nat → Bool) (i n : Nat) : lsum L M voice q p i (n + 1) = lsum L M voice q p i n + (if p n = true then pz (L (voice n) (q i) (q n) - M) else 0) := rfl
theorem lsum_ext {L : Int → Int → Int → Int} {M : Int} {voice q : Nat → Int} {p p' : Nat → Bool} (i : Nat) (n : Nat) (h : ∀ k, p k = p' k) : lsum L M voice q p i n = lsum L M voice q p' i n := by
  unfold lsum; refine sm_ext n (fun k _ => ?_); rw [h k]
theorem s_76 (d : Nat) (w : Nat × Bool) (I J : Nat → Nat → Int) (f : Int → Int → Int → Int → Int) (i : Nat) (x : Int) (hd : 12 ≤ d) (hK : KC f w I) (hS : SC I) (hi : i < (I 10 6).toNat) (hs : seR (I 16) (I 10 6).toNat) :
    ∃ I', semC d 76 [vr 23, vi i, vi x] (mk w I J) = some (some (vi (lsum (Lc f I) (I 23 3) (I 11) (I 16) (fun j => decide (iand (ishr x j) 1 ≠ 0)) i (I 10 6).toNat)), mk w I' J) ∧ eC I I' ∧ KC f w I' := by
  obtain ⟨e, rfl⟩ : ∃ e, d = e + 1 := ⟨d - 1, by omega⟩
  obtain ⟨hn, h11, h12, h23⟩ := id hS
  have e1 : ((I 10 6).toNat : Int) = I 10 6 := Int.toNat_of_nonneg hn.1
  have hi' := nat_lt hi
  rw [e_76, b_76_0]
  obtain ⟨I1, l1, l2, l3⟩ := lpE (fun (j : Nat) (b : Nat → Nat → Int) => Sem e 76 5 [some (vr 23), some (vi (i : Int)), some (vi x), some (vi (lsum (Lc f I) (I 23 3) (I 11) (I 16) (fun j => decide (iand (ishr x j) 1 ≠ 0)) i j)), some (vi (j : Int))] [] (mk w b J)) (fun _ b => eC I b ∧ KC f w b) (I 10 6).toNat (by
    rintro j I2 hj ⟨he, hk⟩
    try dsimp only at he hk ⊢
    have hj' := nat_lt hj
    have g10 := he 10 (by omega) (by omega) (by omega)
    have g11 := he 11 (by omega) (by omega) (by omega)
    have g16 := he 16 (by omega) (by omega) (by omega)
    have g23 := he 23 (by omega) (by omega) (by omega)
    rw [b_76_5, g10, if_pos (by omega), b_76_17, lsum_s]
    by_cases c : j = i
    · rw [if_pos (by omega), b_76_80, wr_n1 (by omega)]
      refine ⟨I2, ?_, he, hk⟩
      have hz : pz (Lc f I (I 11 j) (I 16 i) (I 16 j) - I 23 3) = 0 := by
        unfold Lc
        rw [LV_z (by subst c; omega), pz_z h23.1]
      rw [hz, ite_self, Int.add_zero]
    · rw [if_neg (by omega), b_76_23]
      by_cases c2 : iand (ishr x j) 1 = 0
      · rw [if_pos c2, b_76_32, b_76_80, wr_n1 (by omega)]
        refine ⟨I2, ?_, he, hk⟩
        rw [if_neg (by simp [c2]), Int.add_zero]
      · obtain ⟨I3, k1, k2, k3⟩ := s_72 e w I2 J f (I 11 j) (I 16 i) (I 16 j) (by omega) hk (h11 j) (hs i hi) (hs j hj)
        rw [Lc_e he] at k1
        have g23' := k2 23 (by omega) (by omega) (by omega)
        have hL := Lc_R f I (I 11 j) (I 16 i) (I 16 j)
        have hR := lsum_R (voice := I 11) (q := I 16) (p := fun j => decide (iand (ishr x j) 1 ≠ 0)) (Lc_R f I) h23.1 i j
        rw [if_neg c2, b_76_35, if_pos (by omega), if_pos (by omega), if_pos (by omega), nat_i, nat_i, g11, g16, semK_of k1]
        simp only [mpush]
        refine ⟨I3, ?_, eC_t he k2, k3⟩
        rw [b_76_70, g23', g23, b_76_80, wr_n1 (by omega), wr_if (a := _ - _) (by omega)]
        have hif : (if decide (iand (ishr x j) 1 ≠ 0) = true then pz (Lc f I (I 11 j) (I 16 i) (I 16 j) - I 23 3) else 0) = pz (Lc f I (I 11 j) (I 16 i) (I 16 j) - I 23 3) := if_pos (by simp [c2])
        have hp : (if (0 : Int) < Lc f I (I 11 j) (I 16 i) (I 16 j) - I 23 3 then Lc f I (I 11 j) (I 16 i) (I 16 j) - I 23 3 else 0) = pz (Lc f I (I 11 j) (I 16 i) (I 16 j) - I 23 3) := rfl
        have hpR := pz_R (x := Lc f I (I 11 j) (I 16 i) (I 16 j) - I 23 3) (B := 99) (by omega) (by omega)
        rw [hif, hp, wr_if (by omega)]) I ⟨eC_r I, hK⟩
  try dsimp only at l1 l2 l3
  rw [e1] at l1
  have g10 := l2 10 (by omega) (by omega) (by omega)
  refine ⟨I1, l1.trans ?_, l2, l3⟩
  rw [b_76_5, g10, if_neg (by omega), b_76_86]
/-- the loudest voice to one who sits farther than x -/
def ldI (L : Int → Int → Int → Int) (far : Int → Int → Int) (voice q : Nat → Int) (x : Int) (i : Nat) (m : Int) : Nat → Int
  | 0 => m
  | j + 1 => if 0 ≤ q i ∧ 0 ≤ q j ∧ x < far (q i) (q j) then (if ldI L far voice q x i m j < L (voice j) (q i) (q j) then L (voice j) (q i) (q j) else ldI L far voice q x i m j) else ldI L far voice q x i m j
def ldO (L : Int → Int → Int → Int) (far : Int → Int → Int) (voice q : Nat → Int) (x : Int) (n : Nat) : Nat → Int
  | 0 => 0
  | i + 1 => ldI L far voice q x i (ldO L far voice q x n i) n
theorem s_77 (d : Nat) (w : Nat × Bool) (I J : Nat → Nat → Int) (f : Int → Int → Int → Int → Int) (x : Int) (hd : 12 ≤ d) (hx : 0 ≤ x) (hK : KC f w I) (hS : SC I) (hs : seR (I 16) (I 10 6).toNat) :
    ∃ I', semC d 77 [vr 23, vi x] (mk w I J) = some (some (vi (ldO (Lc f I) (fun a b => farI (I 5) (I 6) a.toNat b.toNat) (I 11) (I 16) x (I 10 6).toNat (I 10 6).toNat)), mk w I' J) ∧ eC I I' ∧ KC f w I' := by
  obtain ⟨e, rfl⟩ : ∃ e, d = e + 1 := ⟨d - 1, by omega⟩
  obtain ⟨hn, h11, h12, h23⟩ := id hS
  have e1 : ((I 10 6).toNat : Int) = I 10 6 := Int.toNat_of_nonneg hn.1
  rw [e_77, b_77_0]
  obtain ⟨⟨I1, z4, z5, z6⟩, l1, l2, l3⟩ := lpE (fun (i : Nat) (b : (Nat → Nat → Int) × Option mVal × Option mVal × Option mVal) => Sem e 77 4 [some (vr 23), some (vi x), some (vi (ldO (Lc f I) (fun a b => farI (I 5) (I 6) a.toNat b.toNat) (I 11) (I 16) x (I 10 6).toNat i)), some (vi (i : Int)), b.2.1, b.2.2.1, b.2.2.2] [] (mk w b.1 J)) (fun _ b => eC I b.1 ∧ KC f w b.1) (I 10 6).toNat (by
    rintro i ⟨I1, z4, z5, z6⟩ hi ⟨he, hk⟩
    try dsimp only at he hk ⊢
    have hi' := nat_lt hi
    have g10 := he 10 (by omega) (by omega) (by omega)
    rw [b_77_4, g10, if_pos (by omega), b_77_15]
    obtain ⟨⟨I2, y5, y6⟩, m1, m2, m3⟩ := lpE (fun (j : Nat) (b : (Nat → Nat → Int) × Option mVal × Option mVal) => Sem e 77 18 [some (vr 23), some (vi x), some (vi (ldI (Lc f I) (fun a b => farI (I 5) (I 6) a.toNat b.toNat) (I 11) (I 16) x i (ldO (Lc f I) (fun a b => farI (I 5) (I 6) a.toNat b.toNat) (I 11) (I 16) x (I 10 6).toNat i) j)), some (vi (i : Int)), some (vi (j : Int)), b.2.1, b.2.2] [] (mk w b.1 J)) (fun _ b => eC I b.1 ∧ KC f w b.1) (I 10 6).toNat (by
      rintro j ⟨I2, y5, y6⟩ hj ⟨he, hk⟩
      try dsimp only at he hk ⊢
      have hj' := nat_lt hj
      have qi := hs i hi
      have qj := hs j hj
      have g10 := he 10 (by omega) (by omega) (by omega)
      have g11 := he 11 (by omega) (by omega) (by omega)
      have g16 := he 16 (by omega) (by omega) (by omega)
      have g5 := he 5 (by omega) (by omega) (by omega)
      have g6 := he 6 (by omega) (by omega) (by omega)
      obtain ⟨-, -, p5, p6, -⟩ := hK.1
      rw [b_77_18, g10, if_pos (by omega), b_77_30, if_pos (by omega), if_pos (by omega), nat_i, nat_i, g16]
      have hno : ¬ (0 ≤ I 16 i ∧ 0 ≤ I 16 j ∧ x < farI (I 5) (I 6) (I 16 i).toNat (I 16 j).toNat) → ∃ b' : (Nat → Nat → Int) × Option mVal × Option mVal, Sem e 77 112 [some (vr 23), some (vi x), some (vi (ldI (Lc f I) (fun a b => farI (I 5) (I 6) a.toNat b.toNat) (I 11) (I 16) x i (ldO (Lc f I) (fun a b => farI (I 5) (I 6) a.toNat b.toNat) (I 11) (I 16) x (I 10 6).toNat i) j)), some (vi (i : Int)), some (vi (j : Int)), some (vi (I 16 i)), some (vi (I 16 j))] [] (mk w I2 J) = Sem e 77 18 [some (vr 23), some (vi x), some (vi (ldI (Lc f I) (fun a b => farI (I 5) (I 6) a.toNat b.toNat) (I 11) (I 16) x i (ldO (Lc f I) (fun a b => farI (I 5) (I 6) a.toNat b.toNat) (I 11) (I 16) x (I 10 6).toNat i) (j + 1))), some (vi (i : Int)), some (vi ((j + 1 : Nat) : Int)), b'.2.1, b'.2.2] [] (mk w b'.1 J) ∧ eC I b'.1 ∧ KC f w b'.1 := by
        intro h
        refine ⟨(I2, some (vi (I 16 i)), some (vi (I 16 j))), ?_, he, hk⟩
        rw [b_77_112, wr_n1 (by omega), ldI, if_neg h]
      by_cases c : j = i
      · rw [if_pos (by omega)]
        refine hno ?_
        subst c
        have : farI (I 5) (I 6) (I 16 j).toNat (I 16 j).toNat = 0 := by unfold farI ab; simp
        rw [this]
        omega
      · rw [if_neg (by omega), b_77_59]
        by_cases c1 : I 16 i = -1
        · rw [if_pos c1]
          exact hno (by omega)
        · rw [if_neg c1, b_77_65]
          by_cases c2 : I 16 j = -1
          · rw [if_pos c2, b_77_71]
            exact hno (by omega)
          · rw [if_neg c2, b_77_74, semK_of (s_27 _ _ _ _ _ _ (by omega) (by omega) (by omega) (by rw [g5]; exact p5) (by rw [g6]; exact p6)), g5, g6]
            simp only [mpush]
            rw [b_77_85]
            by_cases c3 : x < farI (I 5) (I 6) (I 16 i).toNat (I 16 j).toNat
            · obtain ⟨I3, k1, k2, k3⟩ := s_72 e w I2 J f (I 11 j) (I 16 i) (I 16 j) (by omega) hk (h11 j) qi qj
              rw [Lc_e he] at k1
              rw [if_pos c3, b_77_89, if_pos (by omega), nat_i, g11, semK_of k1]
              simp only [mpush]
              refine ⟨(I3, some (vi (I 16 i)), some (vi (I 16 j))), ?_, eC_t he k2, k3⟩
              have hc : 0 ≤ I 16 i ∧ 0 ≤ I 16 j ∧ x < farI (I 5) (I 6) (I 16 i).toNat (I 16 j).toNat := ⟨by omega, by omega, c3⟩
              rw [b_77_108, b_77_112, wr_n1 (by omega), ldI, if_pos hc]
            · rw [if_neg c3]
              exact hno (by omega)) (I1, z5, z6) ⟨he, hk⟩
    try dsimp only at m1 m2 m3
    rw [e1] at m1
    have g10' := m2 10 (by omega) (by omega) (by omega)
    refine ⟨(I2, some (vi (I 10 6)), y5, y6), m1.trans ?_, m2, m3⟩
    try dsimp only
    rw [b_77_18, g10', if_neg (by omega), b_77_118, wr_n1 (by omega)]
    rfl) (I, none, none, none) ⟨eC_r I, hK⟩
  try dsimp only at l1 l2 l3
  rw [e1] at l1
  have g10 := l2 10 (by omega) (by omega) (by omega)
  refine ⟨I1, l1.trans ?_, l2, l3⟩
  rw [b_77_4, g10, if_neg (by omega), b_77_124]
