/-! days of talk: the pure side and the class -/
theorem up2_up2 (I : Nat → Nat → Int) (c k : Nat) (a b : Int) : up2 (up2 I c k a) c k b = up2 I c k b := by
  funext c' j
  unfold up2
  split <;> rfl
theorem up2_id (I : Nat → Nat → Int) (c k : Nat) : up2 I c k (I c k) = I := by
  funext c' j
  unfold up2
  split
  · rename_i h; rw [h.1, h.2]
  · rfl
def lcg (s : Int) : Int := wr ((wr (s * 1103515245)) + 12345)
def drS (s : Int) : Nat → Int
  | 0 => s
  | i + 1 => lcg (drS s i)
def drB (talk : Nat → Int) (bt s : Int) : Nat → Int × Int
  | 0 => (0, 0)
  | i + 1 => if Int.tmod (iushr (drS s (i + 1)) 8) 100 < talk i then (if (drB talk bt s i).2 < bt then ((drB talk bt s i).1, (drB talk bt s i).2 + 1) else (ior (drB talk bt s i).1 (ishl 1 i), (drB talk bt s i).2 + 1)) else drB talk bt s i
theorem drB_s (talk : Nat → Int) (bt s : Int) (i : Nat) : drB talk bt s (i + 1) = if Int.tmod (iushr (drS s (i + 1)) 8) 100 < talk i then (if (drB talk bt s i).2 < bt then ((drB talk bt s i).1, (drB talk bt s i).2 + 1) else (ior (drB talk bt s i).1 (ishl 1 i), (drB talk bt s i).2 + 1)) else drB talk bt s i := rfl
theorem drB_R (talk : Nat → Int) (bt s : Int) : ∀ i : Nat, 0 ≤ (drB talk bt s i).2 ∧ (drB talk bt s i).2 ≤ i
  | 0 => ⟨Int.le_refl _, Int.le_refl _⟩
  | i + 1 => by
    have := drB_R talk bt s i
    rw [drB_s]
    repeat' split
    · show (0 : Int) ≤ (drB talk bt s i).2 + 1 ∧ (drB talk bt s i).2 + 1 ≤ _; omega
    · show (0 : Int) ≤ (drB talk bt s i).2 + 1 ∧ (drB talk bt s i).2 + 1 ≤ _; omega
    · omega
def dyS (n : Nat) (s : Int) : Nat → Int
  | 0 => s
  | m + 1 => drS (dyS n s m) n
/-- 1 where one is broken into in minute m -/
def hit (talk dist : Nat → Int) (bt : Int) (n : Nat) (s : Int) (m i : Nat) : Int := if iand (dist i) (drB talk bt (dyS n s m) n).1 = 0 then 0 else 1
theorem hit_R (talk dist : Nat → Int) (bt : Int) (n : Nat) (s : Int) (m i : Nat) : 0 ≤ hit talk dist bt n s m i ∧ hit talk dist bt n s m i ≤ 1 := by unfold hit; split <;> omega
def brk (talk dist : Nat → Int) (bt : Int) (n : Nat) (s : Int) (i m : Nat) : Int := sm (fun m => hit talk dist bt n s m i) m
def tot (talk dist : Nat → Int) (bt : Int) (n : Nat) (s : Int) (m : Nat) : Int := sm (fun m => sm (fun i => hit talk dist bt n s m i) n) m
theorem brk_s (talk dist : Nat → Int) (bt : Int) (n : Nat) (s : Int) (i m : Nat) : brk talk dist bt n s i (m + 1) = brk talk dist bt n s i m + hit talk dist bt n s m i := rfl
theorem tot_s (talk dist : Nat → Int) (bt : Int) (n : Nat) (s : Int) (m : Nat) : tot talk dist bt n s (m + 1) = tot talk dist bt n s m + sm (fun i => hit talk dist bt n s m i) n := rfl
theorem brk_R (talk dist : Nat → Int) (bt : Int) (n : Nat) (s : Int) (i m : Nat) : 0 ≤ brk talk dist bt n s i m ∧ brk talk dist bt n s i m ≤ (m : Int) * 1 := sm_R0 m (fun k _ => hit_R _ _ _ _ _ _ _)
theorem hits_R (talk dist : Nat → Int) (bt : Int) (n : Nat) (s : Int) (m k : Nat) : 0 ≤ sm (fun i => hit talk dist bt n s m i) k ∧ sm (fun i => hit talk dist bt n s m i) k ≤ (k : Int) * 1 := sm_R0 k (fun j _ => hit_R _ _ _ _ _ _ _)
theorem tot_R (talk dist : Nat → Int) (bt : Int) {n : Nat} (hn : n ≤ 10) (s : Int) (m : Nat) : 0 ≤ tot talk dist bt n s m ∧ tot talk dist bt n s m ≤ (m : Int) * 10 := sm_R0 m (fun k _ => by have := hits_R talk dist bt n s k n; omega)
/-- who disturbs whom -/
def dsb (L : Int → Int → Int → Int) (M : Int) (needs voice q : Nat → Int) (n i : Nat) : Int := iand (cb (clr L M voice q i) n) (ixor (needs i) (-1))
def eY (I I' : Nat → Nat → Int) : Prop := (∀ c, c ≠ 21 → c ≠ 22 → c ≠ 24 → c ≠ 32 → c ≠ 33 → c ≠ 34 → I' c = I c) ∧ ∀ k, k ≠ 5 → I' 32 k = I 32 k
theorem eY_r (I : Nat → Nat → Int) : eY I I := ⟨fun _ _ _ _ _ _ _ => rfl, fun _ _ => rfl⟩
theorem eY_t {I I' I'' : Nat → Nat → Int} (h : eY I I') (h' : eY I' I'') : eY I I'' := ⟨fun c a1 a2 a3 a4 a5 a6 => (h'.1 c a1 a2 a3 a4 a5 a6).trans (h.1 c a1 a2 a3 a4 a5 a6), fun k hk => (h'.2 k hk).trans (h.2 k hk)⟩
theorem eY_C {I I' : Nat → Nat → Int} (h : eC I I') : eY I I' := ⟨fun c a1 a2 a3 _ _ _ => h c a1 a2 a3, fun k _ => by rw [h 32 (by omega) (by omega) (by omega)]⟩
theorem eY_u {I I' : Nat → Nat → Int} (h : eY I I') (c k : Nat) (v : Int) (hc : c = 33 ∨ c = 34 ∨ (c = 32 ∧ k = 5)) : eY I (up2 I' c k v) := by
  refine ⟨fun c' a1 a2 a3 a4 a5 a6 => by rw [up2_ne _ _ _ (by omega), h.1 c' a1 a2 a3 a4 a5 a6], fun k' hk' => ?_⟩
  by_cases q : c = 32
  · subst q; rw [up2_sne _ _ _ (by omega), h.2 k' hk']
  · rw [up2_ne _ _ _ (by omega), h.2 k' hk']
theorem SC_y {I I' : Nat → Nat → Int} (hS : SC I) (h : eY I I') : SC I' := by
  unfold SC
  rw [h.1 10 (by omega) (by omega) (by omega) (by omega) (by omega) (by omega), h.1 11 (by omega) (by omega) (by omega) (by omega) (by omega) (by omega), h.1 12 (by omega) (by omega) (by omega) (by omega) (by omega) (by omega), h.1 23 (by omega) (by omega) (by omega) (by omega) (by omega) (by omega)]
  exact hS
theorem Lc_y {f : Int → Int → Int → Int → Int} {I I' : Nat → Nat → Int} (h : eY I I') : Lc f I' = Lc f I :=
  Lc_x (h.1 4 (by omega) (by omega) (by omega) (by omega) (by omega) (by omega)) (h.1 5 (by omega) (by omega) (by omega) (by omega) (by omega) (by omega)) (h.1 6 (by omega) (by omega) (by omega) (by omega) (by omega) (by omega)) (h.1 7 (by omega) (by omega) (by omega) (by omega) (by omega) (by omega)) (h.1 8 (by omega) (by omega) (by omega) (by omega) (by omega) (by omega)) (h.1 9 (by omega) (by omega) (by omega) (by omega) (by omega) (by omega)) (h.1 23 (by omega) (by omega) (by omega) (by omega) (by omega) (by omega))
theorem s_19 (d : Nat) (w : Nat × Bool) (I J : Nat → Nat → Int) (bt : Int) (hd : 1 ≤ d) (hn : 0 ≤ I 10 6 ∧ I 10 6 ≤ 10) : semC d 19 [vr 32, vi bt] (mk w I J) = some (some (vi (drB (I 15) bt (I 32 5) (I 10 6).toNat).1), mk w (up2 I 32 5 (drS (I 32 5) (I 10 6).toNat)) J) := by
  obtain ⟨e, rfl⟩ : ∃ e, d = e + 1 := ⟨d - 1, by omega⟩
  have e1 : ((I 10 6).toNat : Int) = I 10 6 := Int.toNat_of_nonneg hn.1
  rw [e_19, b_19_0]
  obtain ⟨-, l1, -⟩ := lpE (fun (i : Nat) (_ : Unit) => Sem e 19 7 [some (vr 32), some (vi bt), some (vi (drB (I 15) bt (I 32 5) i).1), some (vi (drB (I 15) bt (I 32 5) i).2), some (vi (i : Int))] [] (mk w (up2 I 32 5 (drS (I 32 5) i)) J)) (fun _ _ => True) (I 10 6).toNat (by
    intro i _ hi _
    have hi' := nat_lt hi
    have hR := drB_R (I 15) bt (I 32 5) i
    have u15 : ∀ v, up2 I 32 5 v 15 = I 15 := fun v => up2_ne _ _ _ (by omega)
    refine ⟨(), ?_, trivial⟩
    try dsimp only
    rw [b_19_7, up2_ne _ _ _ (by omega), if_pos (by omega), b_19_19, if_pos (by omega), nat_i, up2_s, up2_up2, u15, drB_s]
    have hl : wr ((wr ((drS (I 32 5) i) * 1103515245)) + 12345) = drS (I 32 5) (i + 1) := rfl
    rw [hl]
    by_cases c1 : Int.tmod (iushr (drS (I 32 5) (i + 1)) 8) 100 < I 15 i
    · rw [if_pos c1, if_pos c1, b_19_60]
      by_cases c2 : (drB (I 15) bt (I 32 5) i).2 < bt
      · rw [if_pos c2, if_pos c2, b_19_72, b_19_75, wr_n1 (by omega), wr_if (by omega)]
      · rw [if_neg c2, if_neg c2, b_19_65, b_19_72, b_19_75, wr_n1 (by omega), wr_if (by omega)]
    · rw [if_neg c1, if_neg c1, b_19_57, b_19_75, wr_n1 (by omega)]) () trivial
  try dsimp only at l1
  rw [e1] at l1
  have l1' : Sem e 19 7 [some (vr 32), some (vi bt), some (vi 0), some (vi 0), some (vi 0)] [] (mk w (up2 I 32 5 (I 32 5)) J) = _ := l1
  rw [up2_id] at l1'
  rw [l1', b_19_7, up2_ne _ _ _ (by omega), if_neg (by omega), b_19_81]
/-- one minute of the class -/
theorem mi_c (d : Nat) (w : Nat × Bool) (I J : Nat → Nat → Int) (e : Nat) (b : Nat → Nat → Int) (x1 x2 x3 x5 s : Int) (dist : Nat → Int) (m : Nat) (he : 1 ≤ e) (hn : 0 ≤ I 10 6 ∧ I 10 6 ≤ 10) (hm : m < 1000) (hx : eY I b) (h32 : b 32 5 = dyS (I 10 6).toNat s m) (h34 : agr (I 10 6).toNat (b 34) dist) (h33 : ∀ i, i < (I 10 6).toNat → b 33 i = brk (I 15) dist x3 (I 10 6).toNat s i m) (u6 u7 : Option mVal) :
    ∃ b' y6 y7, Sem e 18 75 [some (vr 32), some (vi x1), some (vi x2), some (vi x3), some (vi (tot (I 15) dist x3 (I 10 6).toNat s m)), some (vi (m : Int)), u6, u7] [] (mk w b J) = Sem e 18 69 [some (vr 32), some (vi x1), some (vi x2), some (vi x3), some (vi (tot (I 15) dist x3 (I 10 6).toNat s (m + 1))), some (vi ((m + 1 : Nat) : Int)), y6, y7] [] (mk w b' J) ∧ eY I b' ∧ b' 24 = b 24 ∧ (∀ c, c < 26 → c ≠ 32 → b' c = b c) ∧ b' 32 5 = dyS (I 10 6).toNat s (m + 1) ∧ b' 34 = b 34 ∧ ∀ i, i < (I 10 6).toNat → b' 33 i = brk (I 15) dist x3 (I 10 6).toNat s i (m + 1) := by
  have e1 : ((I 10 6).toNat : Int) = I 10 6 := Int.toNat_of_nonneg hn.1
  have g10 := hx.1 10 (by omega) (by omega) (by omega) (by omega) (by omega) (by omega)
  have g15 := hx.1 15 (by omega) (by omega) (by omega) (by omega) (by omega) (by omega)
  have k19 := s_19 e w b J x3 he (by rw [g10]; exact hn)
  rw [g10, g15, h32] at k19
  rw [b_18_75, semK_of k19]
  simp only [mpush]
  rw [b_18_80]
  have hb0 : eY I (up2 b 32 5 (drS (dyS (I 10 6).toNat s m) (I 10 6).toNat)) := eY_u hx 32 5 _ (by omega)
  obtain ⟨b1, l1, l2, l3, l4, l5, l6⟩ := lpE (fun (i : Nat) (c : Nat → Nat → Int) => Sem e 18 85 [some (vr 32), some (vi x1), some (vi x2), some (vi x3), some (vi (tot (I 15) dist x3 (I 10 6).toNat s m + sm (fun i => hit (I 15) dist x3 (I 10 6).toNat s m i) i)), some (vi (m : Int)), some (vi (drB (I 15) x3 (dyS (I 10 6).toNat s m) (I 10 6).toNat).1), some (vi (i : Int))] [] (mk w c J)) (fun i c => eY I c ∧ (∀ cc, cc < 26 → cc ≠ 32 → c cc = b cc) ∧ c 32 5 = dyS (I 10 6).toNat s (m + 1) ∧ c 34 = b 34 ∧ ∀ j, j < (I 10 6).toNat → c 33 j = if j < i then brk (I 15) dist x3 (I 10 6).toNat s j (m + 1) else brk (I 15) dist x3 (I 10 6).toNat s j m) (I 10 6).toNat (by
    rintro i c hi ⟨p1, p2, p3, p4, p5⟩
    try dsimp only at p1 p2 p3 p4 p5 ⊢
    have hi' := nat_lt hi
    have c10 := p1.1 10 (by omega) (by omega) (by omega) (by omega) (by omega) (by omega)
    have hR1 := tot_R (I 15) dist x3 (n := (I 10 6).toNat) (by omega) s m
    have hR2 := hits_R (I 15) dist x3 (I 10 6).toNat s m i
    have hR3 := brk_R (I 15) dist x3 (I 10 6).toNat s i m
    have p5i := p5 i hi
    rw [if_neg (by omega)] at p5i
    rw [b_18_85, c10, if_pos (by omega), b_18_97, if_pos (by omega), nat_i, p4, h34 i hi, sm_s]
    by_cases cc : iand (dist i) (drB (I 15) x3 (dyS (I 10 6).toNat s m) (I 10 6).toNat).1 = 0
    · have hz : hit (I 15) dist x3 (I 10 6).toNat s m i = 0 := by unfold hit; rw [if_pos cc]
      rw [if_pos cc, b_18_110, b_18_127, wr_n1 (by omega), hz, Int.add_zero]
      refine ⟨c, rfl, p1, p2, p3, p4, ?_⟩
      intro j hj
      rw [p5 j hj]
      by_cases cj : j = i
      · subst cj; rw [if_neg (by omega), if_pos (by omega), brk_s, hz, Int.add_zero]
      · by_cases cl : j < i
        · rw [if_pos cl, if_pos (by omega)]
        · rw [if_neg cl, if_neg (by omega)]
    · have hz : hit (I 15) dist x3 (I 10 6).toNat s m i = 1 := by unfold hit; rw [if_neg cc]
      rw [if_neg cc, b_18_113, if_pos (by omega), if_pos (by omega), nat_i, p5i, b_18_127, wr_n1 (by omega), hz, wr_if (a := _ + 1) (by omega), wr_if (by omega)]
      refine ⟨up2 c 33 i (brk (I 15) dist x3 (I 10 6).toNat s i m + 1), by rw [Int.add_assoc], eY_u p1 33 i _ (by omega), ?_, ?_, ?_, ?_⟩
      · intro cc' h1 h2; rw [up2_ne _ _ _ (by omega), p2 cc' h1 h2]
      · rw [up2_ne _ _ _ (by omega), p3]
      · rw [up2_ne _ _ _ (by omega), p4]
      · intro j hj
        by_cases cj : j = i
        · subst cj; rw [up2_s, if_pos (by omega), brk_s, hz]
        · rw [up2_sne _ _ _ cj, p5 j hj]
          by_cases cl : j < i
          · rw [if_pos cl, if_pos (by omega)]
          · rw [if_neg cl, if_neg (by omega)]) (up2 b 32 5 (drS (dyS (I 10 6).toNat s m) (I 10 6).toNat)) ⟨hb0, fun c h1 h2 => up2_ne _ _ _ h2, up2_s _ _ _ _, up2_ne _ _ _ (by omega), fun j hj => by rw [up2_ne _ _ _ (by omega), if_neg (by omega)]; exact h33 j hj⟩
  try dsimp only at l1 l2 l3 l4 l5 l6
  rw [e1] at l1
  have l1' : Sem e 18 85 [some (vr 32), some (vi x1), some (vi x2), some (vi x3), some (vi (tot (I 15) dist x3 (I 10 6).toNat s m + 0)), some (vi (m : Int)), some (vi (drB (I 15) x3 (dyS (I 10 6).toNat s m) (I 10 6).toNat).1), some (vi 0)] [] (mk w (up2 b 32 5 (drS (dyS (I 10 6).toNat s m) (I 10 6).toNat)) J) = _ := l1
  rw [Int.add_zero] at l1'
  rw [l1', b_18_85, l2.1 10 (by omega) (by omega) (by omega) (by omega) (by omega) (by omega), if_neg (by omega), b_18_133, wr_n1 (by omega)]
  refine ⟨b1, _, _, rfl, l2, l3 24 (by omega) (by omega), l3, l4, l5, ?_⟩
  intro i hi
  rw [l6 i hi, if_pos hi]
def TC (f : Int → Int → Int → Int → Int) (I : Nat → Nat → Int) (bt s : Int) (m : Nat) : Int := tot (I 15) (dsb (Lc f I) (I 23 3) (I 13) (I 11) (I 16) (I 10 6).toNat) bt (I 10 6).toNat s m
def BC (f : Int → Int → Int → Int → Int) (I : Nat → Nat → Int) (bt s : Int) (i m : Nat) : Int := brk (I 15) (dsb (Lc f I) (I 23 3) (I 13) (I 11) (I 16) (I 10 6).toNat) bt (I 10 6).toNat s i m
theorem KC_y {f : Int → Int → Int → Int → Int} {w : Nat × Bool} {I I' : Nat → Nat → Int} (h : KC f w I) (he : ∀ c, c < 26 → c ≠ 32 → I' c = I c) : KC f w I' :=
  KC_x h (he _ (by omega) (by omega)) (he _ (by omega) (by omega)) (he _ (by omega) (by omega)) (he _ (by omega) (by omega)) (he _ (by omega) (by omega)) (he _ (by omega) (by omega)) (he _ (by omega) (by omega)) (he _ (by omega) (by omega)) (he _ (by omega) (by omega)) (he _ (by omega) (by omega)) (he _ (by omega) (by omega))
theorem s_18 (d : Nat) (w : Nat × Bool) (I J : Nat → Nat → Int) (f : Int → Int → Int → Int → Int) (b : Nat → Nat → Int) (s bt : Int) (mn : Nat) (hd : 13 ≤ d) (hS : SC I) (hs : seR (I 16) (I 10 6).toNat) (hx : eY I b) (hk : KC f w b) (hm : mn ≤ 100) :
    ∃ b', semC d 18 [vr 32, vi s, vi mn, vi bt] (mk w b J) = some (some (vi (TC f I bt s mn)), mk w b' J) ∧ eY I b' ∧ KC f w b' ∧ ∀ i, i < (I 10 6).toNat → b' 33 i = BC f I bt s i mn := by
  obtain ⟨e, rfl⟩ : ∃ e, d = e + 1 := ⟨d - 1, by omega⟩
  obtain ⟨hn, h11, h12, h23⟩ := id hS
  have e1 : ((I 10 6).toNat : Int) = I 10 6 := Int.toNat_of_nonneg hn.1
  rw [e_18, b_18_0]
  obtain ⟨b1, l1, l2, l3, l4, l5⟩ := lpE (fun (i : Nat) (c : Nat → Nat → Int) => Sem e 18 3 [some (vr 32), some (vi s), some (vi (mn : Int)), some (vi bt), some (vi (i : Int)), none, none, none] [] (mk w c J)) (fun i c => eY I c ∧ KC f w c ∧ (∀ j, j < i → c 33 j = 0) ∧ ∀ j, j < i → c 34 j = dsb (Lc f I) (I 23 3) (I 13) (I 11) (I 16) (I 10 6).toNat j) (I 10 6).toNat (by
    rintro i c hi ⟨p1, p2, p3, p4⟩
    try dsimp only at p1 p2 p3 p4 ⊢
    have hi' := nat_lt hi
    have c10 := p1.1 10 (by omega) (by omega) (by omega) (by omega) (by omega) (by omega)
    have hx1 : eY I (up2 c 33 i 0) := eY_u p1 33 i 0 (by omega)
    have q33 : ∀ j, j < i + 1 → up2 c 33 i 0 33 j = 0 := fun j hj => by
      by_cases cj : j = i
      · rw [cj, up2_s]
      · rw [up2_sne _ _ _ cj]; exact p3 j (by omega)
    have q34 : up2 c 33 i 0 34 = c 34 := up2_ne _ _ _ (by omega)
    have hk1 : KC f w (up2 c 33 i 0) := KC_u p2 33 i 0 (by omega)
    rw [b_18_3, c10, if_pos (by omega), b_18_15, if_pos (by omega), nat_i]
    generalize up2 c 33 i 0 = c1 at hx1 q33 q34 hk1
    have c10' := hx1.1 10 (by omega) (by omega) (by omega) (by omega) (by omega) (by omega)
    have c16 := hx1.1 16 (by omega) (by omega) (by omega) (by omega) (by omega) (by omega)
    obtain ⟨c2, k1, k2, k3⟩ := s_75 e w c1 J f i (by omega) hk1 (SC_y hS hx1) (by rw [c10']; exact hi) (by rw [c10', c16]; exact hs)
    rw [Lc_y hx1, c10', c16, hx1.1 11 (by omega) (by omega) (by omega) (by omega) (by omega) (by omega), hx1.1 23 (by omega) (by omega) (by omega) (by omega) (by omega) (by omega)] at k1
    rw [semK_of k1]
    simp only [mpush]
    rw [b_18_38, if_pos (by omega), if_pos (by omega), nat_i, wr_n1 (by omega), k2 13 (by omega) (by omega) (by omega), hx1.1 13 (by omega) (by omega) (by omega) (by omega) (by omega) (by omega)]
    refine ⟨_, rfl, eY_u (eY_t hx1 (eY_C k2)) 34 i _ (by omega), KC_u k3 34 i _ (by omega), ?_, ?_⟩
    · intro j hj
      rw [up2_ne _ _ _ (by omega), k2 33 (by omega) (by omega) (by omega)]; exact q33 j hj
    · intro j hj
      by_cases cj : j = i
      · subst cj; rw [up2_s]; rfl
      · rw [up2_sne _ _ _ cj, k2 34 (by omega) (by omega) (by omega), q34]; exact p4 j (by omega)) b ⟨hx, hk, fun j hj => absurd hj (by omega), fun j hj => absurd hj (by omega)⟩
  try dsimp only at l1 l2 l3 l4 l5
  rw [e1] at l1
  have l1' : Sem e 18 3 [some (vr 32), some (vi s), some (vi (mn : Int)), some (vi bt), some (vi 0), none, none, none] [] (mk w b J) = _ := l1
  rw [l1', b_18_3, l2.1 10 (by omega) (by omega) (by omega) (by omega) (by omega) (by omega), if_neg (by omega), b_18_58]
  obtain ⟨⟨b2, z6, z7⟩, m1, m2, m3, m4, m5, m6⟩ := lpE (fun (m : Nat) (c : (Nat → Nat → Int) × Option mVal × Option mVal) => Sem e 18 69 [some (vr 32), some (vi s), some (vi (mn : Int)), some (vi bt), some (vi (TC f I bt s m)), some (vi (m : Int)), c.2.1, c.2.2] [] (mk w c.1 J)) (fun m c => eY I c.1 ∧ KC f w c.1 ∧ c.1 32 5 = dyS (I 10 6).toNat s m ∧ agr (I 10 6).toNat (c.1 34) (dsb (Lc f I) (I 23 3) (I 13) (I 11) (I 16) (I 10 6).toNat) ∧ ∀ i, i < (I 10 6).toNat → c.1 33 i = BC f I bt s i m) mn (by
    rintro m ⟨c, z6, z7⟩ hm' ⟨p1, p2, p3, p4, p5⟩
    try dsimp only at p1 p2 p3 p4 p5 ⊢
    obtain ⟨c1, y6, y7, k1, k2, k3, k4, k5, k6, k7⟩ := mi_c e w I J e c s mn bt 0 s (dsb (Lc f I) (I 23 3) (I 13) (I 11) (I 16) (I 10 6).toNat) m (by omega) hn (by omega) p1 p3 p4 p5 z6 z7
    refine ⟨(c1, y6, y7), ?_, k2, KC_y p2 k4, k5, ?_, k7⟩
    · try dsimp only
      unfold TC
      rw [b_18_69, if_pos (by omega), k1]
    · show agr _ (c1 34) _
      rw [k6]; exact p4) (up2 b1 32 5 s, none, none) ⟨eY_u l2 32 5 s (by omega), KC_u l3 32 5 s (by omega), up2_s b1 32 5 s, fun j hj => (congrFun (up2_ne b1 5 s (show (34 : Nat) ≠ 32 by omega)) j).trans (l5 j hj), fun j hj => (congrFun (up2_ne b1 5 s (show (33 : Nat) ≠ 32 by omega)) j).trans (l4 j hj)⟩
  try dsimp only at m1 m2 m3 m4 m5 m6
  have m1' : Sem e 18 69 [some (vr 32), some (vi s), some (vi (mn : Int)), some (vi bt), some (vi 0), some (vi 0), none, none] [] (mk w (up2 b1 32 5 s) J) = _ := m1
  refine ⟨b2, ?_, m2, m3, m6⟩
  rw [m1', b_18_69, if_neg (by omega), b_18_139]
def brokR (n : Int) (T : Int) (B : Nat → Int) (x y : Int) : Int := if (1 ≤ x ∧ x ≤ 100) ∧ (y = -1 ∨ (0 ≤ y ∧ y < n)) then (if y = -1 then T else B y.toNat) else -1
theorem s_114 (d : Nat) (w : Nat × Bool) (I J : Nat → Nat → Int) (f : Int → Int → Int → Int → Int) (s x y : Int) (hd : 14 ≤ d) (hK : KC f w I) (hS : SC I) (hs : seR (I 16) (I 10 6).toNat) :
    ∃ I', semC d 114 [vr 3, vi s, vi x, vi y] (mk w I J) = some (some (vi (brokR (I 10 6) (TC f I (I 32 2) s x.toNat) (fun i => BC f I (I 32 2) s i x.toNat) x y)), mk w I' J) ∧ eY I I' ∧ KC f w I' := by
  obtain ⟨e, rfl⟩ : ∃ e, d = e + 1 := ⟨d - 1, by omega⟩
  have hn := hS.1
  rw [e_114]
  unfold brokR
  by_cases c1 : 1 ≤ x ∧ x ≤ 100
  · by_cases c2 : y = -1 ∨ (0 ≤ y ∧ y < I 10 6)
    · rw [if_pos ⟨c1, c2⟩]
      obtain ⟨b, k1, k2, k3, k4⟩ := s_18 e w I J f I s (I 32 2) x.toNat (by omega) hS hs (eY_r I) hK (by omega)
      rw [show ((x.toNat : Nat) : Int) = x by omega] at k1
      refine ⟨b, ?_, k2, k3⟩
      by_cases c3 : y = -1
      · rw [if_pos c3]
        simp (disch := omega) only [b_114_0, b_114_7, b_114_12, b_114_30, b_114_46, b_114_53, b_114_67, s_133 _ _ _ _ _ _ _ _, semK, Option.bind_some, mpush, wr_if, wr_tdiv, if_pos, if_neg, ↓reduceIte, b2_t, b2_f, Bool.false_eq_true, up2_ne, up2_sne, up2_s, true_or, or_true, true_and, and_true, false_and, and_false, false_or, or_false, k1]
      · rw [if_neg c3]
        simp (disch := omega) only [b_114_0, b_114_7, b_114_12, b_114_17, b_114_25, b_114_30, b_114_46, b_114_58, b_114_67, s_133 _ _ _ _ _ _ _ _, s_80 _ _ _ _ _ _, semK, Option.bind_some, mpush, wr_if, wr_tdiv, if_pos, if_neg, ↓reduceIte, b2_t, b2_f, Bool.false_eq_true, up2_ne, up2_sne, up2_s, true_or, or_true, true_and, and_true, false_and, and_false, false_or, or_false, k1]
        rw [k4 _ (by omega)]
    · refine ⟨I, ?_, eY_r I, hK⟩
      simp (disch := omega) only [b_114_0, b_114_7, b_114_12, b_114_17, b_114_25, b_114_28, s_133 _ _ _ _ _ _ _ _, s_80 _ _ _ _ _ _, semK, Option.bind_some, mpush, wr_if, wr_tdiv, if_pos, if_neg, ↓reduceIte, b2_t, b2_f, Bool.false_eq_true, up2_ne, up2_sne, up2_s, true_or, or_true, true_and, and_true, false_and, and_false, false_or, or_false]
  · refine ⟨I, ?_, eY_r I, hK⟩
    simp (disch := omega) only [b_114_0, b_114_7, b_114_10, s_133 _ _ _ _ _ _ _ _, semK, Option.bind_some, mpush, wr_if, wr_tdiv, if_pos, if_neg, ↓reduceIte, b2_t, b2_f, Bool.false_eq_true, up2_ne, up2_sne, up2_s, true_or, or_true, true_and, and_true, false_and, and_false, false_or, or_false]
def boothR (T : Int → Int) (x y : Int) : Int := if (1 ≤ x ∧ x ≤ 100) ∧ (0 ≤ y ∧ y ≤ 1000) then (match fnd (fun k => decide (T k ≤ y)) 10 with
  | some k => (k : Int)
  | none => -2) else -1
theorem s_115 (d : Nat) (w : Nat × Bool) (I J : Nat → Nat → Int) (f : Int → Int → Int → Int → Int) (s x y : Int) (hd : 14 ≤ d) (hK : KC f w I) (hS : SC I) (hs : seR (I 16) (I 10 6).toNat) :
    ∃ I', semC d 115 [vr 3, vi s, vi x, vi y] (mk w I J) = some (some (vi (boothR (fun k => TC f I k s x.toNat) x y)), mk w I' J) ∧ eY I I' ∧ KC f w I' := by
  obtain ⟨e, rfl⟩ : ∃ e, d = e + 1 := ⟨d - 1, by omega⟩
  have hn := hS.1
  rw [e_115]
  unfold boothR
  by_cases c1 : 1 ≤ x ∧ x ≤ 100
  · by_cases c2 : 0 ≤ y ∧ y ≤ 1000
    · rw [if_pos ⟨c1, c2⟩, b_115_0, semK_of (s_133 _ _ _ _ _ _ _ (by omega)), if_pos c1]
      simp only [mpush]
      rw [b_115_7, if_neg (by omega), b_115_10, semK_of (s_133 _ _ _ _ _ _ _ (by omega)), if_pos c2]
      simp only [mpush]
      rw [b_115_18, if_neg (by omega), b_115_23]
      refine lpQ (fun (k : Nat) (b : Nat → Nat → Int) => Sem e 115 26 [some (vr 3), some (vi s), some (vi x), some (vi y), some (vi (k : Int))] [] (mk w b J)) (fun k b => eY I b ∧ KC f w b ∧ ∀ j, j < k → decide (TC f I (j : Int) s x.toNat ≤ y) = false) (fun o => ∃ I', o = some (some (vi (match fnd (fun k => decide (TC f I (k : Int) s x.toNat ≤ y)) 10 with | some k => (k : Int) | none => -2)), mk w I' J) ∧ eY I I' ∧ KC f w I') 10 ?_ ?_ I ⟨eY_r I, hK, fun j hj => absurd hj (by omega)⟩
      · rintro k b hk ⟨p1, p2, p3⟩
        try dsimp only at p1 p2 p3 ⊢
        obtain ⟨b', k1, k2, k3, -⟩ := s_18 e w I J f b s k x.toNat (by omega) hS hs p1 p2 (by omega)
        rw [show ((x.toNat : Nat) : Int) = x by omega] at k1
        rw [b_115_26, if_neg (by omega), b_115_33, semK_of k1]
        simp only [mpush]
        rw [b_115_44]
        by_cases c : y < TC f I (k : Int) s x.toNat
        · left
          rw [if_pos c, b_115_51, wr_n1 (by omega)]
          refine ⟨b', rfl, k2, k3, ?_⟩
          intro j hj
          by_cases cj : j = k
          · subst cj; exact decide_eq_false (by omega)
          · exact p3 j (by omega)
        · right
          rw [if_neg c, b_115_48, fnd_eq (p := fun k => decide (TC f I (k : Int) s x.toNat ≤ y)) (decide_eq_true (by omega)) p3 10 hk]
          exact ⟨b', rfl, k2, k3⟩
      · rintro b ⟨p1, p2, p3⟩
        try dsimp only at p1 p2 p3 ⊢
        rw [b_115_26, if_pos (by omega), b_115_57, fnd_no (p := fun k => decide (TC f I (k : Int) s x.toNat ≤ y)) p3]
        exact ⟨b, rfl, p1, p2⟩
    · refine ⟨I, ?_, eY_r I, hK⟩
      simp (disch := omega) only [b_115_0, b_115_7, b_115_10, b_115_18, b_115_21, s_133 _ _ _ _ _ _ _ _, semK, Option.bind_some, mpush, wr_if, wr_tdiv, if_pos, if_neg, ↓reduceIte, b2_t, b2_f, Bool.false_eq_true, up2_ne, up2_sne, up2_s, true_or, or_true, true_and, and_true, false_and, and_false, false_or, or_false]
  · refine ⟨I, ?_, eY_r I, hK⟩
    simp (disch := omega) only [b_115_0, b_115_7, b_115_21, s_133 _ _ _ _ _ _ _ _, semK, Option.bind_some, mpush, wr_if, wr_tdiv, if_pos, if_neg, ↓reduceIte, b2_t, b2_f, Bool.false_eq_true, up2_ne, up2_sne, up2_s, true_or, or_true, true_and, and_true, false_and, and_false, false_or, or_false]
