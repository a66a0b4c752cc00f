/-! what a law gives: the class -/
theorem s_48 (d : Nat) (w : Nat × Bool) (I J : Nat → Nat → Int) (a u t : Int) (hd : 1 ≤ d) (ha : lvl a < 5) : semC d 48 [vi a, vi u, vi t] (mk w I J) = some (some (vi (bop a u t)), mk w I J) := by
  obtain ⟨e, rfl⟩ : ∃ e, d = e + 1 := ⟨d - 1, by omega⟩
  have hl : a = 124 ∨ a = 38 ∨ a = 60 ∨ a = 61 ∨ a = 62 ∨ a = 43 ∨ a = 45 ∨ a = 42 ∨ a = 47 ∨ a = 37 := by
    unfold lvl at ha
    by_cases h : a = 124 ∨ a = 38 ∨ a = 60 ∨ a = 61 ∨ a = 62 ∨ a = 43 ∨ a = 45 ∨ a = 42 ∨ a = 47 ∨ a = 37
    · exact h
    · exfalso
      rw [if_neg (by omega), if_neg (by omega), if_neg (by omega), if_neg (by omega), if_neg (by omega)] at ha
      omega
  rw [e_48]
  unfold bop
  rcases hl with rfl | rfl | rfl | rfl | rfl | rfl | rfl | rfl | rfl | rfl
  all_goals by_cases c1 : u = 0 <;> by_cases c2 : t = 0 <;> by_cases c3 : u < t <;> by_cases c4 : t < u <;> by_cases c5 : u = t
  all_goals simp (disch := omega) only [b_48_0, b_48_84, b_48_88, b_48_92, b_48_96, b_48_97, b_48_98, b_48_102, b_48_106, b_48_110, b_48_111, b_48_112, b_48_117, b_48_121, b_48_122, b_48_123, b_48_128, b_48_132, b_48_133, b_48_134, b_48_139, b_48_143, b_48_144, b_48_145, b_48_149, b_48_153, b_48_157, b_48_161, b_48_165, b_48_168, b_48_169, b_48_173, b_48_177, b_48_180, if_pos, if_neg, ↓reduceIte, c1, c2, c3, c4, c5, Int.reduceEq, true_or, or_true, or_false, false_or, and_true, true_and, and_false, false_and, or_self, and_self] <;> (try omega)
def rep (row : Nat → Int) : List Int → Prop
  | [] => True
  | t :: s => row s.length = t ∧ rep row s
theorem rep_x {row row' : Nat → Int} : ∀ s : List Int, (∀ i, i < s.length → row' i = row i) → rep row s → rep row' s
  | [], _, _ => trivial
  | t :: s, h, hr => ⟨(h s.length (by show s.length < s.length + 1; omega)).trans hr.1, rep_x s (fun i hi => h i (by show i < s.length + 1; omega)) hr.2⟩
theorem st1_len (env : Nat → Int) (c : Int × Int) (s : List Int) (h : okh c s.length) (hc : cok c) : (st1 env c s).length = hgt c s.length := by
  unfold st1 hgt
  by_cases c1 : c.1 = 1
  · rw [if_pos c1, if_pos (Or.inl c1)]; rfl
  · by_cases c2 : c.1 = 2
    · rw [if_neg c1, if_pos c2, if_pos (Or.inr c2)]; rfl
    · rw [if_neg c1, if_neg c2, if_neg (by omega)]
      cases s with
      | nil =>
        exfalso
        unfold okh at h
        have h0 : ([] : List Int).length = 0 := rfl
        rw [h0] at h
        omega
      | cons t s =>
        show (if c.1 = 3 then _ else if c.1 = 4 then _ else _ : List Int).length = _
        by_cases c3 : c.1 = 3
        · rw [if_pos c3, if_pos (Or.inl c3)]; rfl
        · by_cases c4 : c.1 = 4
          · rw [if_neg c3, if_pos c4, if_pos (Or.inr c4)]; rfl
          · rw [if_neg c3, if_neg c4, if_neg (by omega)]
            cases s with
            | nil =>
              exfalso
              unfold okh at h
              have h0 : ([t] : List Int).length = 1 := rfl
              rw [h0] at h
              omega
            | cons u s => rfl
/-- the class's heap while it reckons -/
def eK (b b' : Nat → Nat → Int) : Prop := ∀ c, c ≠ 21 → b' c = b c
theorem eK_r (b : Nat → Nat → Int) : eK b b := fun _ _ => rfl
theorem eK_t {b b' b'' : Nat → Nat → Int} (h : eK b b') (h' : eK b' b'') : eK b b'' := fun c a => (h' c a).trans (h c a)
theorem eK_u (b : Nat → Nat → Int) (k : Nat) (v : Int) : eK b (up2 b 21 k v) := fun c a => up2_ne _ _ _ a
/-- one act -/
theorem rn_1 (d : Nat) (w : Nat × Bool) (I J : Nat → Nat → Int) (e : Nat) (b : Nat → Nat → Int) (x1 x2 x3 x4 : Int) (q N : Nat) (c : Int × Int) (s : List Int) (u7 u8 : Option mVal) (he : 1 ≤ e) (hN : b 17 5 = (N : Int)) (hN1 : N ≤ 121) (hq : q < N) (hc : cok c) (ho : okh c s.length) (hs : s.length + 1 ≤ 121) (hst : b (wst w) q = enc c) (hr : rep (b 21) s) :
    ∃ b' v7 v8, Sem e 47 55 [some (vr 17), some (vi x1), some (vi x2), some (vi x3), some (vi x4), some (vi ((s.length : Int) - 1)), some (vi (q : Int)), u7, u8] [] (mk w b J) = Sem e 47 55 [some (vr 17), some (vi x1), some (vi x2), some (vi x3), some (vi x4), some (vi (((st1 (b 22) c s).length : Int) - 1)), some (vi ((q + 1 : Nat) : Int)), v7, v8] [] (mk w b' J) ∧ eK b b' ∧ rep (b' 21) (st1 (b 22) c s) := by
  have hw := wst_or w
  rw [b_47_55, hN, if_pos (by omega), b_47_64, wst_T, if_pos (Or.inl rfl), if_pos (show 0 ≤ (q : Int) ∧ (q : Int) < ((121 : Nat) : Int) by omega), if_pos (Or.inl rfl), if_pos (show 0 ≤ (q : Int) ∧ (q : Int) < ((121 : Nat) : Int) by omega), nat_i, hst]
  obtain ⟨a, z⟩ := c
  rcases hc with ⟨h1, h2⟩ | ⟨h1, h2⟩ | ⟨h1, h2⟩ | ⟨h1, h2⟩ | ⟨h1, h2, h3, h4⟩
  · try dsimp only at h1 h2
    subst h1
    obtain ⟨m, rfl⟩ : ∃ m : Nat, z = m := ⟨z.toNat, by omega⟩
    have hen : enc (1, (m : Int)) = ((256 * m + 1 : Nat) : Int) := by unfold enc; rw [if_pos rfl]; show 256 * (m : Int) + 1 = _; omega
    rw [hen, iand255 _ (by omega), ishr8 _ (by omega), show (256 * m + 1) % 256 = 1 by omega, show (256 * m + 1) / 256 = m by omega]
    rw [show (((1 : Nat)) : Int) = 1 from rfl, if_pos rfl, b_47_101, wr_if (by omega), if_pos (by omega), b_47_115, if_pos rfl, b_47_130, b_47_144, wr_if (by omega), if_pos (by omega), b_47_298, wr_n1 (by omega)]
    have hl : ((st1 (b 22) (1, (m : Int)) s).length : Int) - 1 = (s.length : Int) - 1 + 1 := by
      show ((s.length + 1 : Nat) : Int) - 1 = _
      omega
    rw [hl]
    refine ⟨_, _, _, rfl, eK_u _ _ _, ?_⟩
    rw [show ((s.length : Int) - 1 + 1).toNat = s.length by omega]
    exact ⟨up2_s _ _ _ _, rep_x s (fun i hi => up2_sne _ _ _ (by omega)) hr⟩
  · try dsimp only at h1 h2
    subst h1
    obtain ⟨m, rfl⟩ : ∃ m : Nat, z = m := ⟨z.toNat, by omega⟩
    have hen : enc (2, (m : Int)) = ((256 * m + 2 : Nat) : Int) := by unfold enc; rw [if_neg (by show ¬ (2 : Int) = 1; omega), if_pos rfl]; show 256 * (m : Int) + 2 = _; omega
    rw [hen, iand255 _ (by omega), ishr8 _ (by omega), show (256 * m + 2) % 256 = 2 by omega, show (256 * m + 2) / 256 = m by omega]
    rw [show (((2 : Nat)) : Int) = 2 from rfl, if_neg (by omega), b_47_95, if_pos rfl, b_47_101, wr_if (by omega), if_pos (by omega), b_47_115, if_neg (by omega), b_47_135, iand3 m (by omega), if_pos (by omega), nat_i, b_47_144, wr_if (by omega), if_pos (by omega), b_47_298, wr_n1 (by omega)]
    have hl : ((st1 (b 22) (2, (m : Int)) s).length : Int) - 1 = (s.length : Int) - 1 + 1 := by
      show ((s.length + 1 : Nat) : Int) - 1 = _
      omega
    rw [hl]
    refine ⟨_, _, _, rfl, eK_u _ _ _, ?_⟩
    rw [show ((s.length : Int) - 1 + 1).toNat = s.length by omega]
    exact ⟨up2_s _ _ _ _, rep_x s (fun i hi => up2_sne _ _ _ (by omega)) hr⟩
  · try dsimp only at h1 h2
    subst h1 h2
    cases s with
    | nil =>
      exfalso
      rcases ho with h | h | h
      · revert h; decide
      · exact absurd h.2 (by decide)
      · exact absurd h (by decide)
    | cons t s =>
      have hl : (t :: s).length = s.length + 1 := rfl
      have hen : enc (3, 0) = ((33 : Nat) : Int) := rfl
      rw [hl] at hs ⊢
      rw [hen, iand255 _ (by omega), ishr8 _ (by omega), show 33 % 256 = 33 from rfl, show 33 / 256 = 0 from rfl, show (((33 : Nat)) : Int) = 33 from rfl, if_neg (by omega), b_47_95, if_neg (by omega), b_47_148, if_neg (by omega), b_47_155, if_neg (by omega), b_47_169, if_neg (by omega), b_47_193, if_pos rfl, b_47_200, if_pos (by omega), show (((s.length + 1 : Nat) : Int) - 1).toNat = s.length by omega, hr.1]
      by_cases ct : t = 0
      · rw [if_pos ct, b_47_216, b_47_221, if_pos (by omega), b_47_298, wr_n1 (by omega), show (((s.length + 1 : Nat) : Int) - 1).toNat = s.length by omega]
        have hl2 : ((st1 (b 22) (3, 0) (t :: s)).length : Int) - 1 = ((s.length + 1 : Nat) : Int) - 1 := rfl
        rw [hl2]
        refine ⟨_, _, _, rfl, eK_u _ _ _, ?_⟩
        · show rep _ ((if t = 0 then 1 else 0) :: s)
          rw [if_pos ct]
          exact ⟨up2_s _ _ _ _, rep_x s (fun i hi => up2_sne _ _ _ (by omega)) hr.2⟩
      · rw [if_neg ct, b_47_220, b_47_221, if_pos (by omega), b_47_298, wr_n1 (by omega), show (((s.length + 1 : Nat) : Int) - 1).toNat = s.length by omega]
        have hl2 : ((st1 (b 22) (3, 0) (t :: s)).length : Int) - 1 = ((s.length + 1 : Nat) : Int) - 1 := rfl
        rw [hl2]
        refine ⟨_, _, _, rfl, eK_u _ _ _, ?_⟩
        · show rep _ ((if t = 0 then 1 else 0) :: s)
          rw [if_neg ct]
          exact ⟨up2_s _ _ _ _, rep_x s (fun i hi => up2_sne _ _ _ (by omega)) hr.2⟩
  · try dsimp only at h1 h2
    subst h1 h2
    cases s with
    | nil =>
      exfalso
      rcases ho with h | h | h
      · revert h; decide
      · exact absurd h.2 (by decide)
      · exact absurd h (by decide)
    | cons t s =>
      have hl : (t :: s).length = s.length + 1 := rfl
      have hen : enc (4, 0) = ((3 : Nat) : Int) := rfl
      rw [hl] at hs ⊢
      rw [hen, iand255 _ (by omega), ishr8 _ (by omega), show 3 % 256 = 3 from rfl, show 3 / 256 = 0 from rfl, show (((3 : Nat)) : Int) = 3 from rfl, if_neg (by omega), b_47_95, if_neg (by omega), b_47_148, if_neg (by omega), b_47_155, if_neg (by omega), b_47_169, if_pos rfl, b_47_175, if_pos (by omega), if_pos (by omega), show (((s.length + 1 : Nat) : Int) - 1).toNat = s.length by omega, hr.1, b_47_298, wr_n1 (by omega)]
      have hl2 : ((st1 (b 22) (4, 0) (t :: s)).length : Int) - 1 = ((s.length + 1 : Nat) : Int) - 1 := rfl
      rw [hl2]
      refine ⟨_, _, _, rfl, eK_u _ _ _, ?_⟩
      · exact ⟨up2_s _ _ _ _, rep_x s (fun i hi => up2_sne _ _ _ (by omega)) hr.2⟩
  · try dsimp only at h1 h2 h3 h4
    subst h3
    have ho2 : 2 ≤ s.length := by
      unfold okh at ho
      try dsimp only at ho
      omega
    cases s with
    | nil => exact absurd ho2 (by decide)
    | cons t s =>
      cases s with
      | nil => exact absurd ho2 (by show ¬ 2 ≤ 1; omega)
      | cons u s =>
        have hl : (t :: u :: s).length = s.length + 2 := rfl
        obtain ⟨m, rfl⟩ : ∃ m : Nat, a = m := ⟨a.toNat, by omega⟩
        have hne : (m : Int) ≠ 63 ∧ (m : Int) ≠ 33 := by
          constructor
          · intro h; rw [h] at h4; revert h4; decide
          · intro h; rw [h] at h4; revert h4; decide
        have hen : enc ((m : Int), 0) = (m : Int) := by
          unfold enc
          rw [if_neg (by show ¬ (m : Int) = 1; omega), if_neg (by show ¬ (m : Int) = 2; omega), if_neg (by show ¬ (m : Int) = 3; omega), if_neg (by show ¬ (m : Int) = 4; omega)]
        have hst1 : st1 (b 22) ((m : Int), 0) (t :: u :: s) = bop m u t :: s := by
          unfold st1
          rw [if_neg (by show ¬ (m : Int) = 1; omega), if_neg (by show ¬ (m : Int) = 2; omega)]
          show (if (m : Int) = 3 then _ else if (m : Int) = 4 then _ else bop m u t :: s) = _
          rw [if_neg (by omega), if_neg (by omega)]
        rw [hl] at hs ⊢
        rw [hst1, hen, iand255 _ (by omega), ishr8 _ (by omega), show m % 256 = m by omega, show m / 256 = 0 by omega, if_neg (by omega), b_47_95, if_neg (by omega), b_47_148, if_neg (by omega), b_47_155, if_neg (by omega), b_47_169, if_neg (by omega), b_47_193, if_neg hne.2, b_47_225, if_neg hne.1, b_47_259, if_neg (by omega), b_47_267, wr_if (a := _ + -1) (by omega), wr_if (a := _ + 1) (by omega), if_pos (by omega), if_pos (by omega), show (((s.length + 2 : Nat) : Int) - 1 + -1).toNat = s.length by omega, show (((s.length + 2 : Nat) : Int) - 1 + -1 + 1).toNat = s.length + 1 by omega, hr.2.1, show b 21 (s.length + 1) = t from hr.1, semK_of (s_48 _ _ _ _ _ _ _ (by omega) h4)]
        simp only [mpush]
        rw [b_47_297, if_pos (by omega), b_47_298, wr_n1 (by omega), show (((s.length + 2 : Nat) : Int) - 1 + -1).toNat = s.length by omega]
        have hl2 : ((bop (m : Int) u t :: s).length : Int) - 1 = ((s.length + 2 : Nat) : Int) - 1 + -1 := by
          show ((s.length + 1 : Nat) : Int) - 1 = _
          omega
        rw [hl2]
        refine ⟨_, _, _, rfl, eK_u _ _ _, ?_⟩
        · exact ⟨up2_s _ _ _ _, rep_x s (fun i hi => up2_sne _ _ _ (by omega)) hr.2.2⟩
theorem rn_c (w : Nat × Bool) (J : Nat → Nat → Int) (e : Nat) (x1 x2 x3 x4 : Int) (N : Nat) (he : 1 ≤ e) (hN1 : N ≤ 121) : ∀ (c : List (Int × Int)) (q h' : Nat) (s : List Int) (b : Nat → Nat → Int) (u7 u8 : Option mVal), b 17 5 = (N : Int) → q + c.length ≤ N → okc c s.length h' → s.length + c.length ≤ 121 → seg (b (wst w)) q c → rep (b 21) s →
    ∃ b' v7 v8, Sem e 47 55 [some (vr 17), some (vi x1), some (vi x2), some (vi x3), some (vi x4), some (vi ((s.length : Int) - 1)), some (vi (q : Int)), u7, u8] [] (mk w b J) = Sem e 47 55 [some (vr 17), some (vi x1), some (vi x2), some (vi x3), some (vi x4), some (vi (((exl (b 22) c s).length : Int) - 1)), some (vi ((q + c.length : Nat) : Int)), v7, v8] [] (mk w b' J) ∧ eK b b' ∧ rep (b' 21) (exl (b 22) c s) := by
  intro c
  induction c with
  | nil =>
    intro q h' s b u7 u8 _ _ _ _ _ hr
    exact ⟨b, u7, u8, rfl, eK_r b, hr⟩
  | cons c cs ih =>
    intro q h' s b u7 u8 hN hq hok hs hsg hr
    have hw := wst_or w
    have hcl : (c :: cs).length = cs.length + 1 := rfl
    rw [hcl] at hq hs
    obtain ⟨b1, v7, v8, k1, k2, k3⟩ := rn_1 e w b J e b x1 x2 x3 x4 q N c s u7 u8 he hN hN1 (by omega) hok.1 hok.2.1 (by omega) hsg.1 hr
    have hlen := st1_len (b 22) c s hok.2.1 hok.1
    have hh : hgt c s.length ≤ s.length + 1 := by unfold hgt; (repeat' split) <;> omega
    have hok2 := hok.2.2
    rw [← hlen] at hok2
    obtain ⟨b2, y7, y8, m1, m2, m3⟩ := ih (q + 1) h' (st1 (b 22) c s) b1 v7 v8 (by rw [k2 17 (by omega)]; exact hN) (by omega) hok2 (by omega) (by rw [k2 (wst w) (by omega)]; exact hsg.2) k3
    rw [k2 22 (by omega)] at m1 m3
    refine ⟨b2, y7, y8, k1.trans ?_, eK_t k2 m2, m3⟩
    rw [m1, hcl, show q + 1 + cs.length = q + (cs.length + 1) by omega]
    rfl
def hd1 (env : Nat → Int) (c : List (Int × Int)) : Int := match exl env c [] with
  | v :: _ => v
  | [] => 0
theorem hd1_g {c : List (Int × Int)} (h : Good c) (env : Nat → Int) : exl env c [] = [hd1 env c] := by
  obtain ⟨v, hv⟩ := h.2.1 env
  unfold hd1
  rw [hv []]
def flv (env : Nat → Int) : List cLn → Int
  | [] => 0
  | L :: Ls => if L.1 = [] then hd1 env L.2 else if hd1 env L.1 = 0 then flv env Ls else hd1 env L.2
/-- one text told on an empty heap -/
theorem rn_g (d : Nat) (w : Nat × Bool) (I J : Nat → Nat → Int) (e : Nat) (b : Nat → Nat → Int) (x1 x2 x3 x4 : Int) (N q : Nat) (c : List (Int × Int)) (u7 u8 : Option mVal) (he : 1 ≤ e) (hN1 : N ≤ 121) (hN : b 17 5 = (N : Int)) (hq : q + c.length ≤ N) (hg : Good c) (hsg : seg (b (wst w)) q c) :
    ∃ b' v7 v8, Sem e 47 55 [some (vr 17), some (vi x1), some (vi x2), some (vi x3), some (vi x4), some (vi (-1)), some (vi (q : Int)), u7, u8] [] (mk w b J) = Sem e 47 55 [some (vr 17), some (vi x1), some (vi x2), some (vi x3), some (vi x4), some (vi 0), some (vi ((q + c.length : Nat) : Int)), v7, v8] [] (mk w b' J) ∧ eK b b' ∧ b' 21 0 = hd1 (b 22) c := by
  obtain ⟨b', v7, v8, k1, k2, k3⟩ := rn_c w J e x1 x2 x3 x4 N he hN1 c q 1 [] b u7 u8 hN hq (hg.1 0) (by show 0 + c.length ≤ 121; omega) hsg trivial
  rw [hd1_g hg (b 22)] at k1 k3
  exact ⟨b', v7, v8, k1, k2, k3.1⟩
theorem rn_l (w : Nat × Bool) (J : Nat → Nat → Int) (e : Nat) (x1 x2 x3 x4 : Int) (N : Nat) (he : 1 ≤ e) (hN1 : N ≤ 121) : ∀ (Ls : List cLn) (q : Nat) (b : Nat → Nat → Int) (u7 u8 : Option mVal), b 17 5 = (N : Int) → q + tsz Ls = N → llay (b (wst w)) q Ls → (∀ L, L ∈ Ls → LGood L) →
    ∃ b', Sem e 47 55 [some (vr 17), some (vi x1), some (vi x2), some (vi x3), some (vi x4), some (vi (-1)), some (vi (q : Int)), u7, u8] [] (mk w b J) = some (some (vi (flv (b 22) Ls)), mk w b' J) ∧ eK b b' := by
  intro Ls
  induction Ls with
  | nil =>
    intro q b u7 u8 hN hq _ _
    have h0 : tsz [] = 0 := rfl
    rw [b_47_55, hN, if_neg (by omega), b_47_304]
    exact ⟨b, rfl, eK_r b⟩
  | cons L Ls ih =>
    intro q b u7 u8 hN hq hlay hgood
    have hw := wst_or w
    obtain ⟨hl1, hl2⟩ := hgood L (List.mem_cons_self)
    have hts : tsz (L :: Ls) = lsz L + tsz Ls := rfl
    rw [hts] at hq
    have hlo := hlay.1
    -- the value of a text, then back
    have hval : ∀ (c : List (Int × Int)) (qq : Nat) (bb : Nat → Nat → Int) (v7 v8 : Option mVal), Good c → eK b bb → qq + c.length < N → seg (bb (wst w)) qq c → bb (wst w) (qq + c.length) = 4 → ∃ b', Sem e 47 55 [some (vr 17), some (vi x1), some (vi x2), some (vi x3), some (vi x4), some (vi (-1)), some (vi (qq : Int)), v7, v8] [] (mk w bb J) = some (some (vi (hd1 (b 22) c)), mk w b' J) ∧ eK b b' := by
      intro c qq bb v7 v8 hg hk hlt hsg h4
      obtain ⟨b1, y7, y8, k1, k2, k3⟩ := rn_g e w bb J e bb x1 x2 x3 x4 N qq c v7 v8 he hN1 (by rw [hk 17 (by omega)]; exact hN) (by omega) hg hsg
      have g4 : b1 (wst w) (qq + c.length) = ((4 : Nat) : Int) := by rw [k2 (wst w) (by omega), h4]; rfl
      rw [k1, b_47_55, k2 17 (by omega), hk 17 (by omega), hN, if_pos (by omega), b_47_64, wst_T, if_pos (Or.inl rfl), if_pos (show 0 ≤ ((qq + c.length : Nat) : Int) ∧ ((qq + c.length : Nat) : Int) < ((121 : Nat) : Int) by omega), if_pos (Or.inl rfl), if_pos (show 0 ≤ ((qq + c.length : Nat) : Int) ∧ ((qq + c.length : Nat) : Int) < ((121 : Nat) : Int) by omega), nat_i, g4, iand255 4 (by omega), show (((4 % 256 : Nat)) : Int) = 4 from rfl, if_neg (by omega), b_47_95, if_neg (by omega), b_47_148, if_neg (by omega), b_47_155, if_pos rfl, b_47_161, if_pos (by omega), show (0 : Int).toNat = 0 from rfl, k3, hk 22 (by omega)]
      exact ⟨b1, rfl, eK_t hk k2⟩
    unfold lok at hlo
    by_cases ct : L.1 = []
    · rw [if_pos ct] at hlo
      have hz : lsz L = L.2.length + 1 := by unfold lsz; rw [if_pos ct]
      have hf : flv (b 22) (L :: Ls) = hd1 (b 22) L.2 := by show (if L.1 = [] then _ else _) = _; rw [if_pos ct]
      rw [hf]
      exact hval L.2 q b u7 u8 hl2 (eK_r b) (by omega) hlo.1 hlo.2
    · rw [if_neg ct] at hlo
      have hg1 : Good L.1 := by rcases hl1 with h | h
                                · exact absurd h ct
                                · exact h
      have hz : lsz L = L.1.length + L.2.length + 2 := by unfold lsz; rw [if_neg ct]
      have hf : flv (b 22) (L :: Ls) = if hd1 (b 22) L.1 = 0 then flv (b 22) Ls else hd1 (b 22) L.2 := by show (if L.1 = [] then _ else _) = _; rw [if_neg ct]
      rw [hf]
      obtain ⟨b1, y7, y8, k1, k2, k3⟩ := rn_g e w b J e b x1 x2 x3 x4 N q L.1 u7 u8 he hN1 hN (by omega) hg1 hlo.1
      have g63 : b1 (wst w) (q + L.1.length) = ((256 * (q + L.1.length + L.2.length + 2) + 63 : Nat) : Int) := by rw [k2 (wst w) (by omega)]; exact hlo.2.1
      generalize hT : q + L.1.length + L.2.length + 2 = T at g63
      have hT121 : T ≤ 121 := by omega
      rw [k1, b_47_55, k2 17 (by omega), hN, if_pos (by omega), b_47_64, wst_T, if_pos (Or.inl rfl), if_pos (show 0 ≤ ((q + L.1.length : Nat) : Int) ∧ ((q + L.1.length : Nat) : Int) < ((121 : Nat) : Int) by omega), if_pos (Or.inl rfl), if_pos (show 0 ≤ ((q + L.1.length : Nat) : Int) ∧ ((q + L.1.length : Nat) : Int) < ((121 : Nat) : Int) by omega), nat_i, g63, iand255 _ (by omega), ishr8 _ (by omega), show (256 * T + 63) % 256 = 63 by omega, show (256 * T + 63) / 256 = T by omega, show (((63 : Nat)) : Int) = 63 from rfl, if_neg (by omega), b_47_95, if_neg (by omega), b_47_148, if_neg (by omega), b_47_155, if_neg (by omega), b_47_169, if_neg (by omega), b_47_193, if_neg (by omega), b_47_225, if_pos rfl, b_47_232, if_pos (by omega), show (0 : Int).toNat = 0 from rfl, k3]
      by_cases c0 : hd1 (b 22) L.1 = 0
      · rw [if_pos c0, if_pos c0, b_47_242, wr_if (a := (T : Int) - 1) (by omega), if_pos (by omega), b_47_253, b_47_298, wr_if (a := (0 : Int) + -1) (by omega), wr_if (by omega)]
        obtain ⟨b2, m1, m2⟩ := ih T b1 (some (vi 63)) (some (vi (T : Int))) (by rw [k2 17 (by omega)]; exact hN) (by omega) (by rw [k2 (wst w) (by omega)]; have := hlay.2; rwa [show q + lsz L = T by omega] at this) (fun L' hL' => hgood L' (List.mem_cons_of_mem _ hL'))
        rw [k2 22 (by omega)] at m1
        refine ⟨b2, ?_, eK_t k2 m2⟩
        rw [show (T : Int) - 1 + 1 = (T : Int) by omega]
        exact m1
      · rw [if_neg c0, if_neg c0, b_47_253, b_47_298, wr_if (a := (0 : Int) + -1) (by omega), wr_n1 (by omega)]
        exact hval L.2 (q + L.1.length + 1) b1 (some (vi 63)) (some (vi (T : Int))) hl2 k2 (by omega) (by rw [k2 (wst w) (by omega)]; exact hlo.2.2.1) (by rw [k2 (wst w) (by omega)]; exact hlo.2.2.2)
def env4 (v a b c : Int) (k : Nat) : Int := if k = 0 then v else if k = 1 then a else if k = 2 then b else c
theorem exl_x {env env' : Nat → Int} (h : ∀ k, k < 4 → env k = env' k) : ∀ (c : List (Int × Int)) h0 h1 s, okc c h0 h1 → exl env c s = exl env' c s
  | [], _, _, _, _ => rfl
  | c :: cs, h0, h1, s, hok => by
    have e1 : st1 env c s = st1 env' c s := by
      unfold st1
      by_cases c1 : c.1 = 1
      · rw [if_pos c1, if_pos c1]
      · by_cases c2 : c.1 = 2
        · have : c.2.toNat < 4 := by have := hok.1; unfold cok at this; omega
          rw [if_neg c1, if_neg c1, if_pos c2, if_pos c2, h _ this]
        · rw [if_neg c1, if_neg c1, if_neg c2, if_neg c2]
    show exl env cs (st1 env c s) = exl env' cs (st1 env' c s)
    rw [e1]
    exact exl_x h cs _ h1 _ hok.2.2
theorem hd1_x {env env' : Nat → Int} (h : ∀ k, k < 4 → env k = env' k) {c : List (Int × Int)} (hg : Good c) : hd1 env c = hd1 env' c := by
  unfold hd1
  rw [exl_x h c 0 1 [] (hg.1 0)]
theorem flv_x {env env' : Nat → Int} (h : ∀ k, k < 4 → env k = env' k) : ∀ Ls : List cLn, (∀ L, L ∈ Ls → LGood L) → flv env Ls = flv env' Ls
  | [], _ => rfl
  | L :: Ls, hg => by
    obtain ⟨hl1, hl2⟩ := hg L (List.mem_cons_self)
    have ih := flv_x h Ls (fun L' hL' => hg L' (List.mem_cons_of_mem _ hL'))
    show (if L.1 = [] then _ else if hd1 env L.1 = 0 then flv env Ls else _) = (if L.1 = [] then _ else if hd1 env' L.1 = 0 then flv env' Ls else _)
    rw [hd1_x h hl2, ih]
    by_cases ct : L.1 = []
    · rw [if_pos ct, if_pos ct]
    · rw [if_neg ct, if_neg ct]
      rcases hl1 with h1 | h1
      · exact absurd h1 ct
      · rw [hd1_x h h1]
/-- a law that was taken gives what its lines say -/
theorem lawC_l {w : Nat × Bool} {I : Nat → Nat → Int} {Ls : List cLn} (hN : I 17 5 = (tsz Ls : Nat)) (h1 : 1 ≤ tsz Ls) (h121 : tsz Ls ≤ 121) (hlay : llay (I (wst w)) 0 Ls) (hg : ∀ L, L ∈ Ls → LGood L) : lawC w I (fun v a b c => flv (env4 v a b c) Ls) := by
  intro I' J h5 hst d v a b c hd _ _ _ _
  obtain ⟨e, rfl⟩ : ∃ e, d = e + 1 := ⟨d - 1, by omega⟩
  have hw := wst_or w
  rw [e_47, b_47_0, h5, hN, if_neg (by omega), b_47_20, if_pos (by omega), if_pos (by omega), if_pos (by omega), if_pos (by omega), show (0 : Int).toNat = 0 from rfl, show (1 : Int).toNat = 1 from rfl, show (2 : Int).toNat = 2 from rfl, show (3 : Int).toNat = 3 from rfl]
  have q0 : ∀ k, k < 4 → up2 (up2 (up2 (up2 I' 22 0 v) 22 1 a) 22 2 b) 22 3 c 22 k = env4 v a b c k := by
    intro k hk
    unfold env4
    rcases (show k = 0 ∨ k = 1 ∨ k = 2 ∨ k = 3 by omega) with h | h | h | h <;> subst h
    · rw [up2_sne _ _ _ (by omega), up2_sne _ _ _ (by omega), up2_sne _ _ _ (by omega), up2_s, if_pos rfl]
    · rw [up2_sne _ _ _ (by omega), up2_sne _ _ _ (by omega), up2_s, if_neg (by omega), if_pos rfl]
    · rw [up2_sne _ _ _ (by omega), up2_s, if_neg (by omega), if_neg (by omega), if_pos rfl]
    · rw [up2_s, if_neg (by omega), if_neg (by omega), if_neg (by omega)]
  have qo : ∀ cc, cc ≠ 22 → up2 (up2 (up2 (up2 I' 22 0 v) 22 1 a) 22 2 b) 22 3 c cc = I' cc := fun cc hc => by rw [up2_ne _ _ _ hc, up2_ne _ _ _ hc, up2_ne _ _ _ hc, up2_ne _ _ _ hc]
  generalize up2 (up2 (up2 (up2 I' 22 0 v) 22 1 a) 22 2 b) 22 3 c = b0 at q0 qo
  obtain ⟨b', k1, k2⟩ := rn_l w J e v a b c (tsz Ls) (by omega) h121 Ls 0 b0 none none (by rw [qo 17 (by omega), h5, hN]) (by omega) (by rw [qo (wst w) (by omega), hst]; exact hlay) hg
  rw [flv_x q0 Ls hg] at k1
  refine ⟨b', k1, ?_⟩
  intro cc h21 h22
  rw [k2 cc h21, qo cc h22]
