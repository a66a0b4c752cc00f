/-! what a law gives: the reference -/
theorem s_172 (d : Nat) (w : Nat × Bool) (I J : Nat → Nat → Int) (a u t : Int) (hd : 1 ≤ d) (ha : lvl a < 5) : semC d 172 [vi a, vi u, vi t] (mk w I J) = some (some (vi (bop a u t)), mk w I J) := by
  obtain ⟨e, rfl⟩ : ∃ e, d = e + 1 := ⟨d - 1, by omega⟩
  have hl : a = 124 ∨ a = 38 ∨ a = 60 ∨ a = 61 ∨ a = 62 ∨ a = 43 ∨ a = 45 ∨ a = 42 ∨ a = 47 ∨ a = 37 := by
    unfold lvl at ha
    by_cases h : a = 124 ∨ a = 38 ∨ a = 60 ∨ a = 61 ∨ a = 62 ∨ a = 43 ∨ a = 45 ∨ a = 42 ∨ a = 47 ∨ a = 37
    · exact h
    · exfalso
      rw [if_neg (by omega), if_neg (by omega), if_neg (by omega), if_neg (by omega), if_neg (by omega)] at ha
      omega
  rw [e_172]
  unfold bop
  by_cases cm : t = -1
  · subst cm
    rw [Int.tdiv_neg, Int.tdiv_one, Int.tmod_neg, Int.tmod_one]
    rcases hl with rfl | rfl | rfl | rfl | rfl | rfl | rfl | rfl | rfl | rfl
    all_goals by_cases c1 : u = 0 <;> by_cases c3 : u < -1 <;> by_cases c4 : -1 < u <;> by_cases c5 : u = -1
    all_goals simp (disch := omega) only [b_172_0, b_172_120, b_172_124, b_172_128, b_172_132, b_172_136, b_172_140, b_172_145, b_172_150, b_172_153, b_172_154, b_172_158, b_172_163, b_172_167, b_172_170, b_172_171, b_172_176, b_172_180, b_172_181, b_172_182, b_172_187, b_172_191, b_172_192, b_172_193, b_172_198, b_172_202, b_172_203, b_172_204, b_172_208, b_172_212, b_172_216, b_172_217, b_172_218, b_172_222, b_172_226, b_172_230, b_172_231, if_pos, if_neg, ↓reduceIte, c1, c3, c4, c5, Int.reduceEq, Int.reduceNeg, true_or, or_true, or_false, false_or, and_true, true_and, and_false, false_and, or_self, and_self] <;> (try omega)
  · rcases hl with rfl | rfl | rfl | rfl | rfl | rfl | rfl | rfl | rfl | rfl
    all_goals by_cases c1 : u = 0 <;> by_cases c2 : t = 0 <;> by_cases c3 : u < t <;> by_cases c4 : t < u <;> by_cases c5 : u = t
    all_goals simp (disch := omega) only [b_172_0, b_172_120, b_172_124, b_172_128, b_172_132, b_172_136, b_172_140, b_172_145, b_172_150, b_172_153, b_172_154, b_172_158, b_172_163, b_172_167, b_172_170, b_172_171, b_172_176, b_172_180, b_172_181, b_172_182, b_172_187, b_172_191, b_172_192, b_172_193, b_172_198, b_172_202, b_172_203, b_172_204, b_172_208, b_172_212, b_172_216, b_172_217, b_172_218, b_172_222, b_172_226, b_172_230, b_172_231, if_pos, if_neg, ↓reduceIte, c1, c2, c3, c4, c5, cm, Int.reduceEq, true_or, or_true, or_false, false_or, and_true, true_and, and_false, false_and, or_self, and_self] <;> (try omega)
/-- the reference's heap while it reckons -/
def eP (b b' : Nat → Nat → Int) : Prop := ∀ c, c ≠ 81 → b' c = b c
theorem eP_r (b : Nat → Nat → Int) : eP b b := fun _ _ => rfl
theorem eP_t {b b' b'' : Nat → Nat → Int} (h : eP b b') (h' : eP b' b'') : eP b b'' := fun c a => (h' c a).trans (h c a)
theorem eP_u (b : Nat → Nat → Int) (k : Nat) (v : Int) : eP b (up2 b 81 k v) := fun c a => up2_ne _ _ _ a
/-- one act -/
theorem rm_1 (d : Nat) (w : Nat × Bool) (I J : Nat → Nat → Int) (e : Nat) (b : Nat → Nat → Int) (x2 : Int) (E q : Nat) (c : Int × Int) (s : List Int) (u6 : Option mVal) (he : 1 ≤ e) (hE : E ≤ 130) (hq : q < E) (hc : cok c) (ho : okh c s.length) (hs : s.length + 1 ≤ 130) (hst : b 75 q = c.1 ∧ b 76 q = c.2) (hr : rep (b 81) s) :
    ∃ b' v6, Sem e 173 12 [some (vr 58), some (vi 0), some (vi x2), some (vi (E : Int)), some (vi (s.length : Int)), some (vi (q : Int)), u6] [] (mk w b J) = Sem e 173 12 [some (vr 58), some (vi 0), some (vi x2), some (vi (E : Int)), some (vi ((st1 (b 80) c s).length : Int)), some (vi ((q + 1 : Nat) : Int)), v6] [] (mk w b' J) ∧ eP b b' ∧ rep (b' 81) (st1 (b 80) c s) := by
  rw [b_173_12, show wr ((130 : Int) * 0) = 0 from rfl, wr_if (a := 0 + (E : Int)) (by omega), if_pos (by omega), b_173_24, if_pos (by omega), nat_i, hst.1]
  obtain ⟨a, z⟩ := c
  dsimp only at hst
  rcases hc with ⟨h1, h2⟩ | ⟨h1, h2⟩ | ⟨h1, h2⟩ | ⟨h1, h2⟩ | ⟨h1, h2, h3, h4⟩
  · try dsimp only at h1 h2 ⊢
    subst h1
    rw [if_pos rfl, b_173_45, if_pos rfl, b_173_57, if_pos (by omega), b_173_79, if_pos (by omega), b_173_182, wr_n1 (by omega), wr_n1 (by omega), nat_i, nat_i, hst.2]
    refine ⟨_, _, rfl, eP_u _ _ _, ?_⟩
    exact ⟨up2_s _ _ _ _, rep_x s (fun i hi => up2_sne _ _ _ (by omega)) hr⟩
  · try dsimp only at h1 h2 ⊢
    subst h1
    rw [if_neg (by omega), b_173_39, if_pos rfl, b_173_45, if_neg (by omega), b_173_67, nat_i, hst.2, if_pos (by omega), if_pos (by omega), b_173_79, if_pos (by omega), b_173_182, wr_n1 (by omega), wr_n1 (by omega), nat_i]
    refine ⟨_, _, rfl, eP_u _ _ _, ?_⟩
    exact ⟨up2_s _ _ _ _, rep_x s (fun i hi => up2_sne _ _ _ (by omega)) hr⟩
  · try dsimp only at h1 h2 ⊢
    subst h1 h2
    cases s with
    | nil =>
      exfalso
      rcases ho with h | h | h
      · revert h; decide
      · exact absurd h.2 (by decide)
      · exact absurd h (by decide)
    | cons t s =>
      have hl : (t :: s).length = s.length + 1 := rfl
      rw [hl] at hs ⊢
      rw [if_neg (by omega), b_173_39, if_neg (by omega), b_173_86, if_pos rfl, b_173_92, wr_if (a := ((s.length + 1 : Nat) : Int) - 1) (by omega), if_pos (by omega), show (((s.length + 1 : Nat) : Int) - 1).toNat = s.length by omega, hr.1]
      have hl2 : ((st1 (b 80) (3, 0) (t :: s)).length : Int) = ((s.length + 1 : Nat) : Int) := rfl
      rw [hl2]
      by_cases ct : t = 0
      · rw [if_pos ct, b_173_112, b_173_117, if_pos (by omega), b_173_182, wr_n1 (by omega), show (((s.length + 1 : Nat) : Int) - 1).toNat = s.length by omega]
        refine ⟨_, _, rfl, eP_u _ _ _, ?_⟩
        show rep _ ((if t = 0 then 1 else 0) :: s)
        rw [if_pos ct]
        exact ⟨up2_s _ _ _ _, rep_x s (fun i hi => up2_sne _ _ _ (by omega)) hr.2⟩
      · rw [if_neg ct, b_173_116, b_173_117, if_pos (by omega), b_173_182, wr_n1 (by omega), show (((s.length + 1 : Nat) : Int) - 1).toNat = s.length by omega]
        refine ⟨_, _, rfl, eP_u _ _ _, ?_⟩
        show rep _ ((if t = 0 then 1 else 0) :: s)
        rw [if_neg ct]
        exact ⟨up2_s _ _ _ _, rep_x s (fun i hi => up2_sne _ _ _ (by omega)) hr.2⟩
  · try dsimp only at h1 h2 ⊢
    subst h1 h2
    cases s with
    | nil =>
      exfalso
      rcases ho with h | h | h
      · revert h; decide
      · exact absurd h.2 (by decide)
      · exact absurd h (by decide)
    | cons t s =>
      have hl : (t :: s).length = s.length + 1 := rfl
      rw [hl] at hs ⊢
      rw [if_neg (by omega), b_173_39, if_neg (by omega), b_173_86, if_neg (by omega), b_173_121, if_pos rfl, b_173_127, wr_if (a := ((s.length + 1 : Nat) : Int) - 1) (by omega), if_pos (by omega), if_pos (by omega), b_173_182, wr_n1 (by omega), show (((s.length + 1 : Nat) : Int) - 1).toNat = s.length by omega, hr.1]
      have hl2 : ((st1 (b 80) (4, 0) (t :: s)).length : Int) = ((s.length + 1 : Nat) : Int) := rfl
      rw [hl2]
      refine ⟨_, _, rfl, eP_u _ _ _, ?_⟩
      exact ⟨up2_s _ _ _ _, rep_x s (fun i hi => up2_sne _ _ _ (by omega)) hr.2⟩
  · try dsimp only at h1 h2 h3 h4 ⊢
    subst h3
    have ho2 : 2 ≤ s.length := by
      unfold okh at ho
      try dsimp only at ho
      omega
    cases s with
    | nil => exact absurd ho2 (by decide)
    | cons t s =>
      cases s with
      | nil => exact absurd ho2 (by show ¬ 2 ≤ 1; omega)
      | cons u s =>
        have hl : (t :: u :: s).length = s.length + 2 := rfl
        have hst1 : st1 (b 80) (a, 0) (t :: u :: s) = bop a u t :: s := by
          unfold st1
          rw [if_neg (by show ¬ a = 1; omega), if_neg (by show ¬ a = 2; omega)]
          show (if a = 3 then _ else if a = 4 then _ else bop a u t :: s) = _
          rw [if_neg (by omega), if_neg (by omega)]
        rw [hl] at hs ⊢
        rw [hst1, if_neg (by omega), b_173_39, if_neg (by omega), b_173_86, if_neg (by omega), b_173_121, if_neg (by omega), b_173_149, wr_if (a := _ + -1) (by omega), wr_if (a := _ - 1) (by omega), if_pos (by omega), if_pos (by omega), show (((s.length + 2 : Nat) : Int) + -1 - 1).toNat = s.length by omega, show (((s.length + 2 : Nat) : Int) + -1).toNat = s.length + 1 by omega, hr.2.1, show b 81 (s.length + 1) = t from hr.1, semK_of (s_172 _ _ _ _ _ _ _ (by omega) h4)]
        simp only [mpush]
        rw [b_173_181, if_pos (by omega), b_173_182, wr_n1 (by omega), show (((s.length + 2 : Nat) : Int) + -1 - 1).toNat = s.length by omega]
        have hl2 : ((bop a u t :: s).length : Int) = ((s.length + 2 : Nat) : Int) + -1 := by
          show ((s.length + 1 : Nat) : Int) = _
          omega
        rw [hl2]
        refine ⟨_, _, rfl, eP_u _ _ _, ?_⟩
        exact ⟨up2_s _ _ _ _, rep_x s (fun i hi => up2_sne _ _ _ (by omega)) hr.2.2⟩
theorem rm_c (w : Nat × Bool) (J : Nat → Nat → Int) (e : Nat) (x2 : Int) (E : Nat) (he : 1 ≤ e) (hE : E ≤ 130) : ∀ (c : List (Int × Int)) (q h' : Nat) (s : List Int) (b : Nat → Nat → Int) (u6 : Option mVal), q + c.length ≤ E → okc c s.length h' → s.length + c.length ≤ 130 → seg2 (b 75) (b 76) q c → rep (b 81) s →
    ∃ b' v6, Sem e 173 12 [some (vr 58), some (vi 0), some (vi x2), some (vi (E : Int)), some (vi (s.length : Int)), some (vi (q : Int)), u6] [] (mk w b J) = Sem e 173 12 [some (vr 58), some (vi 0), some (vi x2), some (vi (E : Int)), some (vi ((exl (b 80) c s).length : Int)), some (vi ((q + c.length : Nat) : Int)), v6] [] (mk w b' J) ∧ eP b b' ∧ rep (b' 81) (exl (b 80) c s) := by
  intro c
  induction c with
  | nil =>
    intro q h' s b u6 _ _ _ _ hr
    exact ⟨b, u6, rfl, eP_r b, hr⟩
  | cons c cs ih =>
    intro q h' s b u6 hq hok hs hsg hr
    have hcl : (c :: cs).length = cs.length + 1 := rfl
    rw [hcl] at hq hs
    obtain ⟨b1, v6, k1, k2, k3⟩ := rm_1 e w b J e b x2 E q c s u6 he hE (by omega) hok.1 hok.2.1 (by omega) ⟨hsg.1, hsg.2.1⟩ hr
    have hlen := st1_len (b 80) c s hok.2.1 hok.1
    have hh : hgt c s.length ≤ s.length + 1 := by unfold hgt; (repeat' split) <;> omega
    have hok2 := hok.2.2
    rw [← hlen] at hok2
    obtain ⟨b2, y6, m1, m2, m3⟩ := ih (q + 1) h' (st1 (b 80) c s) b1 v6 (by omega) hok2 (by omega) (by rw [k2 75 (by omega), k2 76 (by omega)]; exact hsg.2.2) k3
    rw [k2 80 (by omega)] at m1 m3
    refine ⟨b2, y6, k1.trans ?_, eP_t k2 m2, m3⟩
    rw [m1, hcl, show q + 1 + cs.length = q + (cs.length + 1) by omega]
    rfl
theorem s_173 (d : Nat) (w : Nat × Bool) (I J : Nat → Nat → Int) (b : Nat → Nat → Int) (q : Nat) (c : List (Int × Int)) (hd : 2 ≤ d) (hq : q + c.length ≤ 130) (hg : Good c) (hsg : seg2 (b 75) (b 76) q c) :
    ∃ b', semC d 173 [vr 58, vi 0, vi (q : Int), vi ((q + c.length : Nat) : Int)] (mk w b J) = some (some (vi (hd1 (b 80) c)), mk w b' J) ∧ eP b b' := by
  obtain ⟨e, rfl⟩ : ∃ e, d = e + 1 := ⟨d - 1, by omega⟩
  rw [e_173, b_173_0, show wr ((130 : Int) * 0) = 0 from rfl, wr_if (a := 0 + (q : Int)) (by omega), Int.zero_add]
  obtain ⟨b', v6, k1, k2, k3⟩ := rm_c w J e (q : Int) (q + c.length) (by omega) hq c q 1 [] b none (by omega) (hg.1 0) (by show 0 + c.length ≤ 130; omega) hsg trivial
  rw [hd1_g hg (b 80)] at k1 k3
  refine ⟨b', ?_, k2⟩
  have k1' : Sem e 173 12 [some (vr 58), some (vi 0), some (vi (q : Int)), some (vi ((q + c.length : Nat) : Int)), some (vi 0), some (vi (q : Int)), none] [] (mk w b J) = _ := k1
  rw [k1', b_173_12, show wr ((130 : Int) * 0) = 0 from rfl, wr_if (a := 0 + ((q + c.length : Nat) : Int)) (by omega), if_neg (by omega), b_173_188, if_pos (by omega), show ((0 : Int)).toNat = 0 from rfl, show b' 81 0 = hd1 (b 80) c from k3.1]
theorem gv_l (w : Nat × Bool) (J : Nat → Nat → Int) (e : Nat) (M : Nat) (he : 2 ≤ e) (hM : M ≤ 61) : ∀ (Ls : List cLn) (q i : Nat) (b : Nat → Nat → Int), b 77 0 = (M : Int) → i + Ls.length = M → q + (flt Ls).length ≤ 130 → lnM (b 78) (b 79) q i Ls → seg2 (b 75) (b 76) q (flt Ls) → (∀ L, L ∈ Ls → LGood L) →
    ∃ b', Sem e 174 7 [some (vr 58), some (vi 0), some (vi (q : Int)), some (vi (i : Int))] [] (mk w b J) = some (some (vi (flv (b 80) Ls)), mk w b' J) ∧ eP b b' := by
  intro Ls
  induction Ls with
  | nil =>
    intro q i b h77 hi _ _ _ _
    have hi : i + 0 = M := hi
    rw [b_174_7, if_pos (by omega), show wr ((61 : Int) * 0) = 0 from rfl, show ((0 : Int)).toNat = 0 from rfl, h77, wr_if (a := 0 + (M : Int)) (by omega), if_neg (by omega), b_174_78]
    exact ⟨b, rfl, eP_r b⟩
  | cons L Ls ih =>
    intro q i b h77 hi hq hln hsg hg
    obtain ⟨g1, g2⟩ := hg L List.mem_cons_self
    have hi : i + (Ls.length + 1) = M := hi
    rw [flt_c] at hq
    have hsg : seg2 (b 75) (b 76) q ((L.1 ++ L.2) ++ flt Ls) := hsg
    rw [seg2_a, seg2_a] at hsg
    obtain ⟨⟨s1, s2⟩, s3⟩ := hsg
    rw [List.length_append] at s3
    have hval : ∀ b1, eP b b1 → ∃ b', Sem e 174 47 [some (vr 58), some (vi 0), some (vi (q : Int)), some (vi (i : Int))] [] (mk w b1 J) = some (some (vi (hd1 (b 80) L.2)), mk w b' J) ∧ eP b b' := by
      intro b1 h1
      obtain ⟨b2, k1, k2⟩ := s_173 e w b J b1 (q + L.1.length) L.2 (by omega) (by omega) g2 (by rw [h1 75 (by omega), h1 76 (by omega)]; exact s2)
      rw [h1 80 (by omega)] at k1
      rw [b_174_47, if_pos (by omega), if_pos (by omega), nat_i, h1 78 (by omega), h1 79 (by omega), hln.1, hln.2.1, show q + (L.1.length + L.2.length) = q + L.1.length + L.2.length by omega, semK_of k1]
      simp only [mpush]
      rw [b_174_64]
      exact ⟨b2, rfl, eP_t h1 k2⟩
    rw [b_174_7, if_pos (by omega), show wr ((61 : Int) * 0) = 0 from rfl, show ((0 : Int)).toNat = 0 from rfl, h77, wr_if (a := 0 + (M : Int)) (by omega), if_pos (by omega), b_174_22, if_pos (by omega), nat_i, hln.1]
    show ∃ b', _ = some (some (vi (if L.1 = [] then hd1 (b 80) L.2 else if hd1 (b 80) L.1 = 0 then flv (b 80) Ls else hd1 (b 80) L.2)), mk w b' J) ∧ _
    by_cases c0 : L.1 = []
    · rw [if_pos c0, if_pos (by rw [c0]; show ((q + 0 : Nat) : Int) = (q : Int); rfl)]
      exact hval b (eP_r b)
    · have hpos : 0 < L.1.length := List.length_pos_iff.mpr c0
      have g1' : Good L.1 := by rcases g1 with h | h; exact absurd h c0; exact h
      obtain ⟨b2, k1, k2⟩ := s_173 e w b J b q L.1 (by omega) (by omega) g1' s1
      rw [if_neg c0, if_neg (by omega), b_174_32, if_pos (by omega), nat_i, hln.1, semK_of k1]
      simp only [mpush]
      rw [b_174_44]
      by_cases c1 : hd1 (b 80) L.1 = 0
      · rw [if_pos c1, if_pos c1, b_174_65, if_pos (by omega), nat_i, k2 79 (by omega), hln.2.1, wr_n1 (by omega)]
        obtain ⟨b3, m1, m2⟩ := ih (q + (L.1.length + L.2.length)) (i + 1) b2 (by rw [k2 77 (by omega)]; exact h77) (by omega) (by omega) (by rw [k2 78 (by omega), k2 79 (by omega)]; exact hln.2.2) (by rw [k2 75 (by omega), k2 76 (by omega)]; exact s3) (fun L' h => hg L' (List.mem_cons_of_mem _ h))
        rw [k2 80 (by omega)] at m1
        exact ⟨b3, m1, eP_t k2 m2⟩
      · rw [if_neg c1, if_neg c1]
        exact hval b2 k2
/-- a law that the reference took gives what its lines say -/
theorem lawM_l {w : Nat × Bool} {I : Nat → Nat → Int} {Ls : List cLn} (h39 : I 58 39 ≠ 0) (hm : Ls.length ≤ 61) (hn : (flt Ls).length ≤ 120) (h77 : I 77 0 = (Ls.length : Nat)) (hsg : seg2 (I 75) (I 76) 0 (flt Ls)) (hln : lnM (I 78) (I 79) 0 0 Ls) (hg : ∀ L, L ∈ Ls → LGood L) : lawM w I (fun v a b c => flv (env4 v a b c) Ls) := by
  refine Or.inr ⟨h39, ?_⟩
  rintro I' J ⟨a1, a2, a3⟩ d hd _ _ _ _
  obtain ⟨e, rfl⟩ : ∃ e, d = e + 1 := ⟨d - 1, by omega⟩
  obtain ⟨b', k1, k2⟩ := gv_l w J e Ls.length (by omega) hm Ls 0 0 I' (by rw [a2]; exact h77) (by omega) (by omega) (lnM_x Ls 0 0 (fun j _ h2 => a3 j (by omega)) hln) (seg2_x _ 0 (fun i _ h2 => a1 i (by omega)) hsg) hg
  have hv : flv (I' 80) Ls = flv (env4 (I' 80 0) (I' 80 1) (I' 80 2) (I' 80 3)) Ls := by
    refine flv_x (fun k hk => ?_) Ls hg
    unfold env4
    rcases (show k = 0 ∨ k = 1 ∨ k = 2 ∨ k = 3 by omega) with h | h | h | h <;> subst h
    · rw [if_pos rfl]
    · rw [if_neg (by omega), if_pos rfl]
    · rw [if_neg (by omega), if_neg (by omega), if_pos rfl]
    · rw [if_neg (by omega), if_neg (by omega), if_neg (by omega)]
  refine ⟨b', ?_, k2⟩
  show _ = some (some (vi (flv (env4 (I' 80 0) (I' 80 1) (I' 80 2) (I' 80 3)) Ls)), mk w b' J)
  rw [← hv, e_174, b_174_0, show wr ((61 : Int) * 0) = 0 from rfl]
  exact k1
