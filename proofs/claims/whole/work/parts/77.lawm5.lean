/-! the reference takes a law -/
def flt : List cLn → List (Int × Int)
  | [] => []
  | L :: Ls => (L.1 ++ L.2) ++ flt Ls
def lnM (t l : Nat → Int) : Nat → Nat → List cLn → Prop
  | _, _, [] => True
  | n, i, L :: Ls => t i = ((n + L.1.length : Nat) : Int) ∧ l i = ((n + (L.1.length + L.2.length) : Nat) : Int) ∧ lnM t l (n + (L.1.length + L.2.length)) (i + 1) Ls
theorem flt_c (L : cLn) (Ls : List cLn) : (flt (L :: Ls)).length = L.1.length + L.2.length + (flt Ls).length := by
  show ((L.1 ++ L.2) ++ flt Ls).length = _
  rw [List.length_append, List.length_append]
theorem flt_a (L : cLn) : ∀ A, flt (A ++ [L]) = flt A ++ (L.1 ++ L.2)
  | [] => by show (L.1 ++ L.2) ++ [] = [] ++ (L.1 ++ L.2); rw [List.append_nil, List.nil_append]
  | B :: A => by show (B.1 ++ B.2) ++ flt (A ++ [L]) = ((B.1 ++ B.2) ++ flt A) ++ (L.1 ++ L.2); rw [flt_a L A]; simp only [List.append_assoc]
theorem flt_al (L : cLn) (A : List cLn) : (flt (A ++ [L])).length = (flt A).length + (L.1.length + L.2.length) := by rw [flt_a, List.length_append, List.length_append]
theorem lnM_a (t l : Nat → Int) (L : cLn) : ∀ A n i, lnM t l n i A → t (i + A.length) = ((n + (flt A).length + L.1.length : Nat) : Int) → l (i + A.length) = ((n + (flt A).length + (L.1.length + L.2.length) : Nat) : Int) → lnM t l n i (A ++ [L])
  | [], n, i, _, h1, h2 => ⟨h1, h2, trivial⟩
  | B :: A, n, i, h, h1, h2 => by
    rw [flt_c] at h1 h2
    have e : i + (B :: A).length = i + 1 + A.length := by show i + (A.length + 1) = _; omega
    rw [e] at h1 h2
    refine ⟨h.1, h.2.1, lnM_a t l L A _ _ h.2.2 ?_ ?_⟩
    · rw [h1]; congr 1; omega
    · rw [h2]; congr 1; omega
theorem lnM_x {t l t' l' : Nat → Int} : ∀ A n i, (∀ j, i ≤ j → j < i + A.length → t' j = t j ∧ l' j = l j) → lnM t l n i A → lnM t' l' n i A
  | [], _, _, _, _ => trivial
  | B :: A, n, i, h, hl => by
    have h0 := h i (Nat.le_refl _) (by show i < i + (A.length + 1); omega)
    exact ⟨h0.1.trans hl.1, h0.2.trans hl.2.1, lnM_x A _ _ (fun j h1 h2 => h j (by omega) (by show j < i + (A.length + 1); omega)) hl.2.2⟩
theorem lnM_at {t l : Nat → Int} : ∀ A n i, lnM t l n i A → ∀ j, j < A.length → ∃ a b : Nat, t (i + j) = (a : Int) ∧ l (i + j) = (b : Int) ∧ a ≤ n + (flt A).length ∧ b ≤ n + (flt A).length
  | [], _, _, _, j, hj => absurd hj (Nat.not_lt_zero j)
  | B :: A, n, i, h, j, hj => by
    rw [flt_c]
    cases j with
    | zero => exact ⟨_, _, h.1, h.2.1, by omega, by omega⟩
    | succ j =>
      obtain ⟨a, b, h1, h2, h3, h4⟩ := lnM_at A _ _ h.2.2 j (by have : j + 1 < A.length + 1 := hj; omega)
      rw [show i + 1 + j = i + (j + 1) by omega] at h1 h2
      exact ⟨a, b, h1, h2, by omega, by omega⟩
def seg2 (a m : Nat → Int) (n : Nat) : List (Int × Int) → Prop
  | [] => True
  | c :: cs => a n = c.1 ∧ m n = c.2 ∧ seg2 a m (n + 1) cs
theorem seg2_a (a m : Nat → Int) : ∀ c1 c2 n, seg2 a m n (c1 ++ c2) ↔ seg2 a m n c1 ∧ seg2 a m (n + c1.length) c2
  | [], c2, n => by simp [seg2]
  | c :: cs, c2, n => by
    show _ ∧ _ ∧ seg2 a m (n + 1) (cs ++ c2) ↔ (_ ∧ _ ∧ seg2 a m (n + 1) cs) ∧ seg2 a m (n + (cs.length + 1)) c2
    rw [seg2_a a m cs c2 (n + 1), show n + 1 + cs.length = n + (cs.length + 1) by omega, and_assoc, and_assoc]
theorem seg2_x {a m a' m' : Nat → Int} : ∀ c n, (∀ i, n ≤ i → i < n + c.length → a' i = a i ∧ m' i = m i) → seg2 a m n c → seg2 a' m' n c
  | [], _, _, _ => trivial
  | c :: cs, n, h, hs => by
    have h0 := h n (Nat.le_refl _) (by show n < n + (cs.length + 1); omega)
    exact ⟨h0.1.trans hs.1, h0.2.trans hs.2.1, seg2_x cs (n + 1) (fun i h1 h2 => h i (by omega) (by show i < n + (cs.length + 1); omega)) hs.2.2⟩
theorem segm_2 {r75 r76 a m : Nat → Int} : ∀ c n, (∀ i, n ≤ i → i < n + c.length → a i = r75 (130 + i) ∧ m i = r76 (130 + i)) → segm r75 r76 n c → seg2 a m n c
  | [], _, _, _ => trivial
  | c :: cs, n, h, hs => by
    have h0 := h n (Nat.le_refl _) (by show n < n + (cs.length + 1); omega)
    exact ⟨h0.1.trans hs.1, h0.2.trans hs.2.1, segm_2 cs (n + 1) (fun i h1 h2 => h i (by omega) (by show i < n + (cs.length + 1); omega)) hs.2.2⟩
theorem segm_at {r75 r76 : Nat → Int} : ∀ c n, segm r75 r76 n c → ∀ i, n ≤ i → i < n + c.length → ∃ x, x ∈ c ∧ r75 (130 + i) = x.1
  | [], n, _, i, h1, h2 => absurd h2 (by show ¬ i < n + 0; omega)
  | c :: cs, n, hs, i, h1, h2 => by
    have h2' : i < n + (cs.length + 1) := h2
    by_cases e : i = n
    · subst e; exact ⟨c, List.mem_cons_self, hs.1⟩
    · obtain ⟨x, hx, hv⟩ := segm_at cs (n + 1) hs.2.2 i (by omega) (by omega)
      exact ⟨x, List.mem_cons_of_mem _ hx, hv⟩
theorem okc_all : ∀ c h h', okc c h h' → ∀ x, x ∈ c → cok x
  | [], _, _, _, x, hx => by cases hx
  | c :: cs, h, h', ho, x, hx => by
    rcases List.mem_cons.mp hx with e | e
    · rw [e]; exact ho.1
    · exact okc_all cs _ h' ho.2.2 x e
theorem flt_ok : ∀ Ls : List cLn, (∀ L, L ∈ Ls → LGood L) → ∀ x, x ∈ flt Ls → cok x
  | [], _, x, hx => by cases hx
  | L :: Ls, hg, x, hx => by
    obtain ⟨g1, g2⟩ := hg L List.mem_cons_self
    have hx : x ∈ (L.1 ++ L.2) ++ flt Ls := hx
    rw [List.mem_append, List.mem_append] at hx
    rcases hx with (hx | hx) | hx
    · rcases g1 with g1 | g1
      · rw [g1] at hx; cases hx
      · exact okc_all _ _ _ (g1.1 0) x hx
    · exact okc_all _ _ _ (g2.1 0) x hx
    · exact flt_ok Ls (fun L' h => hg L' (List.mem_cons_of_mem _ h)) x hx
theorem cok_R {c : Int × Int} (h : cok c) : -128 ≤ c.1 ∧ c.1 < 128 := by
  rcases h with h | h | h | h | h <;> omega
theorem lns_G {tp : Nat → Int} {len : Nat} (h : tpk tp len) : ∀ m p, p ≤ len → (lns tp m p).1 = true → (∀ L, L ∈ (lns tp m p).2.2 → LGood L) ∧ (lns tp m p).2.2 ≠ [] ∧ p ≤ (lns tp m p).2.1 ∧ (lns tp m p).2.1 ≤ len
  | 0, p, _, h0 => by cases h0
  | m + 1, p, hp, ht => by
    obtain ⟨hl1, hl2, hl3⟩ := ln_R h hp
    rw [lns_s] at ht ⊢
    by_cases c1 : (ln tp p).1 = true
    · rw [if_pos c1] at ht ⊢
      obtain ⟨m1, m2, m3⟩ := hl3 c1
      by_cases c2 : tp (ln tp p).2.1 = 59
      · rw [if_pos c2] at ht ⊢
        have hin : (ln tp p).2.1 < len := by
          by_cases q : (ln tp p).2.1 < len
          · exact q
          · have := h.2.2 _ (show len ≤ (ln tp p).2.1 by omega); omega
        obtain ⟨i1, i2, i3, i4⟩ := lns_G h m ((ln tp p).2.1 + 1) (by omega) ht
        refine ⟨fun L hL => ?_, fun h => by simp at h, by show p ≤ (lns tp m ((ln tp p).2.1 + 1)).2.1; omega, i4⟩
        rcases List.mem_cons.mp hL with e | e
        · rw [e]; exact m3
        · exact i1 L e
      · rw [if_neg c2] at ht ⊢
        by_cases c3 : tp (ln tp p).2.1 = -1
        · rw [if_pos c3]
          refine ⟨fun L hL => ?_, fun h => by simp at h, hl1, hl2⟩
          rcases List.mem_cons.mp hL with e | e
          · rw [e]; exact m3
          · cases e
        · rw [if_neg c3] at ht
          cases ht
    · rw [if_neg c1] at ht
      cases ht
theorem EN_27 {I b : Nat → Nat → Int} (h : EN I b) : EN (up2 I 58 27 0) (up2 b 58 27 0) := by
  obtain ⟨h1, h2, h3, h4, h5⟩ := h
  refine ⟨fun c a1 a2 a3 a4 a5 a6 => by rw [up2_ne _ _ _ a1, up2_ne _ _ _ a1]; exact h1 c a1 a2 a3 a4 a5 a6, fun k a1 a2 a3 a4 => ?_, fun k hk => by rw [up2_ne _ _ _ (by omega), up2_ne _ _ _ (by omega), up2_ne _ _ _ (by omega), up2_ne _ _ _ (by omega)]; exact h3 k hk, by rw [up2_ne _ _ _ (by omega), up2_ne _ _ _ (by omega)]; exact h4, fun k hk => by rw [up2_ne _ _ _ (by omega), up2_ne _ _ _ (by omega), up2_ne _ _ _ (by omega), up2_ne _ _ _ (by omega)]; exact h5 k hk⟩
  by_cases e : k = 27
  · subst e; rw [up2_s, up2_s]
  · rw [up2_sne _ _ _ e, up2_sne _ _ _ e]; exact h2 k a1 a2 a3 a4
/-- lines are read up to the end, or to a fault -/
theorem rd_171 (d : Nat) (w : Nat × Bool) (I J : Nat → Nat → Int) (e : Nat) (tp : Nat → Int) (len : Nat) (he : 101 ≤ e) (hT : TM0 I tp len) :
    ∃ b, EN (up2 I 58 27 0) b ∧ (((lns tp 61 0).1 = true ∧ semC (e + 1) 171 [vr 58, vi 0] (mk w I J) = Sem e 171 103 [some (vr 58), some (vi 0), none] [] (mk w b J) ∧ b 58 31 = (((flt (lns tp 61 0).2.2).length : Nat) : Int) ∧ (flt (lns tp 61 0).2.2).length ≤ 120 ∧ b 77 1 = ((lns tp 61 0).2.2.length : Nat) ∧ (lns tp 61 0).2.2.length ≤ 61 ∧ segm (b 75) (b 76) 0 (flt (lns tp 61 0).2.2) ∧ lnM (fun i => b 78 (61 + i)) (fun i => b 79 (61 + i)) 0 0 (lns tp 61 0).2.2)
      ∨ ((lns tp 61 0).1 = false ∧ semC (e + 1) 171 [vr 58, vi 0] (mk w I J) = some (some (vi ((lns tp 61 0).2.1 : Int)), mk w b J))) := by
  have htk := hT.2.1
  have hlen := htk.1
  rw [e_171, b_171_0, if_pos (by omega), show ((1 : Int)).toNat = 1 from rfl]
  have h0 : LSm I len (up2 (up2 (up2 (up2 (up2 I 58 28 0) 58 29 (-1)) 58 30 0) 58 31 0) 77 1 0) 0 0 0 := by
    have hr : EN I I := ⟨fun _ _ _ _ _ _ _ => rfl, fun _ _ _ _ _ => rfl, fun _ _ => ⟨rfl, rfl⟩, rfl, fun _ _ => ⟨rfl, rfl⟩⟩
    refine ⟨EN_77 (EN_58 (EN_58 (EN_58 (EN_58 hr 28 _ (by omega)) 29 _ (by omega)) 30 _ (by omega)) 31 _ (by omega)) _, ?_, ?_, ?_, ?_, by omega, by omega, ?_⟩
    · rw [up2_ne _ _ _ (by omega), up2_sne _ _ _ (by omega), up2_sne _ _ _ (by omega), up2_sne _ _ _ (by omega), up2_s]; rfl
    · rw [up2_ne _ _ _ (by omega), up2_sne _ _ _ (by omega), up2_sne _ _ _ (by omega), up2_s]
    · rw [up2_ne _ _ _ (by omega), up2_sne _ _ _ (by omega), up2_s]
    · rw [up2_ne _ _ _ (by omega), up2_s]; rfl
    · rw [up2_s]; rfl
  generalize up2 (up2 (up2 (up2 (up2 I 58 28 0) 58 29 (-1)) 58 30 0) 58 31 0) 77 1 0 = bs at h0
  refine lpQ (fun (i : Nat) (q : (Nat → Nat → Int) × Nat × List cLn × Nat) => semK e 171 170 [vr 58] q.2.2.2 [some (vr 58), some (vi 0), none] [] (mk w q.1 J)) (fun i q => q.2.2.1.length = i ∧ (q.2.2.2 = 31 ∨ q.2.2.2 = 61) ∧ LSm I len q.1 q.2.1 (flt q.2.2.1).length i ∧ 2 * i ≤ q.2.1 ∧ segm (q.1 75) (q.1 76) 0 (flt q.2.2.1) ∧ lnM (fun i => q.1 78 (61 + i)) (fun i => q.1 79 (61 + i)) 0 0 q.2.2.1 ∧ (lns tp 61 0).1 = (lns tp (61 - i) q.2.1).1 ∧ (lns tp 61 0).2.1 = (lns tp (61 - i) q.2.1).2.1 ∧ ((lns tp (61 - i) q.2.1).1 = true → (lns tp 61 0).2.2 = q.2.2.1 ++ (lns tp (61 - i) q.2.1).2.2))
    (fun out => ∃ b, EN (up2 I 58 27 0) b ∧ (((lns tp 61 0).1 = true ∧ out = Sem e 171 103 [some (vr 58), some (vi 0), none] [] (mk w b J) ∧ b 58 31 = (((flt (lns tp 61 0).2.2).length : Nat) : Int) ∧ (flt (lns tp 61 0).2.2).length ≤ 120 ∧ b 77 1 = ((lns tp 61 0).2.2.length : Nat) ∧ (lns tp 61 0).2.2.length ≤ 61 ∧ segm (b 75) (b 76) 0 (flt (lns tp 61 0).2.2) ∧ lnM (fun i => b 78 (61 + i)) (fun i => b 79 (61 + i)) 0 0 (lns tp 61 0).2.2)
      ∨ ((lns tp 61 0).1 = false ∧ out = some (some (vi ((lns tp 61 0).2.1 : Int)), mk w b J)))) 61 ?_ ?_ (bs, 0, [], 31) ⟨rfl, Or.inl rfl, h0, Nat.le_refl _, trivial, trivial, rfl, rfl, fun _ => rfl⟩
  · rintro i ⟨b, p, A, pc⟩ hi ⟨p0, pp, p1, p3, p4, p4', p5, p6, p7⟩
    try dsimp only at p0 pp p1 p3 p4 p4' p5 p6 p7 ⊢
    have hplen : p ≤ len := p1.2.2.2.2.2.1
    obtain ⟨b1, k1, k2⟩ := s_170 e w I J b tp len p (flt A).length i (by omega) hT p1 (by omega)
    have hlR := ln_R htk hplen
    have hls : lns tp (61 - i) p = lns tp ((60 - i) + 1) p := by rw [show 61 - i = 60 - i + 1 by omega]
    rw [hls, lns_s tp (60 - i) p] at p5 p6 p7
    have hto : semK e 171 170 [vr 58] pc [some (vr 58), some (vi 0), none] [] (mk w b J) = Sem e 171 31 [some (vr 58), some (vi 0), none] [] (mk w b1 J) := by
      rw [semK_of k1]
      simp only [mpush]
      rcases pp with rfl | rfl
      · rfl
      · rw [b_171_61]
    rw [hto, b_171_31]
    rcases k2 with ⟨q1, q2, q3, q4, q5, q6, q7⟩ | ⟨q1, q2, q3, q4⟩
    · rw [if_pos q1] at p5 p6 p7
      obtain ⟨hl1, hl2, hl3⟩ := hlR.2.2 q1
      have h158 := s_158 e w b1 J b1 tp len (ln tp p).2.1 (by omega) (TM_N hT q2.1) (EL_r b1) q2.2.1
      have e59 := tm_eq (TM_N hT q2.1) (ln tp p).2.1 59 (by omega)
      have hq120 := q2.2.2.2.2.2.1
      rw [q2.2.2.1, if_pos (by omega), b_171_38, semK_of h158]
      simp only [mpush]
      rw [b_171_42]
      have hAl : (A ++ [(ln tp p).2.2]).length = i + 1 := by rw [List.length_append, p0]; rfl
      have hsg : segm (b1 75) (b1 76) 0 (flt (A ++ [(ln tp p).2.2])) := by
        rw [flt_a, segm_a]
        refine ⟨segm_x _ 0 (fun j _ h2 => q6 j (by omega)) p4, ?_⟩
        rw [Nat.zero_add]; exact q5
      have hln : lnM (fun i => b1 78 (61 + i)) (fun i => b1 79 (61 + i)) 0 0 (A ++ [(ln tp p).2.2]) := by
        refine lnM_a _ _ _ A 0 0 (lnM_x A 0 0 (fun j _ h2 => q7 j (by omega)) p4') ?_ ?_
        · rw [Nat.zero_add, Nat.zero_add, p0]; exact q3
        · rw [Nat.zero_add, Nat.zero_add, p0]; exact q4
      by_cases c59 : tp (ln tp p).2.1 = 59
      · rw [if_pos c59] at p5 p6 p7
        left
        have hin : (ln tp p).2.1 < len := by
          by_cases q : (ln tp p).2.1 < len
          · exact q
          · have := htk.2.2 _ (show len ≤ (ln tp p).2.1 by omega); omega
        rw [if_pos (e59.2 c59), b_171_47, q2.2.1, wr_n1 (by omega)]
        refine ⟨(up2 b1 58 28 (((ln tp p).2.1 + 1 : Nat) : Int), (ln tp p).2.1 + 1, A ++ [(ln tp p).2.2], 61), rfl, hAl, Or.inr rfl, ?_, ?_, ?_, ?_, ?_, ?_, ?_⟩
        · show LSm I len (up2 b1 58 28 (((ln tp p).2.1 + 1 : Nat) : Int)) ((ln tp p).2.1 + 1) (flt (A ++ [(ln tp p).2.2])).length (i + 1)
          rw [flt_al]
          obtain ⟨y1, y2, y3, y4, y5, y6, y7, y8⟩ := q2
          refine ⟨EN_58 y1 28 _ (by omega), ?_, ?_, ?_, ?_, by omega, by omega, ?_⟩
          · rw [up2_s]
          · rw [up2_sne _ _ _ (by omega), y3]
          · rw [up2_sne _ _ _ (by omega), y4]
          · rw [up2_sne _ _ _ (by omega), y5]
          · rw [up2_ne _ _ _ (by omega), y8]
        · show 2 * (i + 1) ≤ (ln tp p).2.1 + 1
          omega
        · show segm (up2 b1 58 28 (((ln tp p).2.1 + 1 : Nat) : Int) 75) (up2 b1 58 28 (((ln tp p).2.1 + 1 : Nat) : Int) 76) 0 _
          rw [up2_ne _ _ _ (by omega), up2_ne _ _ _ (by omega)]; exact hsg
        · show lnM (fun i => up2 b1 58 28 (((ln tp p).2.1 + 1 : Nat) : Int) 78 (61 + i)) (fun i => up2 b1 58 28 (((ln tp p).2.1 + 1 : Nat) : Int) 79 (61 + i)) 0 0 _
          rw [up2_ne _ _ _ (show (78 : Nat) ≠ 58 by omega), up2_ne _ _ _ (show (79 : Nat) ≠ 58 by omega)]; exact hln
        · rw [p5, show 61 - (i + 1) = 60 - i by omega]
        · rw [p6, show 61 - (i + 1) = 60 - i by omega]
        · rw [show 61 - (i + 1) = 60 - i by omega]
          intro h
          rw [p7 h, List.append_assoc]
          rfl
      · right
        rw [if_neg c59] at p5 p6 p7
        have h27 : b1 58 27 = (len : Int) := by rw [q2.1.2.1 27 (by omega) (by omega) (by omega) (by omega)]; exact hT.1
        rw [if_neg (fun h => c59 (e59.1 h)), b_171_64, q2.2.2.1, if_pos (by omega), b_171_71, q2.2.1, h27]
        by_cases ce : tp (ln tp p).2.1 = -1
        · rw [if_pos ce] at p5 p6 p7
          have hge : ¬ (ln tp p).2.1 < len := fun h => by have := htk.2.1 _ h; omega
          have hL := p7 rfl
          have hL' : (lns tp 61 0).2.2 = A ++ [(ln tp p).2.2] := hL
          rw [if_neg (by omega), b_171_86, q2.2.2.1, if_pos (by omega)]
          refine ⟨_, EN_27 q2.1, Or.inl ⟨p5, rfl, ?_, ?_, ?_, ?_, ?_, ?_⟩⟩
          · rw [hL', flt_al, up2_sne _ _ _ (by omega)]; exact q2.2.2.2.2.1
          · rw [hL', flt_al]; have := q2.2.2.2.2.2.2.1; omega
          · rw [hL', hAl, up2_ne _ _ _ (by omega)]; exact q2.2.2.2.2.2.2.2
          · rw [hL', hAl]; omega
          · rw [hL', up2_ne _ _ _ (by omega), up2_ne _ _ _ (by omega)]; exact hsg
          · rw [hL', up2_ne _ _ _ (show (78 : Nat) ≠ 58 by omega), up2_ne _ _ _ (show (79 : Nat) ≠ 58 by omega)]; exact hln
        · rw [if_neg ce] at p5 p6
          have hlt : (ln tp p).2.1 < len := by
            by_cases q : (ln tp p).2.1 < len
            · exact q
            · exact absurd (htk.2.2 _ (by omega)) ce
          have h159 : semC e 159 [vr 58] (mk w b1 J) = some (none, mk w (up2 b1 58 29 ((ln tp p).2.1 : Int)) J) := by
            obtain ⟨e', rfl⟩ : ∃ e', e = e' + 1 := ⟨e - 1, by omega⟩
            rw [e_159, b_159_0, q2.2.2.1, if_pos (by omega), b_159_7, b_159_15, q2.2.1]
          rw [if_pos (by omega), b_171_82, semK_of h159]
          simp only [mpush]
          rw [b_171_86, up2_s, if_neg (by omega), b_171_98, up2_sne _ _ _ (by omega), up2_s]
          exact ⟨_, EN_27 (EN_58 q2.1 29 _ (by omega)), Or.inr ⟨p5, by rw [p6]⟩⟩
    · have hno : ¬ (ln tp p).1 = true := by rw [q1]; simp
      rw [if_neg hno] at p5 p6
      right
      rw [q4, if_neg (by omega), b_171_64, q4, if_neg (by omega), b_171_86, q4, if_neg (by omega), b_171_98, up2_sne _ _ _ (by omega), q4]
      exact ⟨_, EN_27 q2, Or.inr ⟨p5, by rw [p6]⟩⟩
  · rintro ⟨b, p, A, pc⟩ ⟨p0, pp, p1, p3, p4, p4', p5, p6, p7⟩
    try dsimp only at p1 p3
    have hplen : p ≤ len := p1.2.2.2.2.2.1
    omega
