/-! the law's reader of the reference: what stands alone; all -/
theorem opn_M (w : Nat × Bool) (I J : Nat → Nat → Int) (tp : Nat → Int) (len g : Nat) (hT : TM0 I tp len) (ihA : ∀ k, k ≤ 5 → AMr w I J tp len g k) : AMr w I J tp len (g + 1) 5 := by
  intro dep p n d b hdep hm hd hM
  have htk := hT.2.1
  have hlen := htk.1
  obtain ⟨e, rfl⟩ : ∃ e, d = e + 1 := ⟨d - 1, by omega⟩
  unfold muk at hm
  rw [if_pos (by omega)] at hm
  show ∃ b', semC (e + 1) 164 [vr 58] (mk w b J) = some (none, mk w b' J) ∧ OM I len b p n dep (pr tp (g + 1) 5 dep p) b'
  have hnp := hM.2.2.2.2.2.2
  have hplen := hM.2.2.2.2.2.1
  have h158 := s_158 e w I J b tp len p (by omega) hT hM.1 hM.2.1
  rw [e_164, b_164_0, semK_of h158]
  simp only [mpush]
  rw [b_164_4, semK_of (s_161 _ _ _ _ _ (by omega)), tm_nam hT p]
  simp only [mpush]
  rw [b_164_9]
  have e33 := tm_eq hT p 33 (by omega)
  have e45 := tm_eq hT p 45 (by omega)
  have e40 := tm_eq hT p 40 (by omega)
  have hin : ∀ q, tp q ≠ -1 → q < len := fun q hq => by
    by_cases c : q < len
    · exact c
    · exact absurd (htk.2.2 q (by omega)) hq
  by_cases cn : nam (tp p) < 0
  · rw [if_pos cn, b_164_34]
    by_cases cop : tp p = 33 ∨ tp p = 45
    · have hgo : (if tm I len p = 33 then Sem e 164 46 [some (vr 58), some (vi (tm I len p))] [] (mk w b J) else Sem e 164 40 [some (vr 58), some (vi (tm I len p))] [] (mk w b J)) = Sem e 164 46 [some (vr 58), some (vi (tm I len p))] [] (mk w b J) := by
        by_cases q : tp p = 33
        · rw [if_pos (e33.2 q)]
        · rw [if_neg (fun h => q (e33.1 h)), b_164_40, if_pos (e45.2 (by omega))]
      rw [hgo, b_164_46]
      have hpl := hin p (by omega)
      have hdg : ¬ dig (tp p) = true := by
        unfold dig
        rw [decide_eq_true_eq]
        omega
      have hpr : pr tp (g + 1) 5 dep p = if dep < 6 then (if (pr tp g 5 (dep + 1) (p + 1)).1 = true then (true, (pr tp g 5 (dep + 1) (p + 1)).2.1, (pr tp g 5 (dep + 1) (p + 1)).2.2 ++ [(if tp p = 33 then 3 else 4, 0)]) else (false, (pr tp g 5 (dep + 1) (p + 1)).2.1, [])) else (false, p, []) := by
        rw [pr_5, if_neg hdg, if_neg (by omega), if_neg (by omega), if_pos cop]
      rw [hpr]
      by_cases c6 : dep < 6
      · rw [if_pos c6]
        obtain ⟨b1, k1, k2, k3, k4⟩ := s_162y e w I J b len p n dep (by omega) hM c6 hpl hlen
        obtain ⟨b2, m1, m2⟩ := ihA 5 (by omega) (dep + 1) (p + 1) n e b1 (by omega) (by unfold muk; rw [if_pos (by omega)]; omega) (by omega) k2
        have m1' : semC e 164 [vr 58] (mk w b1 J) = some (none, mk w b2 J) := m1
        have hpR := pr_R htk g 5 (dep + 1) (p + 1) (by omega) (by omega)
        rw [semK_of k1]
        simp only [mpush]
        rw [b_164_50, if_neg (by omega), b_164_54, semK_of m1']
        simp only [mpush]
        -- how it is laid
        have hlay : ∀ (b3 : Nat → Nat → Int), semC e 160 [vr 58, vi (if tp p = 33 then 3 else 4), vi 0] (mk w (up2 b2 58 30 (wr (b2 58 30 - 1))) J) = some (none, mk w b3 J) → Sem e 164 58 [some (vr 58), some (vi (tm I len p))] [] (mk w b2 J) = some (none, mk w b3 J) := by
          intro b3 h3
          rw [b_164_58]
          by_cases q : tp p = 33
          · rw [if_pos q] at h3
            rw [if_pos (e33.2 q), b_164_75, b_164_80, semK_of h3]
            simp only [mpush]
            rw [b_164_84, b_164_154]
          · rw [if_neg q] at h3
            rw [if_neg (fun h => q (e33.1 h)), b_164_79, b_164_80, semK_of h3]
            simp only [mpush]
            rw [b_164_84, b_164_154]
        have ha : -128 ≤ (if tp p = 33 then (3 : Int) else 4) ∧ (if tp p = 33 then (3 : Int) else 4) < 128 := by split <;> omega
        rcases m2 with ⟨r1, r2, r3, r4⟩ | ⟨r1, n', r2, r3⟩
        · rw [if_pos r1]
          have r2' := ML_dn r2 (by omega)
          obtain ⟨b3, v1, v2, v3, v4, v5⟩ := ML_lay e w I J _ (if tp p = 33 then 3 else 4) 0 len _ _ dep (by omega) hlen r2' (by omega) ha
          refine ⟨b3, hlay b3 v1, Or.inl ⟨rfl, ?_, ?_, ?_⟩⟩
          · show ML I len b3 _ (n + (_ ++ _ : List (Int × Int)).length) dep
            rw [List.length_append]
            exact v2
          · show segm _ _ n (_ ++ _)
            rw [segm_a]
            refine ⟨segm_x _ n (fun i h1 h2 => ?_) r3, v3, v4, trivial⟩
            have := v5 i (by omega)
            rw [up2_ne _ _ _ (by omega), up2_ne _ _ _ (by omega)] at this
            exact this
          · intro i hi
            have t1 := v5 i (by omega)
            rw [up2_ne _ _ _ (by omega), up2_ne _ _ _ (by omega)] at t1
            have t2 := r4 i hi
            rw [k3, k4] at t2
            exact ⟨t1.1.trans t2.1, t1.2.trans t2.2⟩
        · have hno : ¬ (pr tp g 5 (dep + 1) (p + 1)).1 = true := by rw [r1]; simp
          rw [if_neg hno]
          obtain ⟨b3, v1, v2⟩ := MF_lay e w I J _ (if tp p = 33 then 3 else 4) 0 len _ n' (by omega) hlen (MF_dn r2 (wr (b2 58 30 - 1))) (by omega) ha
          refine ⟨b3, hlay b3 v1, Or.inr ⟨rfl, n' + 1, v2, ?_⟩⟩
          show n' + 1 + p ≤ n + (pr tp g 5 (dep + 1) (p + 1)).2.1 + 1
          omega
      · rw [if_neg c6]
        have h6 : dep = 6 := by omega
        subst h6
        obtain ⟨b1, k1, k2⟩ := s_162n e w I J b len p n (by omega) hM
        rw [semK_of k1]
        simp only [mpush]
        rw [b_164_50, if_pos rfl, b_164_53]
        exact ⟨b1, rfl, Or.inr ⟨rfl, n, k2, by show n + p ≤ n + p + 1; omega⟩⟩
    · rw [if_neg (fun h => cop (Or.inl (e33.1 h))), b_164_40, if_neg (fun h => cop (Or.inr (e45.1 h))), b_164_87]
      by_cases c40 : tp p = 40
      · rw [if_pos (e40.2 c40), b_164_93]
        have hpl := hin p (by omega)
        have hdg : ¬ dig (tp p) = true := by
          unfold dig
          rw [decide_eq_true_eq]
          omega
        have hpr : pr tp (g + 1) 5 dep p = if dep < 6 then (if (pr tp g 0 (dep + 1) (p + 1)).1 = true then (if tp (pr tp g 0 (dep + 1) (p + 1)).2.1 = 41 then (true, (pr tp g 0 (dep + 1) (p + 1)).2.1 + 1, (pr tp g 0 (dep + 1) (p + 1)).2.2) else (false, (pr tp g 0 (dep + 1) (p + 1)).2.1, [])) else (false, (pr tp g 0 (dep + 1) (p + 1)).2.1, [])) else (false, p, []) := by
          rw [pr_5, if_neg hdg, if_neg (by omega), if_pos c40]
        rw [hpr]
        by_cases c6 : dep < 6
        · rw [if_pos c6]
          obtain ⟨b1, k1, k2, k3, k4⟩ := s_162y e w I J b len p n dep (by omega) hM c6 hpl hlen
          obtain ⟨b2, m1, m2⟩ := ihA 0 (by omega) (dep + 1) (p + 1) n e b1 (by omega) (by unfold muk; rw [if_pos (by omega)]; omega) (by omega) k2
          have m1' : semC e 169 [vr 58] (mk w b1 J) = some (none, mk w b2 J) := m1
          have hpR := pr_R htk g 0 (dep + 1) (p + 1) (by omega) (by omega)
          rw [semK_of k1]
          simp only [mpush]
          rw [b_164_97, if_neg (by omega), b_164_101, semK_of m1']
          simp only [mpush]
          rw [b_164_105]
          rcases m2 with ⟨r1, r2, r3, r4⟩ | ⟨r1, n', r2, r3⟩
          · rw [if_pos r1]
            have h158' := s_158 e w I J b2 tp len (pr tp g 0 (dep + 1) (p + 1)).2.1 (by omega) hT r2.1 r2.2.1
            have e41 := tm_eq hT (pr tp g 0 (dep + 1) (p + 1)).2.1 41 (by omega)
            rw [r2.2.2.1, if_pos (by omega), b_164_113, semK_of h158']
            simp only [mpush]
            rw [b_164_117]
            by_cases c41 : tp (pr tp g 0 (dep + 1) (p + 1)).2.1 = 41
            · have hin2 := hin (pr tp g 0 (dep + 1) (p + 1)).2.1 (by omega)
              obtain ⟨z1, z2, z3⟩ := ML_n r2 hin2 hlen
              have z1' := ML_dn z1 (by omega)
              rw [if_pos c41, if_pos (e41.2 c41), b_164_127, b_164_154]
              rw [up2_sne _ _ _ (show (30 : Nat) ≠ 28 by omega)] at z1'
              refine ⟨_, rfl, Or.inl ⟨rfl, z1', ?_, ?_⟩⟩
              · rw [up2_ne _ _ _ (by omega), up2_ne _ _ _ (by omega), up2_ne _ _ _ (by omega), up2_ne _ _ _ (by omega)]
                exact r3
              · intro i hi
                have t2 := r4 i hi
                rw [k3, k4] at t2
                rw [up2_ne _ _ _ (by omega), up2_ne _ _ _ (by omega), up2_ne _ _ _ (by omega), up2_ne _ _ _ (by omega)]
                exact t2
            · obtain ⟨b3, v1, v2, v3, v4⟩ := s_159l e w I J b2 len _ _ (dep + 1) (by omega) r2
              rw [if_neg c41, if_neg (fun h => c41 (e41.1 h)), b_164_122, semK_of v1]
              simp only [mpush]
              rw [b_164_126]
              refine ⟨b3, rfl, Or.inr ⟨rfl, _, v2, ?_⟩⟩
              show n + (pr tp g 0 (dep + 1) (p + 1)).2.2.length + p ≤ n + (pr tp g 0 (dep + 1) (p + 1)).2.1 + 1
              omega
          · have hno : ¬ (pr tp g 0 (dep + 1) (p + 1)).1 = true := by rw [r1]; simp
            rw [if_neg hno, r2.2.2.1, if_neg (by omega), b_164_112]
            refine ⟨b2, rfl, Or.inr ⟨rfl, n', r2, ?_⟩⟩
            show n' + p ≤ n + (pr tp g 0 (dep + 1) (p + 1)).2.1 + 1
            omega
        · rw [if_neg c6]
          have h6 : dep = 6 := by omega
          subst h6
          obtain ⟨b1, k1, k2⟩ := s_162n e w I J b len p n (by omega) hM
          rw [semK_of k1]
          simp only [mpush]
          rw [b_164_97, if_pos rfl, b_164_100]
          exact ⟨b1, rfl, Or.inr ⟨rfl, n, k2, by show n + p ≤ n + p + 1; omega⟩⟩
      · obtain ⟨b1, k1, k2⟩ := s_163 e w I J b tp len p n dep g (by omega) hT hM ⟨cn, c40, fun h => cop (Or.inl h), fun h => cop (Or.inr h)⟩
        rw [if_neg (fun h => c40 (e40.1 h)), b_164_150, semK_of k1]
        simp only [mpush]
        rw [b_164_154]
        exact ⟨b1, rfl, k2⟩
  · have hpl := hin p (fun h => cn (by rw [h]; decide))
    have hnR : 0 ≤ nam (tp p) ∧ nam (tp p) ≤ 3 := by
      refine ⟨by omega, ?_⟩
      unfold nam
      repeat' split
      all_goals omega
    have hdg : ¬ dig (tp p) = true := by
      unfold dig
      rw [decide_eq_true_eq]
      intro h
      apply cn
      unfold nam
      rw [if_neg (by omega), if_neg (by omega), if_neg (by omega), if_neg (by omega)]
      omega
    have hpr : pr tp (g + 1) 5 dep p = (true, p + 1, [(2, nam (tp p))]) := by
      rw [pr_5, if_neg hdg, if_pos (by omega)]
    obtain ⟨h1, h2, h3, h4, h5, h6, h7⟩ := hM
    obtain ⟨b', k1, k2, k3, k4, k5, k6, k7⟩ := s_160 e w I J b 2 (nam (tp p)) n (by omega) h1 h5 (by omega) (by omega)
    rw [if_neg cn, b_164_12, semK_of (s_161 _ _ _ _ _ (by omega)), tm_nam hT p]
    simp only [mpush]
    rw [b_164_18, semK_of k1, hpr]
    simp only [mpush]
    rw [b_164_21, b_164_154, k3 28 (by omega), h2, wr_n1 (by omega)]
    refine ⟨_, rfl, Or.inl ⟨rfl, ⟨EL_u k2 28 _ (by omega), ?_, ?_, ?_, ?_, by show p + 1 ≤ len; omega, by show n + 1 ≤ p + 1; omega⟩, ⟨?_, ?_, trivial⟩, ?_⟩⟩
    · rw [up2_s]
    · rw [up2_sne _ _ _ (by omega), k3 29 (by omega), h3]
    · rw [up2_sne _ _ _ (by omega), k3 30 (by omega), h4]
    · rw [up2_sne _ _ _ (by omega), k4]
      rfl
    · rw [up2_ne _ _ _ (by omega), k5]
    · rw [up2_ne _ _ _ (by omega), k6]
    · intro i hi
      rw [up2_ne _ _ _ (by omega), up2_ne _ _ _ (by omega)]
      exact k7 i (by omega)
theorem rd_allM (w : Nat × Bool) (I J : Nat → Nat → Int) (tp : Nat → Int) (len : Nat) (hT : TM0 I tp len) : ∀ g, (∀ k, k ≤ 5 → AMr w I J tp len g k) ∧ ∀ l, l < 5 → LMr w I J tp len g l := by
  have htk := hT.2.1
  have hlen := htk.1
  intro g
  induction g with
  | zero =>
    refine ⟨?_, ?_⟩
    · intro k hk dep p n d b _ hm; unfold muk at hm; rw [if_pos hk] at hm; omega
    · intro l hl dep p n e b _ hm; unfold muk at hm; rw [if_neg (by omega)] at hm; omega
  | succ g ih =>
    obtain ⟨ihA, ihL⟩ := ih
    refine ⟨?_, ?_⟩
    · intro k hk
      by_cases c5 : k = 5
      · subst c5; exact opn_M w I J tp len g hT ihA
      · intro dep p n d b hdep hm hd hM
        obtain ⟨e, rfl⟩ : ∃ e, d = e + 1 := ⟨d - 1, by omega⟩
        unfold muk at hm
        rw [if_pos (by omega)] at hm
        have hnp := hM.2.2.2.2.2.2
        have hplen := hM.2.2.2.2.2.1
        have hpR := pr_R htk g (k + 1) dep p (by omega) hplen
        obtain ⟨b1, k1, k2⟩ := ihA (k + 1) (by omega) dep p n e b hdep (by unfold muk; rw [if_pos (by omega)]; omega) (by omega) hM
        rw [pr_e (show k < 5 by omega)]
        rcases k2 with ⟨r1, r2, r3, r4⟩ | ⟨r1, n', r2, r3⟩
        · have hgt := hpR.2.2.2 (by omega) r1
          obtain ⟨b2, m1, m2⟩ := ihL k (by omega) dep _ _ e b1 hdep (by unfold muk; rw [if_neg (by omega)]; omega) (by omega) r2
          rw [if_pos r1]
          refine ⟨b2, ent_M (by omega) k1 m1, ?_⟩
          rcases m2 with ⟨s1, s2, s3, s4⟩ | ⟨s1, n'', s2, s3⟩
          · refine Or.inl ⟨s1, ?_, ?_, ?_⟩
            · show ML I len b2 _ (n + (_ ++ _ : List (Int × Int)).length) dep
              rw [List.length_append, ← Nat.add_assoc]
              exact s2
            · show segm _ _ n (_ ++ _)
              rw [segm_a]
              exact ⟨segm_x _ n (fun i h1 h2 => s4 i (by omega)) r3, s3⟩
            · intro i hi
              have t1 := s4 i (by omega)
              have t2 := r4 i hi
              exact ⟨t1.1.trans t2.1, t1.2.trans t2.2⟩
          · refine Or.inr ⟨s1, n'', s2, ?_⟩
            show n'' + p ≤ n + (pr tp g (k + 6) dep (pr tp g (k + 1) dep p).2.1).2.1 + 1
            omega
        · have hno : ¬ (pr tp g (k + 1) dep p).1 = true := by rw [r1]; simp
          rw [if_neg hno]
          exact ⟨b1, ent_M (by omega) k1 (RMr_F (by omega) hT (by omega) r2), Or.inr ⟨rfl, n', r2, r3⟩⟩
    · intro l hl dep p n e b hdep hm he hM
      by_cases cl : lvl (tp p) = l
      · obtain ⟨b1, b2, b', k1, k2, k3, k4, k5⟩ := op_on w I J tp len g l dep p n e b hT hl hdep hm he hM cl ihA ihL
        exact ⟨b', RMr_yes (by omega) hT hl hM.1 hM.2.1 hM.2.2.1 cl k1 k2 k3 (fun h => by rw [k4 h]), k5⟩
      · refine ⟨b, RMr_no (by omega) hT hl hM.1 hM.2.1 hM.2.2.1 cl, ?_⟩
        rw [pr_r, if_neg cl]
        exact Or.inl ⟨rfl, hM, trivial, fun _ _ => ⟨rfl, rfl⟩⟩
