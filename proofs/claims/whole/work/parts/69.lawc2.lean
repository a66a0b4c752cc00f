/-! the law's reader of the class, whole expressions -/
def muk (len k p : Nat) : Nat := 16 * (len - p) + (if k ≤ 5 then 10 - k else 4)
/-- what is told of one reading by the class -/
def AC (w : Nat × Bool) (I J : Nat → Nat → Int) (tp : Nat → Int) (len g k : Nat) : Prop := ∀ (dep p n d : Nat) (b : Nat → Nat → Int), dep ≤ 6 → muk len k p ≤ g → 12 + 8 * (6 - dep) + (6 - k) ≤ d → CL w I len b p n → n ≤ p →
  ∃ o b', semC d 41 [vr 17, vi k, vi dep] (mk w b J) = some (some (vi o), mk w b' J) ∧ OC w I tp len b n (pr tp g k dep p) o b'
def BC5 (w : Nat × Bool) (I J : Nat → Nat → Int) (tp : Nat → Int) (len g : Nat) : Prop := ∀ (dep p n d : Nat) (b : Nat → Nat → Int), dep ≤ 6 → muk len 5 p ≤ g → 12 + 8 * (6 - dep) ≤ d → CL w I len b p n → n ≤ p →
  ∃ o b', semC d 43 [vr 17, vi dep] (mk w b J) = some (some (vi o), mk w b' J) ∧ OC w I tp len b n (pr tp g 5 dep p) o b'
def LC (w : Nat × Bool) (I J : Nat → Nat → Int) (tp : Nat → Int) (len g l : Nat) : Prop := ∀ (dep p n e x3 : Nat) (u4 : Option mVal) (b : Nat → Nat → Int), dep ≤ 6 → muk len (l + 6) p ≤ g → 12 + 8 * (6 - dep) + (5 - l) ≤ e → CL w I len b p n → n ≤ p → 2 * x3 + 1 ≤ p →
  ∃ o b', Sem e 41 26 [some (vr 17), some (vi (l : Int)), some (vi (dep : Int)), some (vi (x3 : Int)), u4] [] (mk w b J) = some (some (vi o), mk w b' J) ∧ OC w I tp len b n (pr tp g (l + 6) dep p) o b'
/-- the loop ends at a digit -/
theorem lp_dig (d : Nat) (w : Nat × Bool) (I J : Nat → Nat → Int) (e : Nat) (b : Nat → Nat → Int) (tp : Nat → Int) (len p n l dep x3 : Nat) (u4 : Option mVal) (he : 2 ≤ e) (hT : TC0 I tp len) (hC : CL w I len b p n) (hd : dig (tp p) = true) (hl : l < 5) (hx : x3 < 120) :
    Sem e 41 26 [some (vr 17), some (vi (l : Int)), some (vi (dep : Int)), some (vi (x3 : Int)), u4] [] (mk w b J) = some (some (vi 1), mk w b J) := by
  have h37 := s_37 e w I J b tp len p n (by omega) hT hC
  have hlv : lvl (tp p) = 5 := by
    unfold dig at hd
    have := of_decide_eq_true hd
    unfold lvl
    rw [if_neg (by omega), if_neg (by omega), if_neg (by omega), if_neg (by omega), if_neg (by omega)]
  rw [b_41_26, if_pos (by omega), b_41_32, semK_of h37]
  simp only [mpush]
  rw [b_41_36, semK_of (s_42 _ _ _ _ _ (by omega)), hlv]
  simp only [mpush]
  rw [b_41_43, if_neg (by omega), b_41_47]
theorem lvl_in {tp : Nat → Int} {len q : Nat} (h : tpk tp len) (hl : lvl (tp q) < 5) : q < len := by
  by_cases c : q < len
  · exact c
  · rw [h.2.2 q (by omega)] at hl
    exact absurd hl (by decide)
theorem rd_all (w : Nat × Bool) (I J : Nat → Nat → Int) (tp : Nat → Int) (len : Nat) (hT : TC0 I tp len) : ∀ g, BC5 w I J tp len g ∧ (∀ k, k ≤ 5 → AC w I J tp len g k) ∧ ∀ l, l < 5 → LC w I J tp len g l := by
  have htk := hT.2.1
  have hlen := htk.1
  intro g
  induction g with
  | zero =>
    refine ⟨?_, ?_, ?_⟩
    · intro dep p n d b _ hm; unfold muk at hm; rw [if_pos (by omega)] at hm; omega
    · intro k hk dep p n d b _ hm; unfold muk at hm; rw [if_pos hk] at hm; omega
    · intro l hl dep p n e x3 u4 b _ hm; unfold muk at hm; rw [if_neg (by omega)] at hm; omega
  | succ g ih =>
    obtain ⟨ih5, ihA, ihL⟩ := ih
    have hB : BC5 w I J tp len (g + 1) := by
      intro dep p n d b hdep hm hd hC hnp
      obtain ⟨e, rfl⟩ : ∃ e, d = e + 1 := ⟨d - 1, by omega⟩
      unfold muk at hm
      rw [if_pos (by omega)] at hm
      have hplen : p ≤ len := hC.2.2.2.2.2
      have h37 := s_37 e w I J b tp len p n (by omega) hT hC
      rw [e_43, b_43_0, semK_of h37]
      simp only [mpush]
      rw [b_43_4, semK_of (s_45 _ _ _ _ _ (by omega))]
      simp only [mpush]
      rw [b_43_9]
      cases cd : dig (tp p)
      · rw [b2_f, if_pos rfl, b_43_17, semK_of (s_46 _ _ _ _ _ (by omega))]
        simp only [mpush]
        rw [b_43_21]
        have hfail : ∀ bb : Nat → Nat → Int, bb = b → ¬ (0 ≤ nam (tp p)) → ((tp p ≠ 40 ∧ tp p ≠ 33 ∧ tp p ≠ 45) ∨ ¬ dep < 6) → OC w I tp len b n (pr tp (g + 1) 5 dep p) 0 bb := by
          intro bb hbb h0 h1
          subst hbb
          have hr : pr tp (g + 1) 5 dep p = (false, p, []) := by
            rw [pr_5, if_neg (by rw [cd]; simp), if_neg h0]
            rcases h1 with h1 | h1
            · rw [if_neg h1.1, if_neg (by omega)]
            · split
              · first | rfl | rw [if_neg h1]
              · split
                · first | rfl | rw [if_neg h1]
                · rfl
          rw [hr]
          exact ⟨n, hC, fun _ _ => rfl, Nat.le_refl _, Or.inr ⟨rfl, Or.inl rfl⟩⟩
        by_cases cn : nam (tp p) < 0
        · rw [if_pos cn, b_43_48]
          have hgo : (tp p = 40 ∨ tp p = 33 ∨ tp p = 45) → Sem e 43 48 [some (vr 17), some (vi (dep : Int)), some (vi (tp p)), some (vi (nam (tp p)))] [] (mk w b J) = Sem e 43 68 [some (vr 17), some (vi (dep : Int)), some (vi (tp p)), some (vi (nam (tp p)))] [] (mk w b J) := by
            intro h
            rw [b_43_48]
            by_cases q1 : tp p = 40
            · rw [if_pos q1]
            · rw [if_neg q1, b_43_54]
              by_cases q2 : tp p = 33
              · rw [if_pos q2]
              · rw [if_neg q2, b_43_60, if_pos (by omega)]
          rw [← b_43_48]
          by_cases cop : tp p = 40 ∨ tp p = 33 ∨ tp p = 45
          · rw [hgo cop, b_43_68]
            have hpl : p < len := by
              by_cases q : p < len
              · exact q
              · have := htk.2.2 p (by omega); omega
            by_cases c6 : dep < 6
            · obtain ⟨n1, n2⟩ := CL_n hC hpl hlen
              rw [if_pos (by omega), b_43_76]
              generalize up2 b 17 2 (wr (b 17 2 + 1)) = b1 at n1 n2
              by_cases c40 : tp p = 40
              · rw [if_pos c40, b_43_92, wr_if (by omega)]
                obtain ⟨o, b2', k1, k2⟩ := ihA 0 (by omega) (dep + 1) (p + 1) n e b1 (by omega) (by unfold muk; rw [if_pos (by omega)]; omega) (by omega) n1 (by omega)
                rw [show (((0 : Nat) : Int)) = 0 from rfl, show ((dep + 1 : Nat) : Int) = (dep : Int) + 1 from rfl] at k1
                rw [semK_of k1]
                simp only [mpush]
                rw [b_43_100]
                obtain ⟨n', m1, m2, m3, m4⟩ := k2
                have h37' := s_37 e w I J b2' tp len _ n' (by omega) hT m1
                have hpr : pr tp (g + 1) 5 dep p = if (pr tp g 0 (dep + 1) (p + 1)).1 = true then (if tp (pr tp g 0 (dep + 1) (p + 1)).2.1 = 41 then (true, (pr tp g 0 (dep + 1) (p + 1)).2.1 + 1, (pr tp g 0 (dep + 1) (p + 1)).2.2) else (false, (pr tp g 0 (dep + 1) (p + 1)).2.1, [])) else (false, (pr tp g 0 (dep + 1) (p + 1)).2.1, []) := by
                  rw [pr_5, if_neg (by rw [cd]; simp), if_neg (by omega), if_pos c40, if_pos c6]
                rw [hpr]
                rcases m4 with ⟨r1, r2, r3, r4⟩ | ⟨r1, r2⟩
                · rw [if_pos r1, if_neg (by omega), b_43_103, semK_of h37']
                  simp only [mpush]
                  rw [b_43_107]
                  by_cases c41 : tp (pr tp g 0 (dep + 1) (p + 1)).2.1 = 41
                  · have hin : (pr tp g 0 (dep + 1) (p + 1)).2.1 < len := by
                      by_cases q : (pr tp g 0 (dep + 1) (p + 1)).2.1 < len
                      · exact q
                      · have := htk.2.2 _ (show len ≤ (pr tp g 0 (dep + 1) (p + 1)).2.1 by omega); omega
                    obtain ⟨z1, z2⟩ := CL_n m1 hin hlen
                    rw [if_pos c41, if_pos c41, b_43_114]
                    refine ⟨1, _, rfl, n', z1, ?_, m3, Or.inl ⟨rfl, rfl, r3, ?_⟩⟩
                    · intro i hi
                      rw [z2, m2 i hi, n2]
                    · rw [z2]; exact r4
                  · rw [if_neg c41, if_neg c41, b_43_112]
                    refine ⟨0, b2', rfl, n', m1, ?_, m3, Or.inr ⟨rfl, Or.inl rfl⟩⟩
                    intro i hi
                    rw [m2 i hi, n2]
                · have hno : ¬ (pr tp g 0 (dep + 1) (p + 1)).1 = true := by rw [r1]; simp
                  rw [if_neg hno]
                  have hr2 : OC w I tp len b n (false, (pr tp g 0 (dep + 1) (p + 1)).2.1, []) 0 b2' := ⟨n', m1, fun i hi => by rw [m2 i hi, n2], m3, Or.inr ⟨rfl, Or.inl rfl⟩⟩
                  rcases r2 with r2 | ⟨r2, r3⟩
                  · rw [if_pos r2, b_43_112]
                    exact ⟨0, b2', rfl, hr2⟩
                  · have h41 : tp (pr tp g 0 (dep + 1) (p + 1)).2.1 ≠ 41 := by
                      intro h; rw [h] at r3; revert r3; decide
                    rw [if_neg (by omega), b_43_103, semK_of h37']
                    simp only [mpush]
                    rw [b_43_107, if_neg h41, b_43_112]
                    exact ⟨0, b2', rfl, hr2⟩
              · rw [if_neg c40, b_43_126, wr_if (by omega)]
                obtain ⟨o, b2', k1, k2⟩ := ih5 (dep + 1) (p + 1) n e b1 (by omega) (by unfold muk; rw [if_pos (by omega)]; omega) (by omega) n1 (by omega)
                rw [show ((dep + 1 : Nat) : Int) = (dep : Int) + 1 from rfl] at k1
                rw [semK_of k1]
                simp only [mpush]
                rw [b_43_133]
                obtain ⟨n', m1, m2, m3, m4⟩ := k2
                have hpR := pr_R htk g 5 (dep + 1) (p + 1) (by omega) (by omega)
                have hpr : pr tp (g + 1) 5 dep p = if (pr tp g 5 (dep + 1) (p + 1)).1 = true then (true, (pr tp g 5 (dep + 1) (p + 1)).2.1, (pr tp g 5 (dep + 1) (p + 1)).2.2 ++ [(if tp p = 33 then 3 else 4, 0)]) else (false, (pr tp g 5 (dep + 1) (p + 1)).2.1, []) := by
                  rw [pr_5, if_neg (by rw [cd]; simp), if_neg (by omega), if_neg c40, if_pos (by omega), if_pos c6]
                rw [hpr]
                have hop : ∀ b3 : Nat → Nat → Int, Sem e 43 138 [some (vr 17), some (vi (dep : Int)), some (vi (tp p)), some (vi (nam (tp p)))] [] (mk w b3 J) = Sem e 43 150 [some (vr 17), some (vi (dep : Int)), some (vi (tp p)), some (vi (nam (tp p)))] [vi (if tp p = 45 then 3 else tp p), vr 17] (mk w b3 J) := by
                  intro b3
                  rw [b_43_138]
                  by_cases q : tp p = 45
                  · rw [if_pos q, if_pos q, b_43_145]
                  · rw [if_neg q, if_neg q, b_43_149]
                obtain ⟨b4, v1, v2, v3, v4⟩ := s_38 e w I J b2' len _ n' (if tp p = 45 then 3 else tp p) (by omega) m1
                rcases m4 with ⟨r1, r2, r3, r4⟩ | ⟨r1, r2⟩
                · have hn' : n' < 121 := by omega
                  rw [if_pos hn'] at v2
                  rw [if_pos r1, if_neg (by omega), hop, b_43_150, semK_of v1]
                  simp only [mpush]
                  rw [b_43_153]
                  refine ⟨1, b4, rfl, n' + 1, v2, ?_, by omega, Or.inl ⟨rfl, rfl, ?_, ?_⟩⟩
                  · intro i hi
                    rw [v4 i (by omega), m2 i hi, n2]
                  · show n' + 1 = n + (_ ++ _ : List (Int × Int)).length
                    rw [List.length_append]
                    show n' + 1 = n + (_ + 1)
                    omega
                  · show seg _ n (_ ++ _)
                    rw [seg_a]
                    refine ⟨seg_x _ n (fun i h1 h2 => v4 i (by omega)) r4, ?_, trivial⟩
                    rw [← r3, v3 hn']
                    unfold enc
                    by_cases q : tp p = 33
                    · rw [if_neg (show ¬ tp p = 45 by omega), q]; rfl
                    · rw [if_pos (show tp p = 45 by omega), if_neg q]; rfl
                · have hno : ¬ (pr tp g 5 (dep + 1) (p + 1)).1 = true := by rw [r1]; simp
                  rw [if_neg hno]
                  rcases r2 with r2 | ⟨r2, r3⟩
                  · rw [if_pos r2, b_43_136]
                    exact ⟨0, b2', rfl, n', m1, fun i hi => by rw [m2 i hi, n2], m3, Or.inr ⟨rfl, Or.inl rfl⟩⟩
                  · rw [if_neg (by omega), hop, b_43_150, semK_of v1]
                    simp only [mpush]
                    rw [b_43_153]
                    refine ⟨1, b4, rfl, _, v2, fun i hi => by rw [v4 i (by omega), m2 i hi, n2], ?_, Or.inr ⟨rfl, Or.inr ⟨rfl, r3⟩⟩⟩
                    split <;> omega
            · rw [if_neg (by omega), b_43_74]
              exact ⟨0, b, rfl, hfail b rfl (by omega) (Or.inr c6)⟩
          · rw [b_43_48, if_neg (by omega), b_43_54, if_neg (by omega), b_43_60, if_neg (by omega), b_43_66]
            exact ⟨0, b, rfl, hfail b rfl (by omega) (Or.inl (by omega))⟩
        · have hpl : p < len := by
            by_cases q : p < len
            · exact q
            · rw [htk.2.2 p (by omega)] at cn; exact absurd (show nam (-1) < 0 by decide) cn
          obtain ⟨n1, n2⟩ := CL_n hC hpl hlen
          obtain ⟨z, hz⟩ : ∃ z : Nat, nam (tp p) = z := ⟨(nam (tp p)).toNat, by omega⟩
          have hz3 : z < 4 := by
            have : nam (tp p) ≤ 3 := by unfold nam; (repeat' split) <;> omega
            omega
          rw [if_neg cn, b_43_26, hz, show ior 2 (ishl (z : Int) 8) = ((256 * z + 2 : Nat) : Int) from ior8 z 2 (by omega) (by omega)]
          generalize up2 b 17 2 (wr (b 17 2 + 1)) = b1 at n1 n2
          obtain ⟨b4, v1, v2, v3, v4⟩ := s_38 e w I J b1 len (p + 1) n ((256 * z + 2 : Nat) : Int) (by omega) n1
          have hn' : n < 121 := by omega
          rw [if_pos hn'] at v2
          have hpr : pr tp (g + 1) 5 dep p = (true, p + 1, [(2, nam (tp p))]) := by rw [pr_5, if_neg (by rw [cd]; simp), if_pos (by omega)]
          rw [semK_of v1, hpr]
          simp only [mpush]
          rw [b_43_46]
          refine ⟨1, b4, rfl, n + 1, v2, fun i hi => by rw [v4 i (by omega), n2], by omega, Or.inl ⟨rfl, rfl, rfl, ?_, trivial⟩⟩
          rw [v3 hn']
          unfold enc
          show _ = (if (2 : Int) = 1 then _ else if (2 : Int) = 2 then 256 * nam (tp p) + 2 else _)
          rw [if_neg (by omega), if_pos rfl, hz]
          omega
      · obtain ⟨o, b', k1, k2⟩ := s_44 e w I J b tp len p n (by omega) hT hC cd hnp g dep
        rw [b2_t, if_neg (by omega), b_43_12, semK_of k1]
        simp only [mpush]
        have ho : o = 0 ∨ o = 1 := by
          obtain ⟨n', -, -, -, h | h⟩ := k2
          · exact Or.inr h.2.1
          · rcases h.2 with h | h
            · exact Or.inl h
            · exact Or.inr h.1
        rw [b_43_16, if_pos ho]
        exact ⟨o, b', rfl, k2⟩
    refine ⟨hB, ?_, ?_⟩
    · intro k hk dep p n d b hdep hm hd hC hnp
      obtain ⟨e, rfl⟩ : ∃ e, d = e + 1 := ⟨d - 1, by omega⟩
      rw [e_41, b_41_0]
      by_cases k5 : k = 5
      · subst k5
        obtain ⟨o, b', k1, k2⟩ := hB dep p n e b hdep hm (by omega) hC hnp
        rw [if_neg (by omega), b_41_5, semK_of k1]
        simp only [mpush]
        have ho : o = 0 ∨ o = 1 := by
          obtain ⟨n', -, -, -, h | h⟩ := k2
          · exact Or.inr h.2.1
          · rcases h.2 with h | h
            · exact Or.inl h
            · exact Or.inr h.1
        rw [b_41_10, if_pos ho]
        exact ⟨o, b', rfl, k2⟩
      · unfold muk at hm
        rw [if_pos hk] at hm
        have hplen : p ≤ len := hC.2.2.2.2.2
        obtain ⟨o, b1, k1, n', m1, m2, m3, m4⟩ := ihA (k + 1) (by omega) dep p n e b hdep (by unfold muk; rw [if_pos (by omega)]; omega) (by omega) hC hnp
        rw [show ((k + 1 : Nat) : Int) = (k : Int) + 1 from rfl] at k1
        rw [if_pos (by omega), b_41_11, wr_if (by omega), semK_of k1]
        simp only [mpush]
        rw [b_41_19, pr_e (by omega)]
        have hpR := pr_R htk g (k + 1) dep p (by omega) hplen
        rcases m4 with ⟨r1, r2, r3, r4⟩ | ⟨r1, r2⟩
        · have hpp := hpR.2.2.2 (by omega) r1
          rw [if_pos r1, if_neg (by omega), b_41_24]
          obtain ⟨o2, b2', q1, n2, q2, q3, q4, q5⟩ := ihL k (by omega) dep (pr tp g (k + 1) dep p).2.1 n' e 0 none b1 hdep (by unfold muk; rw [if_neg (by omega)]; omega) (by omega) m1 (by omega) (by omega)
          rw [show (((0 : Nat) : Int)) = 0 from rfl] at q1
          refine ⟨o2, b2', q1, n2, q2, fun i hi => by rw [q3 i (by omega), m2 i hi], by omega, ?_⟩
          rcases q5 with ⟨s1, s2, s3, s4⟩ | ⟨s1, s2⟩
          · refine Or.inl ⟨s1, s2, ?_, ?_⟩
            · show n2 = n + (_ ++ _ : List (Int × Int)).length
              rw [List.length_append]
              omega
            · show seg _ n (_ ++ _)
              rw [seg_a]
              refine ⟨seg_x _ n (fun i h1 h2 => q3 i (by omega)) r4, ?_⟩
              rw [← r3]; exact s4
          · exact Or.inr ⟨s1, s2⟩
        · have hno : ¬ (pr tp g (k + 1) dep p).1 = true := by rw [r1]; simp
          rw [if_neg hno]
          rcases r2 with r2 | ⟨r2, r3⟩
          · rw [if_pos r2, b_41_22]
            exact ⟨0, b1, rfl, n', m1, m2, m3, Or.inr ⟨rfl, Or.inl rfl⟩⟩
          · have hlp := lp_dig e w I J e b1 tp len _ n' k dep 0 none (by omega) hT m1 r3 (by omega) (by omega)
            rw [show (((0 : Nat) : Int)) = 0 from rfl] at hlp
            rw [if_neg (by omega), b_41_24, hlp]
            exact ⟨1, b1, rfl, n', m1, m2, m3, Or.inr ⟨rfl, Or.inr ⟨rfl, r3⟩⟩⟩
    · intro l hl dep p n e x3 u4 b hdep hm he hC hnp hx3
      unfold muk at hm
      rw [if_neg (by omega)] at hm
      have hplen : p ≤ len := hC.2.2.2.2.2
      have h37 := s_37 e w I J b tp len p n (by omega) hT hC
      rw [b_41_26, if_pos (by omega), b_41_32, semK_of h37]
      simp only [mpush]
      rw [b_41_36, semK_of (s_42 _ _ _ _ _ (by omega))]
      simp only [mpush]
      rw [b_41_43, pr_r]
      by_cases cl : lvl (tp p) = l
      · have hpl := lvl_in htk (show lvl (tp p) < 5 by omega)
        obtain ⟨n1, n2⟩ := CL_n hC hpl hlen
        rw [if_pos (by omega), if_pos cl, b_41_49, wr_if (show (-2147483648 : Int) ≤ (l : Int) + 1 ∧ (l : Int) + 1 < 2147483648 by omega)]
        generalize up2 b 17 2 (wr (b 17 2 + 1)) = b1 at n1 n2
        obtain ⟨o, b2', k1, n', m1, m2, m3, m4⟩ := ihA (l + 1) (by omega) dep (p + 1) n e b1 hdep (by unfold muk; rw [if_pos (by omega)]; omega) (by omega) n1 (by omega)
        rw [show ((l + 1 : Nat) : Int) = (l : Int) + 1 from rfl] at k1
        rw [semK_of k1]
        simp only [mpush]
        rw [b_41_67]
        have hpR := pr_R htk g (l + 1) dep (p + 1) (by omega) (by omega)
        obtain ⟨b4, v1, v2, v3, v4⟩ := s_38 e w I J b2' len _ n' (tp p) (by omega) m1
        rcases m4 with ⟨r1, r2, r3, r4⟩ | ⟨r1, r2⟩
        · have hpp := hpR.2.2.2 (by omega) r1
          have hn' : n' < 121 := by omega
          have hlr := lvl_R (tp p)
          have henc : enc (tp p, 0) = tp p := by
            unfold enc
            rw [if_neg (by show ¬ tp p = 1; omega), if_neg (by show ¬ tp p = 2; omega), if_neg (by show ¬ tp p = 3; omega), if_neg (by show ¬ tp p = 4; omega)]
          rw [if_pos hn'] at v2
          rw [if_pos r1, if_neg (by omega), b_41_72, semK_of v1]
          simp only [mpush]
          rw [b_41_78]
          have hseg : seg (b4 (wdr w)) n ((pr tp g (l + 1) dep (p + 1)).2.2 ++ [(tp p, 0)]) := by
            rw [seg_a]
            refine ⟨seg_x _ n (fun i h1 h2 => v4 i (by omega)) r4, ?_, trivial⟩
            rw [← r3, v3 hn', henc]
          have hlen1 : ((pr tp g (l + 1) dep (p + 1)).2.2 ++ [(tp p, 0)]).length = (pr tp g (l + 1) dep (p + 1)).2.2.length + 1 := by rw [List.length_append]; rfl
          by_cases c2 : l = 2
          · rw [if_pos (by omega), if_pos c2, b_41_83]
            refine ⟨1, b4, rfl, n' + 1, v2, fun i hi => by rw [v4 i (by omega), m2 i hi, n2], by omega, Or.inl ⟨rfl, rfl, ?_, hseg⟩⟩
            show n' + 1 = n + ((pr tp g (l + 1) dep (p + 1)).2.2 ++ [(tp p, 0)]).length
            rw [hlen1]; omega
          · rw [if_neg (by omega), if_neg c2, b_41_85, wr_n1 (by omega)]
            obtain ⟨o2, b5, q1, n2', q2, q3, q4, q5⟩ := ihL l hl dep (pr tp g (l + 1) dep (p + 1)).2.1 (n' + 1) e (x3 + 1) (some (vi (tp p))) b4 hdep (by unfold muk; rw [if_neg (by omega)]; omega) he v2 (by omega) (by omega)
            refine ⟨o2, b5, q1, n2', q2, fun i hi => by rw [q3 i (by omega), v4 i (by omega), m2 i hi, n2], by omega, ?_⟩
            rcases q5 with ⟨s1, s2, s3, s4⟩ | ⟨s1, s2⟩
            · refine Or.inl ⟨s1, s2, ?_, ?_⟩
              · show n2' = n + (_ ++ _ ++ _ : List (Int × Int)).length
                rw [List.length_append, hlen1]
                omega
              · show seg _ n (_ ++ _ ++ _)
                rw [seg_a]
                refine ⟨seg_x _ n (fun i h1 h2 => q3 i (by rw [hlen1] at h2; omega)) hseg, ?_⟩
                rw [hlen1, show n + ((pr tp g (l + 1) dep (p + 1)).2.2.length + 1) = n' + 1 by omega]
                exact s4
            · exact Or.inr ⟨s1, s2⟩
        · have hno : ¬ (pr tp g (l + 1) dep (p + 1)).1 = true := by rw [r1]; simp
          rw [if_neg hno]
          rcases r2 with r2 | ⟨r2, r3⟩
          · rw [if_pos r2, b_41_70]
            exact ⟨0, b2', rfl, n', m1, fun i hi => by rw [m2 i hi, n2], m3, Or.inr ⟨rfl, Or.inl rfl⟩⟩
          · have hfin : OC w I tp len b n (false, (pr tp g (l + 1) dep (p + 1)).2.1, []) 1 b4 := by
              refine ⟨_, v2, fun i hi => by rw [v4 i (by omega), m2 i hi, n2], ?_, Or.inr ⟨rfl, Or.inr ⟨rfl, r3⟩⟩⟩
              split <;> omega
            rw [if_neg (by omega), b_41_72, semK_of v1]
            simp only [mpush]
            rw [b_41_78]
            by_cases c2 : l = 2
            · rw [if_pos (by omega), b_41_83]
              exact ⟨1, b4, rfl, hfin⟩
            · have hlp := lp_dig e w I J e b4 tp len _ _ l dep (x3 + 1) (some (vi (tp p))) (by omega) hT v2 r3 (by omega) (by omega)
              rw [if_neg (by omega), b_41_85, wr_n1 (by omega), hlp]
              exact ⟨1, b4, rfl, hfin⟩
      · rw [if_neg (by omega), if_neg cl, b_41_47]
        exact ⟨1, b, rfl, n, hC, fun _ _ => rfl, Nat.le_refl _, Or.inl ⟨rfl, rfl, rfl, trivial⟩⟩
