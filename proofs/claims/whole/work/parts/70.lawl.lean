/-! the law's lines -/
abbrev cLn := List (Int × Int) × List (Int × Int)
def ln (tp : Nat → Int) (p : Nat) : Bool × Nat × cLn :=
  if (pr tp 2000 0 0 p).1 = true then (if tp (pr tp 2000 0 0 p).2.1 = 63 then (if (pr tp 2000 0 0 ((pr tp 2000 0 0 p).2.1 + 1)).1 = true then (true, (pr tp 2000 0 0 ((pr tp 2000 0 0 p).2.1 + 1)).2.1, ((pr tp 2000 0 0 p).2.2, (pr tp 2000 0 0 ((pr tp 2000 0 0 p).2.1 + 1)).2.2)) else (false, (pr tp 2000 0 0 ((pr tp 2000 0 0 p).2.1 + 1)).2.1, ([], []))) else (true, (pr tp 2000 0 0 p).2.1, ([], (pr tp 2000 0 0 p).2.2)))
  else (false, (pr tp 2000 0 0 p).2.1, ([], []))
def lns (tp : Nat → Int) : Nat → Nat → Bool × Nat × List cLn
  | 0, p => (false, p, [])
  | m + 1, p => if (ln tp p).1 = true then (if tp (ln tp p).2.1 = 59 then ((lns tp m ((ln tp p).2.1 + 1)).1, (lns tp m ((ln tp p).2.1 + 1)).2.1, (ln tp p).2.2 :: (lns tp m ((ln tp p).2.1 + 1)).2.2) else if tp (ln tp p).2.1 = -1 then (true, (ln tp p).2.1, [(ln tp p).2.2]) else (false, (ln tp p).2.1, [])) else (false, (ln tp p).2.1, [])
theorem lns_s (tp : Nat → Int) (m p : Nat) : lns tp (m + 1) p = if (ln tp p).1 = true then (if tp (ln tp p).2.1 = 59 then ((lns tp m ((ln tp p).2.1 + 1)).1, (lns tp m ((ln tp p).2.1 + 1)).2.1, (ln tp p).2.2 :: (lns tp m ((ln tp p).2.1 + 1)).2.2) else if tp (ln tp p).2.1 = -1 then (true, (ln tp p).2.1, [(ln tp p).2.2]) else (false, (ln tp p).2.1, [])) else (false, (ln tp p).2.1, []) := rfl
def lsz (L : cLn) : Nat := if L.1 = [] then L.2.length + 1 else L.1.length + L.2.length + 2
def lok (row : Nat → Int) (n : Nat) (L : cLn) : Prop := if L.1 = [] then seg row n L.2 ∧ row (n + L.2.length) = 4 else seg row n L.1 ∧ row (n + L.1.length) = ((256 * (n + L.1.length + L.2.length + 2) + 63 : Nat) : Int) ∧ seg row (n + L.1.length + 1) L.2 ∧ row (n + L.1.length + 1 + L.2.length) = 4
def llay (row : Nat → Int) : Nat → List cLn → Prop
  | _, [] => True
  | n, L :: Ls => lok row n L ∧ llay row (n + lsz L) Ls
def tsz : List cLn → Nat
  | [] => 0
  | L :: Ls => lsz L + tsz Ls
theorem lok_x {row row' : Nat → Int} {n : Nat} {L : cLn} (h : ∀ i, n ≤ i → i < n + lsz L → row' i = row i) (hl : lok row n L) : lok row' n L := by
  unfold lok lsz at *
  by_cases c : L.1 = []
  · rw [if_pos c] at h hl ⊢
    exact ⟨seg_x _ n (fun i h1 h2 => h i h1 (by omega)) hl.1, (h _ (by omega) (by omega)).trans hl.2⟩
  · rw [if_neg c] at h hl ⊢
    exact ⟨seg_x _ n (fun i h1 h2 => h i h1 (by omega)) hl.1, (h _ (by omega) (by omega)).trans hl.2.1, seg_x _ _ (fun i h1 h2 => h i (by omega) (by omega)) hl.2.2.1, (h _ (by omega) (by omega)).trans hl.2.2.2⟩
def LGood (L : cLn) : Prop := (L.1 = [] ∨ Good L.1) ∧ Good L.2
theorem muk_0 {len p : Nat} (h : len ≤ 120) : muk len 0 p ≤ 2000 := by unfold muk; rw [if_pos (by omega)]; omega
theorem ln_R {tp : Nat → Int} {len p : Nat} (h : tpk tp len) (hp : p ≤ len) : p ≤ (ln tp p).2.1 ∧ (ln tp p).2.1 ≤ len ∧ ((ln tp p).1 = true → p < (ln tp p).2.1 ∧ p + lsz (ln tp p).2.2 ≤ (ln tp p).2.1 + 1 ∧ LGood (ln tp p).2.2) := by
  have r1 := pr_R h 2000 0 0 p (by omega) hp
  unfold ln
  split
  · rename_i c1
    have g1 := (pr_G 2000 0 0 p (by omega) c1).1 (by omega)
    have hlt := r1.2.2.2 (by omega) c1
    split
    · rename_i c2
      have hin : (pr tp 2000 0 0 p).2.1 < len := by
        by_cases q : (pr tp 2000 0 0 p).2.1 < len
        · exact q
        · have := h.2.2 _ (show len ≤ (pr tp 2000 0 0 p).2.1 by omega); omega
      have r2 := pr_R h 2000 0 0 ((pr tp 2000 0 0 p).2.1 + 1) (by omega) hin
      split
      · rename_i c3
        have g2 := (pr_G 2000 0 0 ((pr tp 2000 0 0 p).2.1 + 1) (by omega) c3).1 (by omega)
        refine ⟨by show p ≤ (pr tp 2000 0 0 ((pr tp 2000 0 0 p).2.1 + 1)).2.1; omega, r2.2.1, fun _ => ⟨by show p < (pr tp 2000 0 0 ((pr tp 2000 0 0 p).2.1 + 1)).2.1; omega, ?_, Or.inr g1, g2⟩⟩
        unfold lsz
        rw [if_neg g1.2.2]
        show p + ((pr tp 2000 0 0 p).2.2.length + (pr tp 2000 0 0 ((pr tp 2000 0 0 p).2.1 + 1)).2.2.length + 2) ≤ (pr tp 2000 0 0 ((pr tp 2000 0 0 p).2.1 + 1)).2.1 + 1
        omega
      · exact ⟨by show p ≤ (pr tp 2000 0 0 ((pr tp 2000 0 0 p).2.1 + 1)).2.1; omega, r2.2.1, fun h => by cases h⟩
    · refine ⟨r1.1, r1.2.1, fun _ => ⟨hlt, ?_, Or.inl rfl, g1⟩⟩
      unfold lsz
      rw [if_pos rfl]
      show p + ((pr tp 2000 0 0 p).2.2.length + 1) ≤ (pr tp 2000 0 0 p).2.1 + 1
      omega
  · exact ⟨r1.1, r1.2.1, fun h => by cases h⟩
theorem s_40 (d : Nat) (w : Nat × Bool) (I J : Nat → Nat → Int) (b : Nat → Nat → Int) (tp : Nat → Int) (len p n : Nat) (hd : 100 ≤ d) (hT : TC0 I tp len) (hC : CL w I len b p n) (hnp : n ≤ p) :
    ∃ o b', semC d 40 [vr 17] (mk w b J) = some (some (vi o), mk w b' J) ∧ ∃ n', CL w I len b' (ln tp p).2.1 n' ∧ (∀ i, i < n → b' (wdr w) i = b (wdr w) i) ∧ n ≤ n' ∧ (((ln tp p).1 = true ∧ o = 1 ∧ n' = n + lsz (ln tp p).2.2 ∧ lok (b' (wdr w)) n (ln tp p).2.2) ∨ ((ln tp p).1 = false ∧ (o = 0 ∨ (o = 1 ∧ dig (tp (ln tp p).2.1) = true)))) := by
  obtain ⟨e, rfl⟩ : ∃ e, d = e + 1 := ⟨d - 1, by omega⟩
  have htk := hT.2.1
  have hlen := htk.1
  have hplen : p ≤ len := hC.2.2.2.2.2
  have hA := (rd_all w I J tp len hT 2000).2.1 0 (by omega)
  have hlR := ln_R htk hplen
  obtain ⟨o, b1, k1, n1, m1, m2, m3, m4⟩ := hA 0 p n e b (by omega) (muk_0 hlen) (by omega) hC hnp
  rw [show (((0 : Nat) : Int)) = 0 from rfl] at k1
  have r1 := pr_R htk 2000 0 0 p (by omega) hplen
  have h37 := s_37 e w I J b1 tp len _ n1 (by omega) hT m1
  rw [e_40, b_40_0, semK_of k1]
  simp only [mpush]
  rw [b_40_6]
  unfold ln at hlR ⊢
  rcases m4 with ⟨q1, q2, q3, q4⟩ | ⟨q1, q2⟩
  · have g1 := (pr_G 2000 0 0 p (by omega) q1).1 (by omega)
    rw [if_pos q1] at hlR ⊢
    rw [if_neg (by omega), b_40_11, semK_of h37]
    simp only [mpush]
    rw [b_40_15]
    by_cases c63 : tp (pr tp 2000 0 0 p).2.1 = 63
    · rw [if_pos c63] at hlR ⊢
      rw [if_pos c63]
      have hin : (pr tp 2000 0 0 p).2.1 < len := by
        by_cases q : (pr tp 2000 0 0 p).2.1 < len
        · exact q
        · have := htk.2.2 _ (show len ≤ (pr tp 2000 0 0 p).2.1 by omega); omega
      obtain ⟨z1, z2⟩ := CL_n m1 hin hlen
      rw [b_40_27, m1.2.2.2.1]
      generalize up2 b1 17 2 (wr (b1 17 2 + 1)) = b2 at z1 z2
      obtain ⟨b3, v1, v2, v3, v4⟩ := s_38 e w I J b2 len ((pr tp 2000 0 0 p).2.1 + 1) n1 63 (by omega) z1
      have hn1 : n1 < 121 := by omega
      rw [if_pos hn1] at v2
      rw [semK_of v1]
      simp only [mpush]
      rw [b_40_48]
      have r2 := pr_R htk 2000 0 0 ((pr tp 2000 0 0 p).2.1 + 1) (by omega) (by omega)
      obtain ⟨o2, b4, k2, n2, t1, t2, t3, t4⟩ := hA 0 ((pr tp 2000 0 0 p).2.1 + 1) (n1 + 1) e b3 (by omega) (muk_0 hlen) (by omega) v2 (by omega)
      rw [show (((0 : Nat) : Int)) = 0 from rfl] at k2
      rw [semK_of k2]
      simp only [mpush]
      rw [b_40_54]
      have hlow : ∀ i, i < n → b4 (wdr w) i = b (wdr w) i := fun i hi => by rw [t2 i (by omega), v4 i (by omega), z2, m2 i hi]
      obtain ⟨b5, u1, u2, u3, u4⟩ := s_38 e w I J b4 len _ n2 4 (by omega) t1
      have hpatch : n2 < 121 → ∃ b6, Sem e 40 64 [some (vr 17), some (vi (n1 : Int))] [] (mk w b5 J) = some (some (vi 1), mk w b6 J) ∧ CL w I len b6 (pr tp 2000 0 0 ((pr tp 2000 0 0 p).2.1 + 1)).2.1 (n2 + 1) ∧ b6 (wdr w) = rs (b5 (wdr w)) n1 ((256 * (n2 + 1) + 63 : Nat) : Int) := by
        intro hn2
        rw [if_pos hn2] at u2
        have hw := wdr_or w
        rw [b_40_64, wdr_T, if_pos (by omega), if_pos (show (n1 : Int) < ((121 : Nat) : Int) by omega), b_40_73, wdr_T, if_pos ⟨rfl, by omega⟩, if_pos (show 0 ≤ (n1 : Int) ∧ (n1 : Int) < ((121 : Nat) : Int) by omega), nat_i, u2.2.2.2.1, show ior 63 (ishl ((n2 + 1 : Nat) : Int) 8) = ((256 * (n2 + 1) + 63 : Nat) : Int) from ior8 (n2 + 1) 63 (by omega) (by omega), b_40_89]
        refine ⟨_, rfl, ⟨?_, ?_, ?_, ?_, by omega, u2.2.2.2.2.2⟩, ?_⟩
        · intro cc a1 a2
          rw [up2_ne _ _ _ a2, u2.1 cc a1 a2]
        · intro k a1 a2
          rw [up2_ne _ _ _ (by omega), u2.2.1 k a1 a2]
        · rw [up2_ne _ _ _ (by omega), u2.2.2.1]
        · rw [up2_ne _ _ _ (by omega), u2.2.2.2.1]
        · rw [up2_row, if_pos rfl]
      rcases t4 with ⟨s1, s2, s3, s4⟩ | ⟨s1, s2⟩
      · rw [if_pos s1] at hlR ⊢
        have hn2 : n2 < 121 := by omega
        obtain ⟨b6, w1, w2, w3⟩ := hpatch hn2
        rw [if_neg (by omega), b_40_59, semK_of u1]
        simp only [mpush]
        rw [w1]
        refine ⟨1, b6, rfl, n2 + 1, w2, ?_, by omega, Or.inl ⟨by first | exact True.intro | rfl, rfl, ?_, ?_⟩⟩
        · intro i hi
          rw [w3, rs_ne _ _ (by omega), u4 i (by omega), hlow i hi]
        · unfold lsz
          rw [if_neg g1.2.2]
          show n2 + 1 = n + ((pr tp 2000 0 0 p).2.2.length + (pr tp 2000 0 0 ((pr tp 2000 0 0 p).2.1 + 1)).2.2.length + 2)
          omega
        · unfold lok
          rw [if_neg g1.2.2]
          show seg _ n (pr tp 2000 0 0 p).2.2 ∧ b6 (wdr w) (n + (pr tp 2000 0 0 p).2.2.length) = ((256 * (n + (pr tp 2000 0 0 p).2.2.length + (pr tp 2000 0 0 ((pr tp 2000 0 0 p).2.1 + 1)).2.2.length + 2) + 63 : Nat) : Int) ∧ seg _ (n + (pr tp 2000 0 0 p).2.2.length + 1) (pr tp 2000 0 0 ((pr tp 2000 0 0 p).2.1 + 1)).2.2 ∧ b6 (wdr w) (n + (pr tp 2000 0 0 p).2.2.length + 1 + (pr tp 2000 0 0 ((pr tp 2000 0 0 p).2.1 + 1)).2.2.length) = 4
          rw [← q3, ← s3]
          refine ⟨?_, ?_, ?_, ?_⟩
          · refine seg_x _ n (fun i h1 h2 => ?_) q4
            rw [w3, rs_ne _ _ (by omega), u4 i (by omega), t2 i (by omega), v4 i (by omega), z2]
          · rw [w3, rs_same, show n2 + 1 = n1 + (pr tp 2000 0 0 ((pr tp 2000 0 0 p).2.1 + 1)).2.2.length + 2 by omega]
          · refine seg_x _ _ (fun i h1 h2 => ?_) s4
            rw [w3, rs_ne _ _ (by omega), u4 i (by omega)]
          · rw [w3, rs_ne _ _ (by omega), u3 hn2]
      · have hno : ¬ (pr tp 2000 0 0 ((pr tp 2000 0 0 p).2.1 + 1)).1 = true := by rw [s1]; simp
        rw [if_neg hno] at hlR ⊢
        rcases s2 with s2 | ⟨s2, s3⟩
        · rw [if_pos s2, b_40_57]
          exact ⟨0, b4, rfl, n2, t1, hlow, by omega, Or.inr ⟨by first | exact True.intro | rfl, Or.inl rfl⟩⟩
        · rw [if_neg (by omega), b_40_59, semK_of u1]
          simp only [mpush]
          by_cases hn2 : n2 < 121
          · obtain ⟨b6, w1, w2, w3⟩ := hpatch hn2
            rw [w1]
            refine ⟨1, b6, rfl, n2 + 1, w2, ?_, by omega, Or.inr ⟨by first | exact True.intro | rfl, Or.inr ⟨rfl, s3⟩⟩⟩
            intro i hi
            rw [w3, rs_ne _ _ (by omega), u4 i (by omega), hlow i hi]
          · rw [if_neg hn2] at u2
            have hw := wdr_or w
            have hn21 : n2 = 121 := by have := t1.2.2.2.2.1; omega
            rw [b_40_64, wdr_T, if_pos (by omega), if_pos (show (n1 : Int) < ((121 : Nat) : Int) by omega), b_40_73, wdr_T, if_pos ⟨rfl, by omega⟩, if_pos (show 0 ≤ (n1 : Int) ∧ (n1 : Int) < ((121 : Nat) : Int) by omega), nat_i, b_40_89]
            refine ⟨1, _, rfl, n2, ⟨?_, ?_, ?_, ?_, by omega, u2.2.2.2.2.2⟩, ?_, by omega, Or.inr ⟨by first | exact True.intro | rfl, Or.inr ⟨rfl, s3⟩⟩⟩
            · intro cc a1 a2
              rw [up2_ne _ _ _ a2, u2.1 cc a1 a2]
            · intro k a1 a2
              rw [up2_ne _ _ _ (by omega), u2.2.1 k a1 a2]
            · rw [up2_ne _ _ _ (by omega), u2.2.2.1]
            · rw [up2_ne _ _ _ (by omega), u2.2.2.2.1]
            · intro i hi
              rw [up2_sne _ _ _ (by omega), u4 i (by omega), hlow i hi]
    · rw [if_neg c63] at hlR ⊢
      obtain ⟨b5, u1, u2, u3, u4⟩ := s_38 e w I J b1 len _ n1 4 (by omega) m1
      have hn1 : n1 < 121 := by omega
      rw [if_pos hn1] at u2
      rw [if_neg c63, b_40_20, semK_of u1]
      simp only [mpush]
      rw [b_40_25]
      refine ⟨1, b5, rfl, n1 + 1, u2, fun i hi => by rw [u4 i (by omega), m2 i hi], by omega, Or.inl ⟨by first | exact True.intro | rfl, rfl, ?_, ?_⟩⟩
      · unfold lsz
        rw [if_pos rfl]
        show n1 + 1 = n + ((pr tp 2000 0 0 p).2.2.length + 1)
        omega
      · unfold lok
        rw [if_pos rfl]
        refine ⟨seg_x _ n (fun i h1 h2 => u4 i (by show i ≠ n1; have : i < n + (pr tp 2000 0 0 p).2.2.length := h2; omega)) q4, ?_⟩
        show b5 (wdr w) (n + (pr tp 2000 0 0 p).2.2.length) = 4
        rw [← q3]; exact u3 hn1
  · have hno : ¬ (pr tp 2000 0 0 p).1 = true := by rw [q1]; simp
    rw [if_neg hno] at hlR ⊢
    rcases q2 with q2 | ⟨q2, q5⟩
    · rw [if_pos q2, b_40_9]
      exact ⟨0, b1, rfl, n1, m1, m2, m3, Or.inr ⟨by first | exact True.intro | rfl, Or.inl rfl⟩⟩
    · have h63 : tp (pr tp 2000 0 0 p).2.1 ≠ 63 := by intro h; rw [h] at q5; revert q5; decide
      obtain ⟨b5, u1, u2, u3, u4⟩ := s_38 e w I J b1 len _ n1 4 (by omega) m1
      rw [if_neg (by omega), b_40_11, semK_of h37]
      simp only [mpush]
      rw [b_40_15, if_neg h63, b_40_20, semK_of u1]
      simp only [mpush]
      rw [b_40_25]
      refine ⟨1, b5, rfl, _, u2, fun i hi => by rw [u4 i (by omega), m2 i hi], ?_, Or.inr ⟨by first | exact True.intro | rfl, Or.inr ⟨rfl, q5⟩⟩⟩
      split <;> omega
