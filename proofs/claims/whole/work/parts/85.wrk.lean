/-! worker, mend, undo, redo of both -/
theorem q_97 (L : Nat) (B : Nat → Int) (t d : Nat) (w : Nat × Bool) (I J : Nat → Nat → Int) (vm ne wt : Int) (h1 : iR vm) (h2 : iR wt) (hd : 1000 ≤ d) (ht : t ≤ 1000) (h : Inv L B t w I J) : StpI L B t w I J d 97 147 [vi vm, vi ne, vi wt] := by
  obtain ⟨⟨h0, h0'⟩, hF, hS, hN, hT, hC, hA, hH, hL⟩ := id h
  obtain ⟨g1, g2, g3, g4, g5, g6, g7, g8, g9, f1, f2, f3, f4, f5, f6, f7, f8, f9⟩ := id hF
  obtain ⟨t1, t2, t3, t4, t5, t6, s1, s2, s3, s4, s5, s6, s7⟩ := id hS
  have k1 := s_97 d w I J vm ne wt (by omega) h1 h2 t1
  have m0 := s_147 d w I J vm ne wt (by omega) h1 h2 (by rw [s1]; exact t1) (by rw [f3]; exact g3)
  by_cases c : (0 ≤ vm ∧ vm ≤ 999) ∧ (0 ≤ ne ∧ ne ≤ 1023) ∧ (10 ≤ wt.tdiv 1000 ∧ wt.tdiv 1000 ≤ 30) ∧ 0 ≤ wt.tmod 1000 ∧ wt.tmod 1000 ≤ 100
  · have hw0 : 0 ≤ wt := by
      by_cases q : 0 ≤ wt
      · exact q
      · have := tdiv_neg (x := wt) (c := 1000) (by omega) (by omega); omega
    have c' : (0 ≤ vm ∧ vm ≤ 999) ∧ (0 ≤ ne ∧ ne ≤ 1023) ∧ 0 ≤ wt ∧ (10 ≤ wt.tdiv 1000 ∧ wt.tdiv 1000 ≤ 30) ∧ wt.tmod 1000 ≤ 100 := ⟨c.1, c.2.1, hw0, c.2.2.1, c.2.2.2.2⟩
    rw [if_pos c] at k1
    rw [if_pos c'] at m0
    by_cases c2 : I 10 6 = 10
    · rw [if_pos c2] at k1
      rw [if_pos (by rw [s1]; exact c2)] at m0
      exact Stp_id h k1 m0
    · rw [if_neg c2] at k1
      have e58 : aWX I vm ne wt 58 = I 58 := by unfold aWX wk5; simp (disch := omega) only [up2_ne, up2_r, rs_same, rs_ne, and_self]
      have e69 : aWX I vm ne wt 69 = I 69 := by unfold aWX wk5; simp (disch := omega) only [up2_ne, up2_r, rs_same, rs_ne, and_self]
      have m1 := s_147 d w (aWX I vm ne wt) J vm ne wt (by omega) h1 h2 (by rw [e58, s1]; exact t1) (by rw [e58, f3]; exact g3)
      rw [if_pos c', e58, s1, if_neg c2] at m1
      have hM : aWM (aWX I vm ne wt) vm ne wt = up2 (up2 (wk5 64 65 66 67 68 (aWX I vm ne wt) (I 10 6).toNat vm ne wt) 69 (I 10 6).toNat (sits (I 10 6) (I 4 4) (I 16))) 58 10 (I 10 6 + 1) := by
        unfold aWM
        rw [e58, e69, s1, f3, s7]
      rw [hM] at m1
      refine ⟨_, _, _, _, _, _, _, k1, ⟨h0, by unfold aWX wk5; simp (disch := omega) only [up2_ne, up2_r, rs_same, rs_ne, and_self]; exact h0'⟩, m1, ?_⟩
      unfold aWX wk5
      refine ⟨⟨h0, by simp (disch := omega) only [up2_ne, up2_r, rs_same, rs_ne, and_self]; exact h0'⟩, FL_x hF (by unfold FLe; simp (disch := omega) only [up2_ne, up2_r, rs_same, rs_ne, and_self]), ?_, SN_x hN (by unfold SNe; simp (disch := omega) only [up2_ne, up2_r, rs_same, rs_ne, and_self]), TP_x hT (by unfold TPe; simp (disch := omega) only [up2_ne, up2_r, rs_same, rs_ne, and_self]), CH_x hC (by unfold CHe; simp (disch := omega) only [up2_ne, up2_r, rs_same, rs_ne, and_self]), AT_x hA (by unfold ATe; simp (disch := omega) only [up2_ne, up2_r, rs_same, rs_ne, and_self]), SH_x hH (by unfold SHe; simp (disch := omega) only [up2_ne, up2_r, rs_same, rs_ne, and_self]), LW_x hL (by unfold LWe; simp (disch := omega) only [up2_ne, up2_r, rs_same, rs_ne, and_self])⟩
      have q1 : 0 ≤ vm.tdiv 10 ∧ vm.tdiv 10 ≤ 99 := by rw [tdiv_e c.1.1]; omega
      have q2 : 0 ≤ vm.tmod 10 ∧ vm.tmod 10 ≤ 9 := by rw [tmod_e c.1.1]; omega
      have hst : sits (I 10 6) (I 4 4) (I 16) = -1 ∨ (sits (I 10 6) (I 4 4) (I 16) = I 10 6 ∧ sit1 (I 10 6).toNat (I 16) (I 10 6) = -1) := by
        unfold sits
        split
        · rename_i q; exact Or.inr ⟨rfl, q.2⟩
        · exact Or.inl rfl
      generalize sits (I 10 6) (I 4 4) (I 16) = S at hst
      have hn1 : (I 10 6 + 1).toNat = (I 10 6).toNat + 1 := by omega
      unfold ST
      simp (disch := omega) only [up2_ne, up2_r, rs_same, rs_ne, and_self]
      rw [s2, s3, s4, s5, s6, s7, hn1]
      refine ⟨by omega, ?_, ?_, ?_, ?_, ?_, trivial, rfl, rfl, rfl, rfl, rfl, rfl⟩
      · intro k; rw [rs_at]; split
        · exact q1
        · exact t2 k
      · intro k; rw [rs_at]; split
        · exact q2
        · exact t3 k
      · intro k; rw [rs_at]; split
        · omega
        · exact t4 k
      · intro j hj; rw [rs_at]; split
        · omega
        · exact t5 j (by omega)
      · intro i j hi hj hij e
        rw [rs_at] at e ⊢
        rw [rs_at] at e
        by_cases ci : i = (I 10 6).toNat
        · rw [if_pos ci] at e ⊢
          rw [if_neg (by omega)] at e
          rcases hst with q | ⟨q, q'⟩
          · exact q
          · exact absurd (e.symm.trans q) (sit1_no q' j (by omega))
        · rw [if_neg ci] at e ⊢
          by_cases cj : j = (I 10 6).toNat
          · rw [if_pos cj] at e
            rcases hst with q | ⟨q, q'⟩
            · rw [e, q]
            · exact absurd (e.trans q) (sit1_no q' i (by omega))
          · rw [if_neg cj] at e
            exact t6 i j (by omega) (by omega) hij e
  · rw [if_neg c] at k1
    rw [if_neg (fun q => c ⟨q.1, q.2.1, q.2.2.2.1, tmod_nn q.2.2.1, q.2.2.2.2⟩)] at m0
    exact Stp_id h k1 m0
/-- a value laid by both: voices, minds, heights -/
def lyE (b a v : Int) (I F : Nat → Nat → Int) : Prop := (∀ c, c ≠ 4 → c ≠ 9 → c ≠ 11 → c ≠ 12 → (c < 37 ∨ 41 < c) → c ≠ 58 → c ≠ 63 → c ≠ 64 → c ≠ 65 → (c < 70 ∨ 73 < c) → F c = I c) ∧ (∀ k, k ≠ 9 → F 4 k = I 4 k) ∧ (∀ k, k ≠ 20 → k ≠ 21 → F 58 k = I 58 k) ∧ F 4 9 = (if b = 0 ∨ b = 1 then I 4 9 else I 4 9 + 1) ∧ F 11 = (if b = 0 then rs (I 11) a.toNat v else I 11) ∧ F 12 = (if b = 1 then rs (I 12) a.toNat v else I 12) ∧ F 9 = (if b = 0 ∨ b = 1 then I 9 else rs (I 9) a.toNat v) ∧ F 64 = (if b = 0 then rs (I 64) a.toNat v else I 64) ∧ F 65 = (if b = 1 then rs (I 65) a.toNat v else I 65) ∧ F 63 = (if b = 0 ∨ b = 1 then I 63 else rs (I 63) a.toNat v)
theorem rs_R {f : Nat → Int} {M : Int} (h : ∀ k, 0 ≤ f k ∧ f k ≤ M) (n : Nat) {v : Int} (hv : 0 ≤ v ∧ v ≤ M) : ∀ k, 0 ≤ rs f n v k ∧ rs f n v k ≤ M := by
  intro k
  rw [rs_at]
  split
  · exact hv
  · exact h k
theorem Inv_ly {L : Nat} {B : Nat → Int} {t : Nat} {w : Nat × Bool} {I F J : Nat → Nat → Int} {a b v : Int} (h : Inv L B t w I J) (ht : t ≤ 1000) (hv : chv b v) (hl : lyE b a v I F) (hc : CH F) : Inv L B (t + 1) w F J := by
  obtain ⟨⟨h0, h0'⟩, hF, hS, hN, hT, hC, hA, hH, hL⟩ := id h
  obtain ⟨g1, g2, g3, g4, g5, g6, g7, g8, g9, f1, f2, f3, f4, f5, f6, f7, f8, f9⟩ := id hF
  obtain ⟨t1, t2, t3, t4, t5, t6, s1, s2, s3, s4, s5, s6, s7⟩ := id hS
  obtain ⟨hr, hg⟩ := Inv_rX h ht
  obtain ⟨_, _, _, b1, b2, b3⟩ := id hL
  have h9 := hr.2.2.2.2
  obtain ⟨l1, l2, l3, l4, l5, l6, l7, l8, l9, l10⟩ := hl
  refine ⟨⟨h0, by simp (disch := omega) only [l1]; exact h0'⟩, ?_, ?_, SN_x hN (by unfold SNe; simp (disch := omega) only [l1, l3, and_self]), TP_x hT (by unfold TPe; simp (disch := omega) only [l1, l3, and_self]), hc, AT_x hA (by unfold ATe; simp (disch := omega) only [l1, l3, and_self]), SH_x hH (by unfold SHe; simp (disch := omega) only [l1, l3, and_self]), ?_⟩
  · unfold FL
    simp (disch := omega) only [l1, l2, l3, l7, l10]
    refine ⟨g1, g2, g3, g4, g5, g6, g7, g8, ?_, f1, f2, f3, f4, f5, f6, f7, f8, ?_⟩
    · by_cases q : b = 0 ∨ b = 1
      · rw [if_pos q]; exact g9
      · rw [if_neg q]; exact rs_R g9 _ (hv.2 (by omega))
    · rw [f9]
  · unfold ST
    simp (disch := omega) only [l1, l2, l3, l5, l6, l8, l9]
    refine ⟨t1, ?_, ?_, t4, t5, t6, s1, ?_, ?_, s4, s5, s6, s7⟩
    · by_cases q : b = 0
      · rw [if_pos q]; exact rs_R t2 _ (hv.1 q)
      · rw [if_neg q]; exact t2
    · by_cases q : b = 1
      · rw [if_pos q]; exact rs_R t3 _ (hv.2 (by omega))
      · rw [if_neg q]; exact t3
    · rw [s2]
    · rw [s3]
  · by_cases q : b = 0 ∨ b = 1
    · rw [if_pos q] at l4 l7
      refine LW_x hL ?_
      unfold LWe
      simp (disch := omega) only [l1, l2, l3, l4, l7, and_self]
    · rw [if_neg q] at l4 l7
      refine LW_b hL ?_ (by simp (disch := omega) only [l1]) (by simp (disch := omega) only [l1]) (by simp (disch := omega) only [l1]) (by simp (disch := omega) only [l1]) ?_ (by simp (disch := omega) only [l3]) (by simp (disch := omega) only [l1]) (by simp (disch := omega) only [l1]) (by simp (disch := omega) only [l1]) (by simp (disch := omega) only [l1]) (by simp (disch := omega) only [l1]) (by rw [l4]; omega) (by simp (disch := omega) only [l1]; omega) (by simp (disch := omega) only [l1]; omega)
      · unfold GC at hg ⊢
        simp (disch := omega) only [l1, l2, l4, l7]
        exact ⟨hg.1, hg.2.1, hg.2.2.1, hg.2.2.2.1, pos9 (rs_R g9 _ (hv.2 (by omega))), hg.2.2.2.2.2.1, by omega, hg.2.2.2.2.2.2.2.1, hg.2.2.2.2.2.2.2.2⟩
      · unfold st
        simp (disch := omega) only [l1, l4]
        omega
theorem laysX_w (I : Nat → Nat → Int) (b a v : Int) : (∀ c, c ≠ 4 → c ≠ 9 → c ≠ 11 → c ≠ 12 → laysX I b a v c = I c) ∧ (∀ k, k ≠ 9 → laysX I b a v 4 k = I 4 k) ∧ laysX I b a v 4 9 = (if b = 0 ∨ b = 1 then I 4 9 else I 4 9 + 1) ∧ laysX I b a v 11 = (if b = 0 then rs (I 11) a.toNat v else I 11) ∧ laysX I b a v 12 = (if b = 1 then rs (I 12) a.toNat v else I 12) ∧ laysX I b a v 9 = (if b = 0 ∨ b = 1 then I 9 else rs (I 9) a.toNat v) := by
  unfold laysX
  by_cases q0 : b = 0
  · simp only [if_pos q0, if_pos (show b = 0 ∨ b = 1 by omega), if_neg (show ¬ b = 1 by omega)]
    exact ⟨fun c _ _ a3 _ => up2_ne _ _ _ a3, fun k _ => by simp (disch := omega) only [up2_ne, up2_r, rs_same, rs_ne, and_self], by simp (disch := omega) only [up2_ne, up2_r, rs_same, rs_ne, and_self], by simp (disch := omega) only [up2_ne, up2_r, rs_same, rs_ne, and_self], by simp (disch := omega) only [up2_ne, up2_r, rs_same, rs_ne, and_self], by simp (disch := omega) only [up2_ne, up2_r, rs_same, rs_ne, and_self]⟩
  · by_cases q1 : b = 1
    · simp only [if_neg q0, if_pos (show b = 0 ∨ b = 1 by omega), if_pos q1]
      exact ⟨fun c _ _ _ a4 => up2_ne _ _ _ a4, fun k _ => by simp (disch := omega) only [up2_ne, up2_r, rs_same, rs_ne, and_self], by simp (disch := omega) only [up2_ne, up2_r, rs_same, rs_ne, and_self], by simp (disch := omega) only [up2_ne, up2_r, rs_same, rs_ne, and_self], by simp (disch := omega) only [up2_ne, up2_r, rs_same, rs_ne, and_self], by simp (disch := omega) only [up2_ne, up2_r, rs_same, rs_ne, and_self]⟩
    · simp only [if_neg q0, if_neg (show ¬ (b = 0 ∨ b = 1) by omega), if_neg q1]
      exact ⟨fun c a1 a2 _ _ => by simp (disch := omega) only [up2_ne, up2_r, rs_same, rs_ne, and_self], fun k _ => by simp (disch := omega) only [up2_ne, up2_r, rs_same, rs_ne, and_self], by simp (disch := omega) only [up2_ne, up2_r, rs_same, rs_ne, and_self], by simp (disch := omega) only [up2_ne, up2_r, rs_same, rs_ne, and_self], by simp (disch := omega) only [up2_ne, up2_r, rs_same, rs_ne, and_self], by simp (disch := omega) only [up2_ne, up2_r, rs_same, rs_ne, and_self]⟩
theorem laysM_w (I : Nat → Nat → Int) (b a v : Int) : (∀ c, c ≠ 63 → c ≠ 64 → c ≠ 65 → laysM I b a v c = I c) ∧ laysM I b a v 64 = (if b = 0 then rs (I 64) a.toNat v else I 64) ∧ laysM I b a v 65 = (if b = 1 then rs (I 65) a.toNat v else I 65) ∧ laysM I b a v 63 = (if b = 0 ∨ b = 1 then I 63 else rs (I 63) a.toNat v) := by
  unfold laysM
  by_cases q0 : b = 0
  · simp only [if_pos q0, if_pos (show b = 0 ∨ b = 1 by omega), if_neg (show ¬ b = 1 by omega)]
    exact ⟨fun c _ a2 _ => up2_ne _ _ _ a2, by simp (disch := omega) only [up2_ne, up2_r, rs_same, rs_ne, and_self], by simp (disch := omega) only [up2_ne, up2_r, rs_same, rs_ne, and_self], by simp (disch := omega) only [up2_ne, up2_r, rs_same, rs_ne, and_self]⟩
  · by_cases q1 : b = 1
    · simp only [if_neg q0, if_pos (show b = 0 ∨ b = 1 by omega), if_pos q1]
      exact ⟨fun c _ _ a3 => up2_ne _ _ _ a3, by simp (disch := omega) only [up2_ne, up2_r, rs_same, rs_ne, and_self], by simp (disch := omega) only [up2_ne, up2_r, rs_same, rs_ne, and_self], by simp (disch := omega) only [up2_ne, up2_r, rs_same, rs_ne, and_self]⟩
    · simp only [if_neg q0, if_neg (show ¬ (b = 0 ∨ b = 1) by omega), if_neg q1]
      exact ⟨fun c a1 _ _ => by simp (disch := omega) only [up2_ne, up2_r, rs_same, rs_ne, and_self], by simp (disch := omega) only [up2_ne, up2_r, rs_same, rs_ne, and_self], by simp (disch := omega) only [up2_ne, up2_r, rs_same, rs_ne, and_self], by simp (disch := omega) only [up2_ne, up2_r, rs_same, rs_ne, and_self]⟩
theorem q_119 (L : Nat) (B : Nat → Int) (t d : Nat) (w : Nat × Bool) (I J : Nat → Nat → Int) (hd : 1000 ≤ d) (ht : t ≤ 1000) (h : Inv L B t w I J) : StpI L B t w I J d 119 153 [] := by
  obtain ⟨⟨h0, h0'⟩, hF, hS, hN, hT, hC, hA, hH, hL⟩ := id h
  obtain ⟨o1, o2, o3, o4, o5, o6, o7, o8, o9⟩ := id hC
  obtain ⟨hr, hg⟩ := Inv_rX h ht
  have h9 := hr.2.2.2.2
  have k1 := s_119 d w I J (by omega) (by omega) h9 o4
  by_cases c : I 37 7 = 0
  · have m0 := s_153 d w I J (by omega) (by omega) (by omega) (by rw [o6]; exact o4)
    rw [if_pos c] at k1
    rw [if_pos (by omega)] at m0
    exact Stp_id h k1 m0
  · rw [if_neg c] at k1
    obtain ⟨x1, x2, x3, x4, x5, x6⟩ := laysX_w (up2 I 37 7 (I 37 7 - 1)) (I 39 (I 37 7 - 1).toNat) (I 38 (I 37 7 - 1).toNat) (I 40 (I 37 7 - 1).toNat)
    have hX : undoX I = laysX (up2 I 37 7 (I 37 7 - 1)) (I 39 (I 37 7 - 1).toNat) (I 38 (I 37 7 - 1).toNat) (I 40 (I 37 7 - 1).toNat) := rfl
    rw [← hX] at x1 x2 x3 x4 x5 x6
    generalize hk : undoX I = X at k1 x1 x2 x3 x4 x5 x6
    have rr : ∀ c, c ≠ 4 → c ≠ 9 → c ≠ 11 → c ≠ 12 → c ≠ 37 → X c = I c := fun c a1 a2 a3 a4 a5 => by rw [x1 c a1 a2 a3 a4, up2_ne _ _ _ a5]
    have e58 : X 58 = I 58 := rr 58 (by omega) (by omega) (by omega) (by omega) (by omega)
    have m1 := s_153 d w X J (by omega) (by rw [e58]; omega) (by rw [e58]; omega) (by rw [rr 71 (by omega) (by omega) (by omega) (by omega) (by omega), o6]; exact o4)
    rw [e58, if_neg (by omega), o2] at m1
    obtain ⟨y1, y2, y3, y4⟩ := laysM_w (up2 (up2 X 58 20 (I 37 7 - 1)) 58 21 (I 58 21 + 1)) (I 39 (I 37 7 - 1).toNat) (I 38 (I 37 7 - 1).toNat) (I 40 (I 37 7 - 1).toNat)
    have hM : undoM X = laysM (up2 (up2 X 58 20 (I 37 7 - 1)) 58 21 (I 58 21 + 1)) (I 39 (I 37 7 - 1).toNat) (I 38 (I 37 7 - 1).toNat) (I 40 (I 37 7 - 1).toNat) := by
      unfold undoM
      rw [e58, o2, rr 70 (by omega) (by omega) (by omega) (by omega) (by omega), rr 71 (by omega) (by omega) (by omega) (by omega) (by omega), rr 72 (by omega) (by omega) (by omega) (by omega) (by omega), o6, o7, o8]
    rw [hM] at m1
    refine ⟨_, _, _, _, _, _, _, k1, ⟨h0, by rw [rr 0 (by omega) (by omega) (by omega) (by omega) (by omega)]; exact h0'⟩, m1, Inv_ly (b := I 39 (I 37 7 - 1).toNat) (a := I 38 (I 37 7 - 1).toNat) (v := I 40 (I 37 7 - 1).toNat) h ht (o5 _).1 ?_ ?_⟩
    · refine ⟨fun c a1 a2 a3 a4 a5 a6 a7 a8 a9 a10 => ?_, fun k hk => ?_, fun k k20 k21 => ?_, ?_, ?_, ?_, ?_, ?_, ?_, ?_⟩
      · rw [y1 c a7 a8 a9, up2_ne _ _ _ a6, up2_ne _ _ _ a6, rr c a1 a2 a3 a4 (by omega)]
      · rw [y1 4 (by omega) (by omega) (by omega), up2_ne _ _ _ (by omega), up2_ne _ _ _ (by omega), x2 k hk, up2_ne _ _ _ (by omega)]
      · rw [y1 58 (by omega) (by omega) (by omega), up2_sne _ _ _ k21, up2_sne _ _ _ k20, e58]
      · rw [y1 4 (by omega) (by omega) (by omega), up2_ne _ _ _ (by omega), up2_ne _ _ _ (by omega), x3, up2_ne _ _ _ (by omega)]
      · rw [y1 11 (by omega) (by omega) (by omega), up2_ne _ _ _ (by omega), up2_ne _ _ _ (by omega), x4, up2_ne _ _ _ (by omega)]
      · rw [y1 12 (by omega) (by omega) (by omega), up2_ne _ _ _ (by omega), up2_ne _ _ _ (by omega), x5, up2_ne _ _ _ (by omega)]
      · rw [y1 9 (by omega) (by omega) (by omega), up2_ne _ _ _ (by omega), up2_ne _ _ _ (by omega), x6, up2_ne _ _ _ (by omega)]
      · rw [y2, up2_ne _ _ _ (by omega), up2_ne _ _ _ (by omega), rr 64 (by omega) (by omega) (by omega) (by omega) (by omega)]
      · rw [y3, up2_ne _ _ _ (by omega), up2_ne _ _ _ (by omega), rr 65 (by omega) (by omega) (by omega) (by omega) (by omega)]
      · rw [y4, up2_ne _ _ _ (by omega), up2_ne _ _ _ (by omega), rr 63 (by omega) (by omega) (by omega) (by omega) (by omega)]
    · have r37 : ∀ k, laysM (up2 (up2 X 58 20 (I 37 7 - 1)) 58 21 (I 58 21 + 1)) (I 39 (I 37 7 - 1).toNat) (I 38 (I 37 7 - 1).toNat) (I 40 (I 37 7 - 1).toNat) 37 k = up2 I 37 7 (I 37 7 - 1) 37 k := fun k => by rw [y1 37 (by omega) (by omega) (by omega), up2_ne _ _ _ (by omega), up2_ne _ _ _ (by omega), x1 37 (by omega) (by omega) (by omega) (by omega)]
      have rc : ∀ c, c = 38 ∨ c = 39 ∨ c = 40 ∨ c = 41 ∨ c = 70 ∨ c = 71 ∨ c = 72 ∨ c = 73 → laysM (up2 (up2 X 58 20 (I 37 7 - 1)) 58 21 (I 58 21 + 1)) (I 39 (I 37 7 - 1).toNat) (I 38 (I 37 7 - 1).toNat) (I 40 (I 37 7 - 1).toNat) c = I c := fun c hc => by rw [y1 c (by omega) (by omega) (by omega), up2_ne _ _ _ (by omega), up2_ne _ _ _ (by omega), rr c (by omega) (by omega) (by omega) (by omega) (by omega)]
      have r58 : laysM (up2 (up2 X 58 20 (I 37 7 - 1)) 58 21 (I 58 21 + 1)) (I 39 (I 37 7 - 1).toNat) (I 38 (I 37 7 - 1).toNat) (I 40 (I 37 7 - 1).toNat) 58 = up2 (up2 X 58 20 (I 37 7 - 1)) 58 21 (I 58 21 + 1) 58 := y1 58 (by omega) (by omega) (by omega)
      unfold CH
      simp (disch := omega) only [r37, r58, rc]
      simp (disch := omega) only [up2_ne, up2_r, rs_same, rs_ne, and_self]
      exact ⟨by omega, trivial, by omega, o4, o5, o6, o7, o8, o9⟩
theorem q_120 (L : Nat) (B : Nat → Int) (t d : Nat) (w : Nat × Bool) (I J : Nat → Nat → Int) (hd : 1000 ≤ d) (ht : t ≤ 1000) (h : Inv L B t w I J) : StpI L B t w I J d 120 154 [] := by
  obtain ⟨⟨h0, h0'⟩, hF, hS, hN, hT, hC, hA, hH, hL⟩ := id h
  obtain ⟨o1, o2, o3, o4, o5, o6, o7, o8, o9⟩ := id hC
  obtain ⟨hr, hg⟩ := Inv_rX h ht
  have h9 := hr.2.2.2.2
  have k1 := s_120 d w I J (by omega) o1 h9 o4
  by_cases c : I 37 6 = I 37 7
  · have m0 := s_154 d w I J (by omega) (by omega) (by omega) (by rw [o6]; exact o4)
    rw [if_pos c] at k1
    rw [if_pos (by omega)] at m0
    exact Stp_id h k1 m0
  · rw [if_neg c] at k1
    obtain ⟨x1, x2, x3, x4, x5, x6⟩ := laysX_w I (I 39 (I 37 7).toNat) (I 38 (I 37 7).toNat) (I 41 (I 37 7).toNat)
    have hX : redoX I = up2 (laysX I (I 39 (I 37 7).toNat) (I 38 (I 37 7).toNat) (I 41 (I 37 7).toNat)) 37 7 (I 37 7 + 1) := rfl
    have z1 : ∀ c, c ≠ 4 → c ≠ 9 → c ≠ 11 → c ≠ 12 → c ≠ 37 → redoX I c = I c := fun c a1 a2 a3 a4 a5 => by rw [hX, up2_ne _ _ _ a5, x1 c a1 a2 a3 a4]
    have z37 : redoX I 37 = rs (I 37) 7 (I 37 7 + 1) := by rw [hX, up2_r, x1 37 (by omega) (by omega) (by omega) (by omega)]
    have z2 : ∀ k, k ≠ 9 → redoX I 4 k = I 4 k := fun k hk => by rw [hX, up2_ne _ _ _ (by omega), x2 k hk]
    have yy : ∀ c, c ≠ 37 → redoX I c = laysX I (I 39 (I 37 7).toNat) (I 38 (I 37 7).toNat) (I 41 (I 37 7).toNat) c := fun c hc => by rw [hX, up2_ne _ _ _ hc]
    have z3 := x3
    have z4 := x4
    have z5 := x5
    have z6 := x6
    rw [← yy 4 (by omega)] at z3
    rw [← yy 11 (by omega)] at z4
    rw [← yy 12 (by omega)] at z5
    rw [← yy 9 (by omega)] at z6
    clear yy hX
    generalize redoX I = X at k1 z1 z37 z2 z3 z4 z5 z6
    have e58 : X 58 = I 58 := z1 58 (by omega) (by omega) (by omega) (by omega) (by omega)
    have m1 := s_154 d w X J (by omega) (by rw [e58]; omega) (by rw [e58]; omega) (by rw [z1 71 (by omega) (by omega) (by omega) (by omega) (by omega), o6]; exact o4)
    obtain ⟨y1, y2, y3, y4⟩ := laysM_w X (I 39 (I 37 7).toNat) (I 38 (I 37 7).toNat) (I 41 (I 37 7).toNat)
    have hM : redoM X = up2 (up2 (laysM X (I 39 (I 37 7).toNat) (I 38 (I 37 7).toNat) (I 41 (I 37 7).toNat)) 58 20 (I 37 7 + 1)) 58 21 (I 58 21 - 1) := by
      unfold redoM
      rw [e58, o2, z1 70 (by omega) (by omega) (by omega) (by omega) (by omega), z1 71 (by omega) (by omega) (by omega) (by omega) (by omega), z1 73 (by omega) (by omega) (by omega) (by omega) (by omega), o6, o7, o9]
    rw [e58, if_neg (by omega), hM, show I 58 21 - 1 = I 37 6 - (I 37 7 + 1) by omega] at m1
    refine ⟨_, _, _, _, _, _, _, k1, ⟨h0, by rw [z1 0 (by omega) (by omega) (by omega) (by omega) (by omega)]; exact h0'⟩, m1, Inv_ly (b := I 39 (I 37 7).toNat) (a := I 38 (I 37 7).toNat) (v := I 41 (I 37 7).toNat) h ht (o5 _).2 ?_ ?_⟩
    · refine ⟨fun c a1 a2 a3 a4 a5 a6 a7 a8 a9 a10 => ?_, fun k hk => ?_, fun k k20 k21 => ?_, ?_, ?_, ?_, ?_, ?_, ?_, ?_⟩
      · rw [up2_ne _ _ _ a6, up2_ne _ _ _ a6, y1 c a7 a8 a9, z1 c a1 a2 a3 a4 (by omega)]
      · rw [up2_ne _ _ _ (by omega), up2_ne _ _ _ (by omega), y1 4 (by omega) (by omega) (by omega), z2 k hk]
      · rw [up2_sne _ _ _ k21, up2_sne _ _ _ k20, y1 58 (by omega) (by omega) (by omega), e58]
      · rw [up2_ne _ _ _ (by omega), up2_ne _ _ _ (by omega), y1 4 (by omega) (by omega) (by omega), z3]
      · rw [up2_ne _ _ _ (by omega), up2_ne _ _ _ (by omega), y1 11 (by omega) (by omega) (by omega), z4]
      · rw [up2_ne _ _ _ (by omega), up2_ne _ _ _ (by omega), y1 12 (by omega) (by omega) (by omega), z5]
      · rw [up2_ne _ _ _ (by omega), up2_ne _ _ _ (by omega), y1 9 (by omega) (by omega) (by omega), z6]
      · rw [up2_ne _ _ _ (by omega), up2_ne _ _ _ (by omega), y2, z1 64 (by omega) (by omega) (by omega) (by omega) (by omega)]
      · rw [up2_ne _ _ _ (by omega), up2_ne _ _ _ (by omega), y3, z1 65 (by omega) (by omega) (by omega) (by omega) (by omega)]
      · rw [up2_ne _ _ _ (by omega), up2_ne _ _ _ (by omega), y4, z1 63 (by omega) (by omega) (by omega) (by omega) (by omega)]
    · unfold CH
      simp (disch := omega) only [up2_ne, up2_r, rs_same, rs_ne, and_self]
      simp (disch := omega) only [y1, z1, z37, rs_same, rs_ne]
      exact ⟨by omega, trivial, by first | trivial | omega, o4, o5, o6, o7, o8, o9⟩
/-! mend -/
theorem cpy_ne (I : Nat → Nat → Int) (c0 : Nat) {c1 : Nat} (sp dp n : Nat) {c : Nat} (h : c ≠ c1) : cpy I c0 c1 sp dp n c = I c := by rw [cpy_row, if_neg h]
theorem cpy_r (I : Nat → Nat → Int) (c sp dp n : Nat) : cpy I c c sp dp n c = cr (I c) (I c) sp dp n := by rw [cpy_row, if_pos rfl]
def dpN (n : Int) : Int := if n = 40 then 39 else n
def dpR (n : Int) (f : Nat → Int) : Nat → Int := if n = 40 then cr f f 1 0 39 else f
theorem pX_w (I : Nat → Nat → Int) (a b u v : Int) : (∀ c, (c < 37 ∨ 41 < c) → pushX (dropX I) a b u v c = I c) ∧ pushX (dropX I) a b u v 37 7 = dpN (I 37 7) + 1 ∧ pushX (dropX I) a b u v 37 6 = dpN (I 37 7) + 1 ∧ pushX (dropX I) a b u v 38 = rs (dpR (I 37 7) (I 38)) (dpN (I 37 7)).toNat a ∧ pushX (dropX I) a b u v 39 = rs (dpR (I 37 7) (I 39)) (dpN (I 37 7)).toNat b ∧ pushX (dropX I) a b u v 40 = rs (dpR (I 37 7) (I 40)) (dpN (I 37 7)).toNat u ∧ pushX (dropX I) a b u v 41 = rs (dpR (I 37 7) (I 41)) (dpN (I 37 7)).toNat v := by
  unfold pushX pu4 dropX cp4 dpN dpR
  by_cases q : I 37 7 = 40
  · simp only [if_pos q]
    simp (disch := omega) only [up2_ne, up2_r, rs_same, rs_ne, cpy_ne, cpy_r, and_self, and_true, true_and]
    intro c hc
    simp (disch := omega) only [up2_ne, cpy_ne]
  · simp only [if_neg q]
    simp (disch := omega) only [up2_ne, up2_r, rs_same, rs_ne, and_self, and_true, true_and]
    intro c hc
    simp (disch := omega) only [up2_ne]
theorem pM_w (I : Nat → Nat → Int) (a b u v : Int) : (∀ c, (c < 70 ∨ 73 < c) → c ≠ 58 → pushM (dropM I) a b u v c = I c) ∧ (∀ k, k ≠ 20 → k ≠ 21 → pushM (dropM I) a b u v 58 k = I 58 k) ∧ pushM (dropM I) a b u v 58 20 = dpN (I 58 20) + 1 ∧ pushM (dropM I) a b u v 58 21 = 0 ∧ pushM (dropM I) a b u v 70 = rs (dpR (I 58 20) (I 70)) (dpN (I 58 20)).toNat b ∧ pushM (dropM I) a b u v 71 = rs (dpR (I 58 20) (I 71)) (dpN (I 58 20)).toNat a ∧ pushM (dropM I) a b u v 72 = rs (dpR (I 58 20) (I 72)) (dpN (I 58 20)).toNat u ∧ pushM (dropM I) a b u v 73 = rs (dpR (I 58 20) (I 73)) (dpN (I 58 20)).toNat v := by
  unfold pushM pu4 dropM cp4 dpN dpR
  by_cases q : I 58 20 = 40
  · simp only [if_pos q]
    simp (disch := omega) only [up2_ne, up2_r, rs_same, rs_ne, cpy_ne, cpy_r, and_self, and_true, true_and]
    refine ⟨fun c hc hc2 => ?_, fun k k1 k2 => ?_⟩
    · simp (disch := omega) only [up2_ne, cpy_ne]
    · simp (disch := omega) only [rs_ne]
  · simp only [if_neg q]
    simp (disch := omega) only [up2_ne, up2_r, rs_same, rs_ne, and_self, and_true, true_and]
    refine ⟨fun c hc hc2 => ?_, fun k k1 k2 => ?_⟩
    · simp (disch := omega) only [up2_ne]
    · simp (disch := omega) only [rs_ne]
theorem dpR_R {P : Int → Prop} (n : Int) {f : Nat → Int} (h : ∀ k, P (f k)) : ∀ k, P (dpR n f k) := by
  intro k
  unfold dpR
  split
  · unfold cr
    split
    · exact h _
    · exact h _
  · exact h k
theorem dpR_2 {P : Int → Int → Prop} (n : Int) {f g : Nat → Int} (h : ∀ k, P (f k) (g k)) : ∀ k, P (dpR n f k) (dpR n g k) := by
  intro k
  unfold dpR
  split
  · unfold cr
    split
    · exact h _
    · exact h _
  · exact h k
theorem q_100 (L : Nat) (B : Nat → Int) (t d : Nat) (w : Nat × Bool) (I J : Nat → Nat → Int) (a b v : Int) (hd : 1000 ≤ d) (ht : t ≤ 1000) (h : Inv L B t w I J) : StpI L B t w I J d 100 155 [vi a, vi b, vi v] := by
  obtain ⟨⟨h0, h0'⟩, hF, hS, hN, hT, hC, hA, hH, hL⟩ := id h
  obtain ⟨g1, g2, g3, g4, g5, g6, g7, g8, g9, f1, f2, f3, f4, f5, f6, f7, f8, f9⟩ := id hF
  obtain ⟨t1, t2, t3, t4, t5, t6, s1, s2, s3, s4, s5, s6, s7⟩ := id hS
  obtain ⟨o1, o2, o3, o4, o5, o6, o7, o8, o9⟩ := id hC
  obtain ⟨hr, hg⟩ := Inv_rX h ht
  have h9 := hr.2.2.2.2
  by_cases hk : mOK (I 10 6) (I 4 8) a b v
  · have k1 := s_100a d w I J a b v (by omega) t1 g4 (by omega) h9 hk
    have hval : ∀ X : Nat → Nat → Int, X 64 = I 64 → X 65 = I 65 → X 63 = I 63 → valM X b a = valX I b a := fun X e1 e2 e3 => by unfold valM valX; rw [e1, e2, e3, s2, s3, f9]
    have ha : 0 ≤ a ∧ a < 10 := by unfold mOK at hk; omega
    have hcv : chv b v ∧ chv b (valX I b a) := by
      unfold mOK at hk
      refine ⟨⟨fun q => by omega, fun q => by omega⟩, ⟨fun q => ?_, fun q => ?_⟩⟩
      · unfold valX; rw [if_pos q]; exact t2 _
      · unfold valX
        rw [if_neg q]
        split
        · exact t3 _
        · exact g9 _
    by_cases hv : v = valX I b a
    · have hX : makeX I a b v = I := by unfold makeX; rw [if_pos hv]
      rw [hX] at k1
      have m0 := s_155a d w I J a b v (by omega) (by rw [s1]; exact t1) (by rw [f4]; exact g4) (by rw [o2]; omega) (by rw [s1, f4]; exact hk)
      have hM : makeM I a b v = I := by unfold makeM; rw [if_pos (by rw [hval I rfl rfl rfl]; exact hv)]
      rw [hM, hval I rfl rfl rfl] at m0
      exact Stp_id h k1 m0
    · obtain ⟨p1, p2, p3, p4, p5, p6, p7⟩ := pX_w I a b (valX I b a) v
      obtain ⟨x1, x2, x3, x4, x5, x6⟩ := laysX_w (pushX (dropX I) a b (valX I b a) v) b a v
      have hX : makeX I a b v = laysX (pushX (dropX I) a b (valX I b a) v) b a v := by unfold makeX; rw [if_neg hv]
      rw [← hX] at x1 x2 x3 x4 x5 x6
      clear hX
      generalize makeX I a b v = X at k1 x1 x2 x3 x4 x5 x6
      have z1 : ∀ c, c ≠ 4 → c ≠ 9 → c ≠ 11 → c ≠ 12 → (c < 37 ∨ 41 < c) → X c = I c := fun c a1 a2 a3 a4 a5 => by rw [x1 c a1 a2 a3 a4, p1 c a5]
      have z5 : ∀ c, 37 ≤ c → c ≤ 41 → X c = pushX (dropX I) a b (valX I b a) v c := fun c a1 a2 => x1 c (by omega) (by omega) (by omega) (by omega)
      rw [p1 4 (by omega)] at x2 x3
      rw [p1 11 (by omega)] at x4
      rw [p1 12 (by omega)] at x5
      rw [p1 9 (by omega)] at x6
      rw [← z5 37 (by omega) (by omega)] at p2 p3
      rw [← z5 38 (by omega) (by omega)] at p4
      rw [← z5 39 (by omega) (by omega)] at p5
      rw [← z5 40 (by omega) (by omega)] at p6
      rw [← z5 41 (by omega) (by omega)] at p7
      clear x1 p1 z5
      have e58 : X 58 = I 58 := z1 58 (by omega) (by omega) (by omega) (by omega) (by omega)
      have eval := hval X (z1 64 (by omega) (by omega) (by omega) (by omega) (by omega)) (z1 65 (by omega) (by omega) (by omega) (by omega) (by omega)) (z1 63 (by omega) (by omega) (by omega) (by omega) (by omega))
      have m1 := s_155a d w X J a b v (by omega) (by rw [e58, s1]; exact t1) (by rw [e58, f4]; exact g4) (by rw [e58, o2]; omega) (by rw [e58, s1, f4]; exact hk)
      obtain ⟨r1, r2, r3, r4, r5, r6, r7, r8⟩ := pM_w X a b (valX I b a) v
      obtain ⟨y1, y2, y3, y4⟩ := laysM_w (pushM (dropM X) a b (valX I b a) v) b a v
      have hM : makeM X a b v = laysM (pushM (dropM X) a b (valX I b a) v) b a v := by unfold makeM; rw [eval, if_neg hv]
      rw [← hM] at y1 y2 y3 y4
      clear hM
      generalize makeM X a b v = F at m1 y1 y2 y3 y4
      rw [eval] at m1
      rw [e58, o2] at r3 r5 r6 r7 r8
      rw [z1 70 (by omega) (by omega) (by omega) (by omega) (by omega), o7] at r5
      rw [z1 71 (by omega) (by omega) (by omega) (by omega) (by omega), o6] at r6
      rw [z1 72 (by omega) (by omega) (by omega) (by omega) (by omega), o8] at r7
      rw [z1 73 (by omega) (by omega) (by omega) (by omega) (by omega), o9] at r8
      rw [← y1 70 (by omega) (by omega) (by omega)] at r5
      rw [← y1 71 (by omega) (by omega) (by omega)] at r6
      rw [← y1 72 (by omega) (by omega) (by omega)] at r7
      rw [← y1 73 (by omega) (by omega) (by omega)] at r8
      rw [← y1 58 (by omega) (by omega) (by omega)] at r2 r3 r4
      rw [r1 64 (by omega) (by omega), z1 64 (by omega) (by omega) (by omega) (by omega) (by omega)] at y2
      rw [r1 65 (by omega) (by omega), z1 65 (by omega) (by omega) (by omega) (by omega) (by omega)] at y3
      rw [r1 63 (by omega) (by omega), z1 63 (by omega) (by omega) (by omega) (by omega) (by omega)] at y4
      have u1 : ∀ c, c ≠ 63 → c ≠ 64 → c ≠ 65 → (c < 70 ∨ 73 < c) → c ≠ 58 → F c = X c := fun c a1 a2 a3 a4 a5 => by rw [y1 c a1 a2 a3, r1 c a4 a5]
      refine ⟨_, _, _, _, _, _, _, k1, ⟨h0, by rw [z1 0 (by omega) (by omega) (by omega) (by omega) (by omega)]; exact h0'⟩, m1, Inv_ly (b := b) (a := a) (v := v) h ht hcv.1 ?_ ?_⟩
      · refine ⟨fun c a1 a2 a3 a4 a5 a6 a7 a8 a9 a10 => ?_, fun k hk => ?_, fun k k20 k21 => ?_, ?_, ?_, ?_, ?_, y2, y3, y4⟩
        · rw [u1 c a7 a8 a9 a10 a6, z1 c a1 a2 a3 a4 a5]
        · rw [u1 4 (by omega) (by omega) (by omega) (by omega) (by omega), x2 k hk]
        · rw [r2 k k20 k21, e58]
        · rw [u1 4 (by omega) (by omega) (by omega) (by omega) (by omega), x3]
        · rw [u1 11 (by omega) (by omega) (by omega) (by omega) (by omega), x4]
        · rw [u1 12 (by omega) (by omega) (by omega) (by omega) (by omega), x5]
        · rw [u1 9 (by omega) (by omega) (by omega) (by omega) (by omega), x6]
      · have hn : 0 ≤ dpN (I 37 7) ∧ dpN (I 37 7) ≤ 39 := by unfold dpN; split <;> omega
        unfold CH
        rw [r3, r4, r5, r6, r7, r8, u1 37 (by omega) (by omega) (by omega) (by omega) (by omega), u1 38 (by omega) (by omega) (by omega) (by omega) (by omega), u1 39 (by omega) (by omega) (by omega) (by omega) (by omega), u1 40 (by omega) (by omega) (by omega) (by omega) (by omega), u1 41 (by omega) (by omega) (by omega) (by omega) (by omega), p2, p3, p4, p5, p6, p7]
        refine ⟨by omega, rfl, by omega, ?_, ?_, rfl, rfl, rfl, rfl⟩
        · intro k
          rw [rs_at]
          split
          · exact ha
          · exact dpR_R (P := fun z => 0 ≤ z ∧ z < 10) _ o4 k
        · intro k
          rw [rs_at, rs_at, rs_at]
          by_cases q : k = (dpN (I 37 7)).toNat
          · rw [if_pos q, if_pos q, if_pos q]; exact ⟨hcv.2, hcv.1⟩
          · rw [if_neg q, if_neg q, if_neg q]
            exact ⟨dpR_2 (P := chv) _ (fun k => (o5 k).1) k, dpR_2 (P := chv) _ (fun k => (o5 k).2) k⟩
  · have k1 := s_100b d w I J a b v (by omega) hk
    have m0 := s_155b d w I J a b v (by omega) (by rw [s1]; exact t1) (by rw [f4]; exact g4) (by rw [s1, f4]; exact hk)
    exact Stp_id h k1 m0
