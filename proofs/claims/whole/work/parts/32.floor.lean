def occ (n : Nat) (f g : Nat → Int) (x y : Int) : Bool := (fnd (fun u => decide (f u = x ∧ g u = y)) n).isSome
def free (wd dp nd ns : Int) (dx dy sx sy : Nat → Int) (x y : Int) : Bool := decide (0 ≤ x ∧ x < wd) && decide (0 ≤ y ∧ y < dp) && !occ nd.toNat dx dy x y && !occ ns.toNat sx sy x y
def b2 (b : Bool) : Int := if b = true then 1 else 0
def sit1 (n : Nat) (se : Nat → Int) (x : Int) : Int := match fnd (fun u => decide (se u = x)) n with
  | some k => (k : Int)
  | none => -1
theorem nat_lt {n : Int} {u : Nat} (h : u < n.toNat) : (u : Int) < n := by omega
theorem s_23 (d : Nat) (w : Nat × Bool) (I J : Nat → Nat → Int) (x y : Int) (hd : 2 ≤ d) (h1 : 0 ≤ I 4 0 ∧ I 4 0 ≤ 20) (h2 : 0 ≤ I 4 1 ∧ I 4 1 ≤ 20) (h3 : 0 ≤ I 4 4 ∧ I 4 4 ≤ 10) (h4 : 0 ≤ I 4 8 ∧ I 4 8 ≤ 10) : semC d 23 [vr 4, vi x, vi y] (mk w I J) = some (some (vi (b2 (free (I 4 0) (I 4 1) (I 4 4) (I 4 8) (I 5) (I 6) (I 7) (I 8) x y))), mk w I J) := by
  obtain ⟨e, rfl⟩ : ∃ e, d = e + 1 := ⟨d - 1, by omega⟩
  rw [e_23]
  have l1 := loopx (fun u : Nat => Sem e 23 32 [some (vr 4), some (vi x), some (vi y), some (vi (u : Int))] [] (mk w I J)) (fun _ => some (some (vi 0), mk w I J)) (fun u => decide (I 5 u = x ∧ I 6 u = y)) (I 4 4).toNat (by
    intro u hu
    have hu' := nat_lt hu
    rw [b_23_32]
    simp (disch := omega) only [if_pos, b_23_40, b_23_50, b_23_60, b_23_62, nat_i, wr_n1, decide_eq_true_eq]
    repeat' split
    all_goals first | rfl | (exfalso; simp_all; done) | simp_all)
  have l2 := loopx (fun u : Nat => Sem e 23 70 [some (vr 4), some (vi x), some (vi y), some (vi (u : Int))] [] (mk w I J)) (fun _ => some (some (vi 0), mk w I J)) (fun u => decide (I 7 u = x ∧ I 8 u = y)) (I 4 8).toNat (by
    intro u hu
    have hu' := nat_lt hu
    rw [b_23_70]
    simp (disch := omega) only [if_pos, b_23_78, b_23_88, b_23_98, b_23_100, nat_i, wr_n1, decide_eq_true_eq]
    repeat' split
    all_goals first | rfl | (exfalso; simp_all; done) | simp_all)
  have e1 : ((I 4 4).toNat : Int) = I 4 4 := Int.toNat_of_nonneg h3.1
  have e2 : ((I 4 8).toNat : Int) = I 4 8 := Int.toNat_of_nonneg h4.1
  have z0 : ((0 : Nat) : Int) = 0 := rfl
  have x1 : Sem e 23 32 [some (vr 4), some (vi x), some (vi y), some (vi (I 4 4))] [] (mk w I J) = Sem e 23 70 [some (vr 4), some (vi x), some (vi y), some (vi (0 : Int))] [] (mk w I J) := by rw [b_23_32, if_neg (by omega), b_23_68]
  have x2 : Sem e 23 70 [some (vr 4), some (vi x), some (vi y), some (vi (I 4 8))] [] (mk w I J) = some (some (vi 1), mk w I J) := by rw [b_23_70, if_neg (by omega), b_23_106]
  rw [e1, x1, z0] at l1
  rw [e2, x2, z0] at l2
  simp (disch := omega) only [b_23_0, b_23_11, b_23_14, b_23_25, b_23_28, b_23_30, semK_of (s_133 _ _ _ _ _ _ _ _), mpush, wr_if]
  rw [l1, l2]
  unfold b2 free occ
  cases fnd (fun u => decide (I 5 u = x ∧ I 6 u = y)) (I 4 4).toNat <;> cases fnd (fun u => decide (I 7 u = x ∧ I 8 u = y)) (I 4 8).toNat <;> by_cases c1 : 0 ≤ x ∧ x < I 4 0 <;> by_cases c2 : 0 ≤ y ∧ y < I 4 1
  all_goals (have c3 : (0 ≤ x ∧ x ≤ I 4 0 - 1) = (0 ≤ x ∧ x < I 4 0) := by apply propext; omega
             have c4 : (0 ≤ y ∧ y ≤ I 4 1 - 1) = (0 ≤ y ∧ y < I 4 1) := by apply propext; omega
             simp [c1, c2, c3, c4]
             try (simp (disch := omega) only [if_neg, if_pos]))
theorem s_141 (d : Nat) (w : Nat × Bool) (I J : Nat → Nat → Int) (x y : Int) (hd : 2 ≤ d) (h1 : 0 ≤ I 58 1 ∧ I 58 1 ≤ 20) (h2 : 0 ≤ I 58 2 ∧ I 58 2 ≤ 20) (h3 : 0 ≤ I 58 3 ∧ I 58 3 ≤ 10) (h4 : 0 ≤ I 58 6 ∧ I 58 6 ≤ 10) : semC d 141 [vr 58, vi x, vi y] (mk w I J) = some (some (vi (b2 (free (I 58 1) (I 58 2) (I 58 3) (I 58 6) (I 59) (I 60) (I 61) (I 62) x y))), mk w I J) := by
  obtain ⟨e, rfl⟩ : ∃ e, d = e + 1 := ⟨d - 1, by omega⟩
  rw [e_141]
  have l1 := loopx (fun u : Nat => Sem e 141 32 [some (vr 58), some (vi x), some (vi y), some (vi (u : Int))] [] (mk w I J)) (fun _ => some (some (vi 0), mk w I J)) (fun u => decide (I 59 u = x ∧ I 60 u = y)) (I 58 3).toNat (by
    intro u hu
    have hu' := nat_lt hu
    rw [b_141_32]
    simp (disch := omega) only [if_pos, b_141_40, b_141_50, b_141_60, b_141_62, nat_i, wr_n1, decide_eq_true_eq]
    repeat' split
    all_goals first | rfl | (exfalso; simp_all; done) | simp_all)
  have l2 := loopx (fun u : Nat => Sem e 141 70 [some (vr 58), some (vi x), some (vi y), some (vi (u : Int))] [] (mk w I J)) (fun _ => some (some (vi 0), mk w I J)) (fun u => decide (I 61 u = x ∧ I 62 u = y)) (I 58 6).toNat (by
    intro u hu
    have hu' := nat_lt hu
    rw [b_141_70]
    simp (disch := omega) only [if_pos, b_141_78, b_141_88, b_141_98, b_141_100, nat_i, wr_n1, decide_eq_true_eq]
    repeat' split
    all_goals first | rfl | (exfalso; simp_all; done) | simp_all)
  have e1 : ((I 58 3).toNat : Int) = I 58 3 := Int.toNat_of_nonneg h3.1
  have e2 : ((I 58 6).toNat : Int) = I 58 6 := Int.toNat_of_nonneg h4.1
  have z0 : ((0 : Nat) : Int) = 0 := rfl
  have x1 : Sem e 141 32 [some (vr 58), some (vi x), some (vi y), some (vi (I 58 3))] [] (mk w I J) = Sem e 141 70 [some (vr 58), some (vi x), some (vi y), some (vi (0 : Int))] [] (mk w I J) := by rw [b_141_32, if_neg (by omega), b_141_68]
  have x2 : Sem e 141 70 [some (vr 58), some (vi x), some (vi y), some (vi (I 58 6))] [] (mk w I J) = some (some (vi 1), mk w I J) := by rw [b_141_70, if_neg (by omega), b_141_106]
  rw [e1, x1, z0] at l1
  rw [e2, x2, z0] at l2
  simp (disch := omega) only [b_141_0, b_141_11, b_141_14, b_141_25, b_141_28, b_141_30, semK_of (s_135 _ _ _ _ _ _ _ _), mpush, wr_if]
  rw [l1, l2]
  unfold b2 free occ
  cases fnd (fun u => decide (I 59 u = x ∧ I 60 u = y)) (I 58 3).toNat <;> cases fnd (fun u => decide (I 61 u = x ∧ I 62 u = y)) (I 58 6).toNat <;> by_cases c1 : 0 ≤ x ∧ x < I 58 1 <;> by_cases c2 : 0 ≤ y ∧ y < I 58 2
  all_goals (have c3 : (0 ≤ x ∧ x ≤ I 58 1 - 1) = (0 ≤ x ∧ x < I 58 1) := by apply propext; omega
             have c4 : (0 ≤ y ∧ y ≤ I 58 2 - 1) = (0 ≤ y ∧ y < I 58 2) := by apply propext; omega
             simp [c1, c2, c3, c4]
             try (simp (disch := omega) only [if_neg, if_pos]))
theorem l_82 (e : Nat) (w : Nat × Bool) (I J : Nat → Nat → Int) (x : Int) (h : 0 ≤ I 10 6 ∧ I 10 6 ≤ 10) : Sem e 82 9 [some (vr 10), some (vi x), some (vi (0 : Int))] [] (mk w I J) = some (some (vi (sit1 (I 10 6).toNat (I 16) x)), mk w I J) := by
  have l1 := loopx (fun u : Nat => Sem e 82 9 [some (vr 10), some (vi x), some (vi (u : Int))] [] (mk w I J)) (fun k => some (some (vi (k : Int)), mk w I J)) (fun u => decide (I 16 u = x)) (I 10 6).toNat (by
    intro u hu
    have hu' := nat_lt hu
    rw [b_82_9]
    simp (disch := omega) only [if_pos, b_82_17, b_82_27, b_82_29, nat_i, wr_n1, decide_eq_true_eq])
  have e1 : ((I 10 6).toNat : Int) = I 10 6 := Int.toNat_of_nonneg h.1
  have z0 : ((0 : Nat) : Int) = 0 := rfl
  have x1 : Sem e 82 9 [some (vr 10), some (vi x), some (vi (I 10 6))] [] (mk w I J) = some (some (vi (-1)), mk w I J) := by rw [b_82_9, if_neg (by omega), b_82_35]
  rw [e1, x1, z0] at l1
  rw [l1]
  unfold sit1
  cases fnd (fun u => decide (I 16 u = x)) (I 10 6).toNat <;> rfl
theorem l_146 (e : Nat) (w : Nat × Bool) (I J : Nat → Nat → Int) (x : Int) (h : 0 ≤ I 58 10 ∧ I 58 10 ≤ 10) : Sem e 146 2 [some (vr 58), some (vi x), some (vi (0 : Int))] [] (mk w I J) = some (some (vi (sit1 (I 58 10).toNat (I 69) x)), mk w I J) := by
  have l1 := loopx (fun u : Nat => Sem e 146 2 [some (vr 58), some (vi x), some (vi (u : Int))] [] (mk w I J)) (fun k => some (some (vi (k : Int)), mk w I J)) (fun u => decide (I 69 u = x)) (I 58 10).toNat (by
    intro u hu
    have hu' := nat_lt hu
    rw [b_146_2]
    simp (disch := omega) only [if_pos, b_146_10, b_146_20, b_146_22, nat_i, wr_n1, decide_eq_true_eq])
  have e1 : ((I 58 10).toNat : Int) = I 58 10 := Int.toNat_of_nonneg h.1
  have z0 : ((0 : Nat) : Int) = 0 := rfl
  have x1 : Sem e 146 2 [some (vr 58), some (vi x), some (vi (I 58 10))] [] (mk w I J) = some (some (vi (-1)), mk w I J) := by rw [b_146_2, if_neg (by omega), b_146_28]
  rw [e1, x1, z0] at l1
  rw [l1]
  unfold sit1
  cases fnd (fun u => decide (I 69 u = x)) (I 58 10).toNat <;> rfl
theorem s_82 (d : Nat) (w : Nat × Bool) (I J : Nat → Nat → Int) (x : Int) (hd : 1 ≤ d) (h : 0 ≤ I 10 6 ∧ I 10 6 ≤ 10) : semC d 82 [vr 10, vi x] (mk w I J) = some (some (vi (if x = -1 then -1 else sit1 (I 10 6).toNat (I 16) x)), mk w I J) := by
  obtain ⟨e, rfl⟩ : ∃ e, d = e + 1 := ⟨d - 1, by omega⟩
  rw [e_82]
  simp only [b_82_0, b_82_5, b_82_7, l_82 _ _ _ _ _ h]
  split <;> rfl
theorem s_146 (d : Nat) (w : Nat × Bool) (I J : Nat → Nat → Int) (x : Int) (hd : 1 ≤ d) (h : 0 ≤ I 58 10 ∧ I 58 10 ≤ 10) : semC d 146 [vr 58, vi x] (mk w I J) = some (some (vi (sit1 (I 58 10).toNat (I 69) x)), mk w I J) := by
  obtain ⟨e, rfl⟩ : ∃ e, d = e + 1 := ⟨d - 1, by omega⟩
  rw [e_146]
  simp only [b_146_0, l_146 _ _ _ _ _ h]
