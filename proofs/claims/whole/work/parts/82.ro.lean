/-! calls that change nothing that is kept, of both -/
theorem q_105 (L : Nat) (B : Nat → Int) (t d : Nat) (w : Nat × Bool) (I J : Nat → Nat → Int) (x : Int) (hx : iR x) (hd : 1000 ≤ d) (h : Inv L B t w I J) : StpI L B t w I J d 105 182 [vi x] := by
  obtain ⟨f, hK, hM, _⟩ := h.2.2.2.2.2.2.2.2
  obtain ⟨I1, k1, k2, k3⟩ := s_105 d w I J f x (by omega) hx hK (Inv_SC h) (Inv_se h)
  have he := eR_C k2
  obtain ⟨hKM, hSM⟩ := cp_KM h hM (eR_58 he)
  obtain ⟨c1, c2, c3, c4, c5, c6, c7, c8, c9, c10, c11, c12, c13, c14, c15, c16, c17, c18, c19, c20⟩ := Inv_cp f h (eR_6 he)
  obtain ⟨I2, m1, m2⟩ := s_182 d w I1 J f x (by omega) hx hKM hSM
  simp only [c1, c18, c2, c7] at m1
  exact Stp_ro h hM k1 he k3 m1 (eQ_M m2)
theorem q_106 (L : Nat) (B : Nat → Int) (t d : Nat) (w : Nat × Bool) (I J : Nat → Nat → Int) (x y : Int)  (hd : 1000 ≤ d) (h : Inv L B t w I J) : StpI L B t w I J d 106 187 [vi x, vi y] := by
  obtain ⟨f, hK, hM, _⟩ := h.2.2.2.2.2.2.2.2
  obtain ⟨I1, k1, k2, k3⟩ := s_106 d w I J f x y (by omega) hK (Inv_SC h) (Inv_se h)
  have he := eR_C k2
  obtain ⟨hKM, hSM⟩ := cp_KM h hM (eR_58 he)
  obtain ⟨c1, c2, c3, c4, c5, c6, c7, c8, c9, c10, c11, c12, c13, c14, c15, c16, c17, c18, c19, c20⟩ := Inv_cp f h (eR_6 he)
  obtain ⟨I2, m1, m2⟩ := s_187 d w I1 J f x y (by omega) hKM hSM
  simp only [c1, c18, c15, c4, c3, c2, c7] at m1
  exact Stp_ro h hM k1 he k3 m1 (eQ_M m2)
theorem q_107 (L : Nat) (B : Nat → Int) (t d : Nat) (w : Nat × Bool) (I J : Nat → Nat → Int)  (hd : 1000 ≤ d) (h : Inv L B t w I J) : StpI L B t w I J d 107 189 [] := by
  obtain ⟨f, hK, hM, _⟩ := h.2.2.2.2.2.2.2.2
  obtain ⟨I1, k1, k2, k3⟩ := s_107 d w I J f (by omega) hK (Inv_SC h) (Inv_se h)
  have he := eR_C k2
  obtain ⟨hKM, hSM⟩ := cp_KM h hM (eR_58 he)
  obtain ⟨c1, c2, c3, c4, c5, c6, c7, c8, c9, c10, c11, c12, c13, c14, c15, c16, c17, c18, c19, c20⟩ := Inv_cp f h (eR_6 he)
  obtain ⟨I2, m1, m2⟩ := s_189 d w I1 J f (by omega) hKM hSM
  simp only [c1, c18, c15, c4, c3, c2, c7] at m1
  exact Stp_ro h hM k1 he k3 m1 (eQ_M m2)
theorem q_108 (L : Nat) (B : Nat → Int) (t d : Nat) (w : Nat × Bool) (I J : Nat → Nat → Int) (x : Int)  (hd : 1000 ≤ d) (h : Inv L B t w I J) : StpI L B t w I J d 108 191 [vi x] := by
  obtain ⟨f, hK, hM, _⟩ := h.2.2.2.2.2.2.2.2
  obtain ⟨I1, k1, k2, k3⟩ := s_108 d w I J f x (by omega) hK (Inv_SC h) (Inv_se h)
  have he := eR_C k2
  obtain ⟨hKM, hSM⟩ := cp_KM h hM (eR_58 he)
  obtain ⟨c1, c2, c3, c4, c5, c6, c7, c8, c9, c10, c11, c12, c13, c14, c15, c16, c17, c18, c19, c20⟩ := Inv_cp f h (eR_6 he)
  obtain ⟨I2, m1, m2⟩ := s_191 d w I1 J f x (by omega) hKM hSM
  simp only [c1, c18, c10, c11, c2, c7] at m1
  exact Stp_ro h hM k1 he k3 m1 (eQ_M m2)
theorem q_110 (L : Nat) (B : Nat → Int) (t d : Nat) (w : Nat × Bool) (I J : Nat → Nat → Int) (x y : Int)  (hd : 1000 ≤ d) (h : Inv L B t w I J) : StpI L B t w I J d 110 194 [vi x, vi y] := by
  obtain ⟨f, hK, hM, _⟩ := h.2.2.2.2.2.2.2.2
  obtain ⟨I1, k1, k2, k3⟩ := s_110 d w I J f x y (by omega) hK (Inv_SC h) (Inv_se h)
  have he := eR_V k2
  obtain ⟨hKM, hSM⟩ := cp_KM h hM (eR_58 he)
  obtain ⟨c1, c2, c3, c4, c5, c6, c7, c8, c9, c10, c11, c12, c13, c14, c15, c16, c17, c18, c19, c20⟩ := Inv_cp f h (eR_6 he)
  obtain ⟨I2, m1, m2⟩ := s_194 d w I1 J f x y (by omega) hKM hSM
  simp only [c1, c18, c15, c2, c7] at m1
  exact Stp_ro h hM k1 he k3 m1 (eQ_W m2)
theorem q_111 (L : Nat) (B : Nat → Int) (t d : Nat) (w : Nat × Bool) (I J : Nat → Nat → Int)  (hd : 1000 ≤ d) (h : Inv L B t w I J) : StpI L B t w I J d 111 195 [] := by
  obtain ⟨f, hK, hM, _⟩ := h.2.2.2.2.2.2.2.2
  obtain ⟨I1, k1, k2, k3⟩ := s_111 d w I J f (by omega) hK (Inv_SC h) (Inv_se h)
  have he := eR_V k2
  obtain ⟨hKM, hSM⟩ := cp_KM h hM (eR_58 he)
  obtain ⟨c1, c2, c3, c4, c5, c6, c7, c8, c9, c10, c11, c12, c13, c14, c15, c16, c17, c18, c19, c20⟩ := Inv_cp f h (eR_6 he)
  obtain ⟨I2, m1, m2⟩ := s_195 d w I1 J f (by omega) hKM hSM
  simp only [c1, c18, c15, c2, c7] at m1
  exact Stp_ro h hM k1 he k3 m1 (eQ_W m2)
theorem q_112 (L : Nat) (B : Nat → Int) (t d : Nat) (w : Nat × Bool) (I J : Nat → Nat → Int) (x : Int)  (hd : 1000 ≤ d) (h : Inv L B t w I J) : StpI L B t w I J d 112 199 [vi x] := by
  obtain ⟨f, hK, hM, _⟩ := h.2.2.2.2.2.2.2.2
  obtain ⟨I1, k1, k2, k3⟩ := s_112 d w I J f x (by omega) hK (Inv_SC h)
  have he := eR_T k2
  obtain ⟨hKM, hSM⟩ := cp_KM h hM (eR_58 he)
  obtain ⟨c1, c2, c3, c4, c5, c6, c7, c8, c9, c10, c11, c12, c13, c14, c15, c16, c17, c18, c19, c20⟩ := Inv_cp f h (eR_6 he)
  obtain ⟨I2, m1, m2⟩ := s_199 d w I1 J f x (by omega) hKM hSM
  unfold NM at m1
  simp only [c1, c8, c18, c15, c4, c3, c2] at m1
  exact Stp_ro h hM k1 he k3 m1 (eQ_N m2)
theorem q_113 (L : Nat) (B : Nat → Int) (t d : Nat) (w : Nat × Bool) (I J : Nat → Nat → Int) (x : Int)  (hd : 1000 ≤ d) (h : Inv L B t w I J) : StpI L B t w I J d 113 201 [vi x] := by
  obtain ⟨f, hK, hM, _⟩ := h.2.2.2.2.2.2.2.2
  obtain ⟨I1, k1, k2, k3⟩ := s_113 d w I J f x (by omega) hK (Inv_SC h) (Inv_se h)
  have he := eR_S k2
  obtain ⟨hKM, hSM⟩ := cp_KM h hM (eR_58 he)
  obtain ⟨c1, c2, c3, c4, c5, c6, c7, c8, c9, c10, c11, c12, c13, c14, c15, c16, c17, c18, c19, c20⟩ := Inv_cp f h (eR_6 he)
  obtain ⟨I2, m1, m2⟩ := s_201 d w I1 J f x (by omega) hKM hSM
  unfold NM at m1
  simp only [c1, c18, c15, c4, c3, c2, c7] at m1
  exact Stp_ro h hM k1 he k3 m1 (eQ_N m2)
theorem q_114 (L : Nat) (B : Nat → Int) (t d : Nat) (w : Nat × Bool) (I J : Nat → Nat → Int) (s x y : Int)  (hd : 1000 ≤ d) (h : Inv L B t w I J) : StpI L B t w I J d 114 203 [vi s, vi x, vi y] := by
  obtain ⟨f, hK, hM, _⟩ := h.2.2.2.2.2.2.2.2
  obtain ⟨I1, k1, k2, k3⟩ := s_114 d w I J f s x y (by omega) hK (Inv_SC h) (Inv_se h)
  have he := eR_Y k2
  obtain ⟨hKM, hSM⟩ := cp_KM h hM (eR_58 he)
  obtain ⟨c1, c2, c3, c4, c5, c6, c7, c8, c9, c10, c11, c12, c13, c14, c15, c16, c17, c18, c19, c20⟩ := Inv_cp f h (eR_6 he)
  obtain ⟨I2, m1, m2⟩ := s_203 d w I1 J f s x y (by omega) hKM hSM (by rw [c17]; have := h.2.2.2.1.2.2.1; omega)
  unfold TM BM at m1
  simp only [c1, c17, c18, c15, c4, c2, c7, c6] at m1
  exact Stp_ro h hM k1 he k3 m1 (eQ_B m2)
theorem q_115 (L : Nat) (B : Nat → Int) (t d : Nat) (w : Nat × Bool) (I J : Nat → Nat → Int) (s x y : Int)  (hd : 1000 ≤ d) (h : Inv L B t w I J) : StpI L B t w I J d 115 204 [vi s, vi x, vi y] := by
  obtain ⟨f, hK, hM, _⟩ := h.2.2.2.2.2.2.2.2
  obtain ⟨I1, k1, k2, k3⟩ := s_115 d w I J f s x y (by omega) hK (Inv_SC h) (Inv_se h)
  have he := eR_Y k2
  obtain ⟨hKM, hSM⟩ := cp_KM h hM (eR_58 he)
  obtain ⟨c1, c2, c3, c4, c5, c6, c7, c8, c9, c10, c11, c12, c13, c14, c15, c16, c17, c18, c19, c20⟩ := Inv_cp f h (eR_6 he)
  obtain ⟨I2, m1, m2⟩ := s_204 d w I1 J f s x y (by omega) hKM hSM
  unfold TM at m1
  simp only [c1, c18, c15, c4, c2, c7, c6] at m1
  exact Stp_ro h hM k1 he k3 m1 (eQ_B m2)
theorem q_116 (L : Nat) (B : Nat → Int) (t d : Nat) (w : Nat × Bool) (I J : Nat → Nat → Int) (x : Int)  (hd : 1000 ≤ d) (h : Inv L B t w I J) : StpI L B t w I J d 116 206 [vi x] := by
  obtain ⟨f, hK, hM, _⟩ := h.2.2.2.2.2.2.2.2
  obtain ⟨I1, k1, k2, k3⟩ := s_116 d w I J f x (by omega) hK (Inv_SC h) (Inv_se h)
  have he := eR_D k2
  obtain ⟨hKM, hSM⟩ := cp_KM h hM (eR_58 he)
  obtain ⟨c1, c2, c3, c4, c5, c6, c7, c8, c9, c10, c11, c12, c13, c14, c15, c16, c17, c18, c19, c20⟩ := Inv_cp f h (eR_6 he)
  obtain ⟨I2, m1, m2⟩ := s_206 d w I1 J f x (by omega) hKM hSM
  unfold VM at m1
  simp only [c1, c8, c18, c15, c4, c3, c2, c7] at m1
  exact Stp_ro h hM k1 he k3 m1 (eQ_N m2)
theorem q_101 (L : Nat) (B : Nat → Int) (t d : Nat) (w : Nat × Bool) (I J : Nat → Nat → Int) (a b : Int) (hd : 1000 ≤ d) (h : Inv L B t w I J) : StpI L B t w I J d 101 156 [vi a, vi b] := by
  obtain ⟨f, hK, hM, _⟩ := h.2.2.2.2.2.2.2.2
  obtain ⟨c1, c2, c3, c4, c5, c6, c7, c8, c9, c10, c11, c12, c13, c14, c15, c16, c17, c18, c19, c20⟩ := Inv_cp f h (fun c _ _ => rfl)
  obtain ⟨_, ⟨g1, g2, g3, g4, g5, g6, g7, g8, g9, _⟩, ⟨t1, t2, t3, t4, t5, t6, _⟩, _⟩ := id h
  have k1 := s_101 d w I J a b (by omega) t1 g3 g4 g5 g6 g7 g8
  have m1 := s_156 d w I J a b (by omega) (by rw [c1]; exact t1) (by rw [c8]; exact g3) (by rw [c9]; exact g4) (by rw [c10]; exact g5) (by rw [c11]; exact g6) (by rw [c12]; exact g7) (by rw [c13]; exact g8)
  rw [c1, c8, c9, c2, c3, c4, c5, c6, c7, c10, c11, c12, c13, c14] at m1
  exact Stp_id h k1 m1
theorem q_104 (L : Nat) (B : Nat → Int) (t d : Nat) (w : Nat × Bool) (I J : Nat → Nat → Int) (x y : Int) (hx : iR x) (hd : 1000 ≤ d) (h : Inv L B t w I J) : StpI L B t w I J d 104 179 [vi x, vi y] := by
  obtain ⟨f, hK, hM, _⟩ := h.2.2.2.2.2.2.2.2
  obtain ⟨c1, c2, c3, c4, c5, c6, c7, c8, c9, c10, c11, c12, c13, c14, c15, c16, c17, c18, c19, c20⟩ := Inv_cp f h (fun c _ _ => rfl)
  obtain ⟨_, ⟨g1, g2, g3, g4, g5, g6, g7, g8, g9, _⟩, _⟩ := id h
  have k1 := s_104 d w I J x y (by omega) hx g3 g4 g5 g6 (pos9 g9)
  have m1 := s_179 d w I J x y (by omega) hx (by rw [c8]; exact g3) (by rw [c9]; exact g4) (by rw [c10]; exact g5) (by rw [c11]; exact g6) (by rw [c14]; exact pos9 g9)
  rw [c8, c9, c10, c11, c12, c13, c14] at m1
  exact Stp_id h k1 m1
theorem q_117 (L : Nat) (B : Nat → Int) (t d : Nat) (w : Nat × Bool) (I J : Nat → Nat → Int) (x : Int) (hd : 1000 ≤ d) (h : Inv L B t w I J) : StpI L B t w I J d 117 207 [vi x] := by
  obtain ⟨f, hK, hM, _⟩ := h.2.2.2.2.2.2.2.2
  obtain ⟨c1, c2, c3, c4, c5, c6, c7, c8, c9, c10, c11, c12, c13, c14, c15, c16, c17, c18, c19, c20⟩ := Inv_cp f h (fun c _ _ => rfl)
  obtain ⟨_, _, ⟨t1, t2, t3, t4, t5, t6, _⟩, _⟩ := id h
  have k1 := s_117 d w I J x (by omega) t1 t4
  have m1 := s_207 d w I J x (by omega) (by rw [c1]; exact t1) (by rw [c5]; exact t4)
  rw [c1, c5] at m1
  exact Stp_id h k1 m1
theorem q_118 (L : Nat) (B : Nat → Int) (t d : Nat) (w : Nat × Bool) (I J : Nat → Nat → Int) (a x y : Int) (hx : iR x) (hd : 1000 ≤ d) (h : Inv L B t w I J) : StpI L B t w I J d 118 208 [vi a, vi x, vi y] := by
  obtain ⟨f, hK, hM, _⟩ := h.2.2.2.2.2.2.2.2
  obtain ⟨_, ⟨g1, g2, g3, g4, g5, g6, g7, g8, g9, _⟩, ⟨t1, t2, t3, t4, t5, t6, _⟩, _⟩ := id h
  obtain ⟨r, k1⟩ := s_118 d w I J a x y (by omega) hx t1 t5 g5 g6
  have he : eR I (sr I 36 r) := ⟨fun c _ _ _ _ a5 _ => sr_ne _ _ a5, by rw [sr_ne _ _ (by omega)]⟩
  obtain ⟨c1, c2, c3, c4, c5, c6, c7, c8, c9, c10, c11, c12, c13, c14, c15, c16, c17, c18, c19, c20⟩ := Inv_cp f h (eR_6 he)
  obtain ⟨r', m1⟩ := s_208 d w (sr I 36 r) J a x y (by omega) hx (by rw [c1]; exact t1) (by rw [c1, c7]; exact t5) (by rw [c10]; exact g5) (by rw [c11]; exact g6)
  rw [c1, c7, c10, c11] at m1
  refine Stp_ro h hM k1 he (KC_x hK ?_ ?_ ?_ ?_ ?_ ?_ ?_ ?_ ?_ ?_ ?_) m1 (fun c a => sr_ne _ _ (by omega))
  all_goals exact sr_ne _ _ (by omega)
theorem q_123 (L : Nat) (B : Nat → Int) (t d : Nat) (w : Nat × Bool) (I J : Nat → Nat → Int) (x : Int) (hd : 1000 ≤ d) (h : Inv L B t w I J) : StpI L B t w I J d 123 211 [vi x] := by
  obtain ⟨_, _, _, _, _, _, ⟨a1, a2, a3, a4, a5, a6, a7, a8⟩, _⟩ := id h
  have k1 := s_123 d w I J x (by omega)
  have m1 := s_211 d w I J x (by omega)
  rw [a6, a8] at m1
  exact Stp_id h k1 m1
theorem q_130 (L : Nat) (B : Nat → Int) (t d : Nat) (w : Nat × Bool) (I J : Nat → Nat → Int) (x : Int) (hd : 1000 ≤ d) (h : Inv L B t w I J) : StpI L B t w I J d 130 226 [vi x] := by
  obtain ⟨f, hK, hM, _⟩ := h.2.2.2.2.2.2.2.2
  obtain ⟨c1, c2, c3, c4, c5, c6, c7, c8, c9, c10, c11, c12, c13, c14, c15, c16, c17, c18, c19, c20⟩ := Inv_cp f h (fun c _ _ => rfl)
  obtain ⟨_, _, _, _, ⟨_, p2, _⟩, ⟨_, o2, _⟩, ⟨a1, a2, a3, a4, a5, a6, a7, a8⟩, _⟩ := id h
  have k1 := s_130 d w I J x (by omega)
  have m1 := s_226 d w I J x (by omega)
  rw [c8, c9, c1, p2, o2, a5, a6] at m1
  exact Stp_id h k1 m1
