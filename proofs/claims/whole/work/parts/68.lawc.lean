/-! the law's reader of the class -/
theorem ishr8 (a : Nat) (h : a < 2147483648) : ishr a 8 = ((a / 256 : Nat) : Int) := by
  unfold ishr
  show ((oi a).toBitVec.sshiftRight' ((oi 8 &&& 31).toBitVec.smod 32)).toInt = _
  have e : (oi 8 &&& 31).toBitVec.smod 32 = 8#32 := by decide
  rw [e, BitVec.sshiftRight_eq', BitVec.toInt_sshiftRight]
  show ((oi a).toInt) >>> 8 = _
  rw [oi_nt a h, Int.shiftRight_eq_div_pow]
  rfl
theorem iand255 (a : Nat) (h : a < 2147483648) : iand a 255 = ((a % 256 : Nat) : Int) := by
  unfold iand
  refine bv_int _ _ ?_ (by omega)
  show ((oi a).toBitVec &&& (oi 255).toBitVec).toNat = _
  rw [BitVec.toNat_and, oi_tn a h]
  have e : (oi 255).toBitVec.toNat = 2 ^ 8 - 1 := by decide
  rw [e, Nat.and_two_pow_sub_one_eq_mod]
theorem iand3 : ∀ a, a < 4 → iand (a : Nat) 3 = ((a : Nat) : Int) := by decide
theorem ior8 (s v : Nat) (h : s < 1000000) (hv : v < 256) : ior v (ishl s 8) = ((256 * s + v : Nat) : Int) := by
  have h1 : ishl s 8 = ((256 * s : Nat) : Int) := by
    unfold ishl
    refine bv_int _ _ ?_ (by omega)
    show ((oi s).toBitVec <<< ((oi 8 &&& 31).toBitVec.smod 32)).toNat = _
    have e : (oi 8 &&& 31).toBitVec.smod 32 = 8#32 := by decide
    rw [e, BitVec.shiftLeft_eq', BitVec.toNat_shiftLeft, oi_tn s (by omega)]
    rw [show (8#32).toNat = 8 from rfl, Nat.shiftLeft_eq]
    omega
  rw [h1]
  unfold ior
  refine bv_int _ _ ?_ (by omega)
  show ((oi v).toBitVec ||| (oi (256 * s : Nat)).toBitVec).toNat = _
  rw [BitVec.toNat_or, oi_tn _ (by omega), oi_tn _ (by omega)]
  rw [show 256 * s = s <<< 8 by rw [Nat.shiftLeft_eq]; omega, Nat.or_comm]
  rw [← Nat.shiftLeft_add_eq_or_of_lt (by omega)]
def enc (c : Int × Int) : Int := if c.1 = 1 then 256 * c.2 + 1 else if c.1 = 2 then 256 * c.2 + 2 else if c.1 = 3 then 33 else if c.1 = 4 then 3 else c.1
def seg (row : Nat → Int) (n : Nat) : List (Int × Int) → Prop
  | [] => True
  | c :: cs => row n = enc c ∧ seg row (n + 1) cs
theorem seg_a (row : Nat → Int) : ∀ c1 c2 n, seg row n (c1 ++ c2) ↔ seg row n c1 ∧ seg row (n + c1.length) c2
  | [], c2, n => by simp [seg]
  | c :: cs, c2, n => by
    show row n = enc c ∧ seg row (n + 1) (cs ++ c2) ↔ (row n = enc c ∧ seg row (n + 1) cs) ∧ seg row (n + (cs.length + 1)) c2
    rw [seg_a row cs c2 (n + 1), show n + 1 + cs.length = n + (cs.length + 1) by omega, and_assoc]
theorem seg_x {row row' : Nat → Int} : ∀ c n, (∀ i, n ≤ i → i < n + c.length → row' i = row i) → seg row n c → seg row' n c
  | [], _, _, _ => trivial
  | c :: cs, n, h, hs => ⟨(h n (Nat.le_refl _) (by show n < n + (cs.length + 1); omega)).trans hs.1, seg_x cs (n + 1) (fun i h1 h2 => h i (by omega) (by show i < n + (cs.length + 1); omega)) hs.2⟩
theorem wdr_or (w : Nat × Bool) : wdr w = 19 ∨ wdr w = 20 := by
  unfold wdr
  split
  · exact Or.inl rfl
  · exact Or.inr rfl
theorem wdr_T (w : Nat × Bool) (I J : Nat → Nat → Int) : mtg (mk w I J) (wdr w) = (20, 121) := by
  obtain ⟨L, b⟩ := w
  cases b <;> rfl
theorem wst_T (w : Nat × Bool) (I J : Nat → Nat → Int) : mtg (mk w I J) (wst w) = (20, 121) := by
  obtain ⟨L, b⟩ := w
  cases b <;> rfl
/-- the class while it reads: at p, n told -/
def CL (w : Nat × Bool) (I : Nat → Nat → Int) (len : Nat) (b : Nat → Nat → Int) (p n : Nat) : Prop := (∀ c, c ≠ 17 → c ≠ wdr w → b c = I c) ∧ (∀ k, k ≠ 2 → k ≠ 6 → b 17 k = I 17 k) ∧ b 17 2 = (p : Int) ∧ b 17 6 = (n : Int) ∧ n ≤ 121 ∧ p ≤ len
def TC0 (I : Nat → Nat → Int) (tp : Nat → Int) (len : Nat) : Prop := I 17 1 = (len : Int) ∧ tpk tp len ∧ ∀ p, tp p = if p < len then I 18 p else -1
theorem s_37 (d : Nat) (w : Nat × Bool) (I J : Nat → Nat → Int) (b : Nat → Nat → Int) (tp : Nat → Int) (len p n : Nat) (hd : 1 ≤ d) (hT : TC0 I tp len) (hC : CL w I len b p n) : semC d 37 [vr 17] (mk w b J) = some (some (vi (tp p)), mk w b J) := by
  obtain ⟨e, rfl⟩ : ∃ e, d = e + 1 := ⟨d - 1, by omega⟩
  obtain ⟨h1, h2, h3, h4, h5, h6⟩ := hC
  obtain ⟨t1, t2, t3⟩ := hT
  have hl := t2.1
  have hw := wdr_or w
  rw [e_37, b_37_0, h3, h2 1 (by omega) (by omega), t1, t3 p]
  by_cases c : p < len
  · rw [if_pos (by omega), if_pos c, b_37_11, h3, if_pos (by omega), nat_i, h1 18 (by omega) (by omega), b_37_24]
  · rw [if_neg (by omega), if_neg c, b_37_23, b_37_24]
theorem s_38 (d : Nat) (w : Nat × Bool) (I J : Nat → Nat → Int) (b : Nat → Nat → Int) (len p n : Nat) (x : Int) (hd : 1 ≤ d) (hC : CL w I len b p n) :
    ∃ b', semC d 38 [vr 17, vi x] (mk w b J) = some (none, mk w b' J) ∧ CL w I len b' p (if n < 121 then n + 1 else n) ∧ (n < 121 → b' (wdr w) n = x) ∧ ∀ i, i ≠ n → b' (wdr w) i = b (wdr w) i := by
  obtain ⟨e, rfl⟩ : ∃ e, d = e + 1 := ⟨d - 1, by omega⟩
  obtain ⟨h1, h2, h3, h4, h5, h6⟩ := id hC
  have hw := wdr_or w
  rw [e_38, b_38_0, wdr_T, if_pos (by omega), h4]
  by_cases c : n < 121
  · rw [if_pos (show (n : Int) < ((121 : Nat) : Int) by omega), b_38_13, wdr_T, if_pos ⟨rfl, by omega⟩, h4, if_pos (show 0 ≤ (n : Int) ∧ (n : Int) < ((121 : Nat) : Int) by omega), nat_i, if_pos c]
    have e6 : up2 b (wdr w) n x 17 6 = (n : Int) := by rw [up2_ne _ _ _ (by omega), h4]
    rw [e6, wr_n1 (by omega)]
    refine ⟨_, rfl, ⟨?_, ?_, ?_, ?_, by omega, h6⟩, fun _ => ?_, ?_⟩
    · intro cc a1 a2
      rw [up2_ne _ _ _ a1, up2_ne _ _ _ a2, h1 cc a1 a2]
    · intro k a1 a2
      rw [up2_sne _ _ _ a2, up2_ne _ _ _ (by omega), h2 k a1 a2]
    · rw [up2_sne _ _ _ (by omega), up2_ne _ _ _ (by omega), h3]
    · rw [up2_s]
    · rw [up2_ne _ _ _ (by omega), up2_s]
    · intro i hi
      rw [up2_ne _ _ _ (by omega), up2_sne _ _ _ hi]
  · rw [if_neg (show ¬ (n : Int) < ((121 : Nat) : Int) by omega), b_38_12, if_neg c]
    exact ⟨b, rfl, hC, fun h => absurd h c, fun _ _ => rfl⟩
/-- one on -/
theorem CL_n {w : Nat × Bool} {I b : Nat → Nat → Int} {len p n : Nat} (hC : CL w I len b p n) (hp : p < len) (hl : len ≤ 120) : CL w I len (up2 b 17 2 (wr (b 17 2 + 1))) (p + 1) n ∧ up2 b 17 2 (wr (b 17 2 + 1)) (wdr w) = b (wdr w) := by
  obtain ⟨h1, h2, h3, h4, h5, h6⟩ := id hC
  have hw := wdr_or w
  refine ⟨⟨?_, ?_, ?_, ?_, h5, by omega⟩, up2_ne _ _ _ (by omega)⟩
  · intro cc a1 a2
    rw [up2_ne _ _ _ a1, h1 cc a1 a2]
  · intro k a1 a2
    rw [up2_sne _ _ _ a1, h2 k a1 a2]
  · rw [up2_s, h3, wr_n1 (by omega)]
  · rw [up2_sne _ _ _ (by omega), h4]
theorem s_45 (d : Nat) (w : Nat × Bool) (I J : Nat → Nat → Int) (c : Int) (hd : 1 ≤ d) : semC d 45 [vi c] (mk w I J) = some (some (vi (b2 (dig c))), mk w I J) := by
  obtain ⟨e, rfl⟩ : ∃ e, d = e + 1 := ⟨d - 1, by omega⟩
  rw [e_45, b_45_0]
  unfold dig
  by_cases c1 : c < 48
  · rw [if_pos c1, b_45_16, b_45_17, if_pos (by omega), decide_eq_false (by omega)]; rfl
  · rw [if_neg c1, b_45_6]
    by_cases c2 : (57 : Int) < c
    · rw [if_pos c2, b_45_16, b_45_17, if_pos (by omega), decide_eq_false (by omega)]; rfl
    · rw [if_neg c2, b_45_12, b_45_17, if_pos (by omega), decide_eq_true (by omega)]; rfl
theorem s_42 (d : Nat) (w : Nat × Bool) (I J : Nat → Nat → Int) (c : Int) (hd : 1 ≤ d) : semC d 42 [vi c] (mk w I J) = some (some (vi (lvl c)), mk w I J) := by
  obtain ⟨e, rfl⟩ : ∃ e, d = e + 1 := ⟨d - 1, by omega⟩
  rw [e_42]
  unfold lvl
  simp only [b_42_0, b_42_92, b_42_94, b_42_96, b_42_98, b_42_100, b_42_102]
  repeat' split
  all_goals first | rfl | (exfalso; omega)
theorem s_46 (d : Nat) (w : Nat × Bool) (I J : Nat → Nat → Int) (c : Int) (hd : 1 ≤ d) : semC d 46 [vi c] (mk w I J) = some (some (vi (nam c)), mk w I J) := by
  obtain ⟨e, rfl⟩ : ∃ e, d = e + 1 := ⟨d - 1, by omega⟩
  rw [e_46]
  unfold nam
  simp only [b_46_0, b_46_44, b_46_46, b_46_48, b_46_50, b_46_52]
  repeat' split
  all_goals first | rfl | (exfalso; omega)
/-- what comes of one reading -/
def OC (w : Nat × Bool) (I : Nat → Nat → Int) (tp : Nat → Int) (len : Nat) (b : Nat → Nat → Int) (n : Nat) (r : cRes) (o : Int) (b' : Nat → Nat → Int) : Prop :=
  ∃ n', CL w I len b' r.2.1 n' ∧ (∀ i, i < n → b' (wdr w) i = b (wdr w) i) ∧ n ≤ n' ∧ ((r.1 = true ∧ o = 1 ∧ n' = n + r.2.2.length ∧ seg (b' (wdr w)) n r.2.2) ∨ (r.1 = false ∧ (o = 0 ∨ (o = 1 ∧ dig (tp r.2.1) = true))))
theorem dig_in {tp : Nat → Int} {len q : Nat} (h : tpk tp len) (hd : dig (tp q) = true) : q < len := by
  by_cases c : q < len
  · exact c
  · rw [h.2.2 q (by omega)] at hd
    cases hd
theorem nmb_stop {tp : Nat → Int} {p : Nat} : ∀ m, (nmb tp p m).1 < m → dig (tp (p + (nmb tp p m).1)) = false
  | 0, h => by omega
  | m + 1, h => by
    rw [nmb_s] at h ⊢
    split at h
    · exact absurd h (by show ¬ m + 1 < m + 1; omega)
    · rename_i c
      rw [if_neg c]
      by_cases q : (nmb tp p m).1 = m
      · cases hd : dig (tp (p + m))
        · rw [q, hd]
        · exact absurd ⟨q, hd⟩ c
      · have hR : (nmb tp p m).1 ≤ m := by
          clear h c q
          induction m with
          | zero => exact Nat.le_refl _
          | succ k ih => rw [nmb_s]; split
                         · exact Nat.le_refl _
                         · omega
        exact nmb_stop m (by omega)
theorem nmb_le {tp : Nat → Int} {p : Nat} : ∀ m, (nmb tp p m).1 ≤ m
  | 0 => Nat.le_refl _
  | m + 1 => by
    have := nmb_le (tp := tp) (p := p) m
    rw [nmb_s]
    split
    · exact Nat.le_refl _
    · omega
/-- once a number has stopped, it has stopped -/
theorem nmb_st {tp : Nat → Int} {p m : Nat} (h : (nmb tp p m).1 < m) : ∀ j, nmb tp p (m + j) = nmb tp p m
  | 0 => rfl
  | j + 1 => by
    have ih := nmb_st h j
    show nmb tp p (m + j + 1) = _
    rw [nmb_s, ih, if_neg (by omega)]
theorem s_44 (d : Nat) (w : Nat × Bool) (I J : Nat → Nat → Int) (b : Nat → Nat → Int) (tp : Nat → Int) (len p n : Nat) (hd : 2 ≤ d) (hT : TC0 I tp len) (hC : CL w I len b p n) (hdg : dig (tp p) = true) (hnp : n ≤ p) (g dep : Nat) :
    ∃ o b', semC d 44 [vr 17] (mk w b J) = some (some (vi o), mk w b' J) ∧ OC w I tp len b n (pr tp (g + 1) 5 dep p) o b' := by
  obtain ⟨e, rfl⟩ : ∃ e, d = e + 1 := ⟨d - 1, by omega⟩
  have hl := hT.2.1.1
  rw [e_44, b_44_0]
  have hp := dig_in hT.2.1 hdg
  have key : ∃ b1, Sem e 44 4 [some (vr 17), some (vi 0), some (vi 0)] [] (mk w b J) = Sem e 44 48 [some (vr 17), some (vi (nmb tp p 4).2), some (vi ((nmb tp p 4).1 : Int))] [] (mk w b1 J) ∧ CL w I len b1 (p + (nmb tp p 4).1) n ∧ b1 (wdr w) = b (wdr w) := by
    refine lpQ (fun (m : Nat) (c : Nat → Nat → Int) => Sem e 44 4 [some (vr 17), some (vi (nmb tp p m).2), some (vi (m : Int))] [] (mk w c J)) (fun m c => (nmb tp p m).1 = m ∧ CL w I len c (p + m) n ∧ c (wdr w) = b (wdr w)) (fun o => ∃ b1, o = Sem e 44 48 [some (vr 17), some (vi (nmb tp p 4).2), some (vi ((nmb tp p 4).1 : Int))] [] (mk w b1 J) ∧ CL w I len b1 (p + (nmb tp p 4).1) n ∧ b1 (wdr w) = b (wdr w)) 4 ?_ ?_ b ⟨rfl, hC, rfl⟩
    · rintro m c hm ⟨q1, q2, q3⟩
      try dsimp only at q1 q2 q3 ⊢
      have h37 := s_37 e w I J c tp len (p + m) n (by omega) hT q2
      rw [b_44_4, if_pos (by omega), b_44_9, semK_of h37]
      simp only [mpush]
      rw [b_44_13, semK_of (s_45 _ _ _ _ _ (by omega))]
      simp only [mpush]
      rw [b_44_16]
      cases cd : dig (tp (p + m))
      · right
        have h4 : nmb tp p 4 = nmb tp p m := by
          have hs : nmb tp p (m + 1) = nmb tp p m := by rw [nmb_s, if_neg (by rw [cd]; simp)]
          have hlt : (nmb tp p (m + 1)).1 < m + 1 := by rw [hs]; omega
          have := nmb_st hlt (4 - (m + 1))
          rw [show m + 1 + (4 - (m + 1)) = 4 by omega] at this
          rw [this, hs]
        rw [b2_f, if_pos rfl, h4, q1]
        exact ⟨c, rfl, q2, q3⟩
      · left
        have hpm := dig_in hT.2.1 cd
        have hv := nmb_v (tp := tp) p m
        have hvb : (nmb tp p m).2 < 1000 := by
          have e3 : (10 : Int) ^ m ≤ 10 ^ 3 := by
            rcases (show m = 0 ∨ m = 1 ∨ m = 2 ∨ m = 3 by omega) with h | h | h | h <;> subst h <;> decide
          have e4 : (10 : Int) ^ 3 = 1000 := by decide
          omega
        have hc := (hT.2.1.2.1 (p + m) hpm)
        have hnx : nmb tp p (m + 1) = (m + 1, 10 * (nmb tp p m).2 + tp (p + m) - 48) := by rw [nmb_s, if_pos ⟨q1, cd⟩]
        rw [b2_t, if_neg (by omega), b_44_19, semK_of h37]
        simp only [mpush]
        rw [b_44_27, wr_n1 (by omega), wr_if (a := 10 * _) (by omega), wr_if (a := _ + tp (p + m)) (by omega), wr_if (a := _ - 48) (by omega)]
        obtain ⟨c1, c2⟩ := CL_n q2 hpm hl
        refine ⟨_, ?_, ?_, c1, c2.trans q3⟩
        · rw [hnx]
        · rw [hnx]
    · rintro c ⟨q1, q2, q3⟩
      try dsimp only at q1 q2 q3 ⊢
      rw [b_44_4, if_neg (by omega)]
      exact ⟨c, by rw [q1], by rw [q1]; exact q2, q3⟩
  obtain ⟨b1, k1, k2, k3⟩ := key
  have hv := nmb_v (tp := tp) p 4
  have hv4 : (nmb tp p 4).2 < 10000 := hv.2
  obtain ⟨z, hz⟩ : ∃ z : Nat, (nmb tp p 4).2 = z := ⟨(nmb tp p 4).2.toNat, by omega⟩
  have hle := nmb_le (tp := tp) (p := p) 4
  have h1 : 1 ≤ (nmb tp p 4).1 := nmb_1 hdg 3
  have hn120 : n < 121 := by omega
  obtain ⟨b2', m1, m2, m3, m4⟩ := s_38 e w I J b1 len (p + (nmb tp p 4).1) n (((256 * z + 1 : Nat)) : Int) (by omega) k2
  rw [if_pos hn120] at m2
  rw [k1, b_44_48, hz, show ior 1 (ishl (z : Int) 8) = ((256 * z + 1 : Nat) : Int) from ior8 z 1 (by omega) (by omega), semK_of m1]
  simp only [mpush]
  rw [b_44_58]
  refine ⟨1, b2', rfl, n + 1, ?_, ?_, by omega, ?_⟩
  · rw [pr_5, if_pos hdg]
    split
    · exact m2
    · exact m2
  · intro i hi
    rw [m4 i (by omega), k3]
  · rw [pr_5, if_pos hdg]
    by_cases cd : dig (tp (p + (nmb tp p 4).1)) = true
    · rw [if_pos cd]
      exact Or.inr ⟨rfl, Or.inr ⟨rfl, cd⟩⟩
    · rw [if_neg cd]
      refine Or.inl ⟨rfl, rfl, rfl, ?_, trivial⟩
      rw [m3 hn120]
      show _ = enc (1, (nmb tp p 4).2)
      unfold enc
      rw [if_pos rfl, hz]
      show ((256 * z + 1 : Nat) : Int) = 256 * (z : Int) + 1
      omega
