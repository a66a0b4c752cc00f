/-! LAYER 2: pure facts -/
theorem wr_if {a : Int} (h : -2147483648 ≤ a ∧ a < 2147483648) : wr a = a := wr_of h
def rs (f : Nat → Int) (k : Nat) (v : Int) : Nat → Int := fun j => if j = k then v else f j
theorem up2_row (I : Nat → Nat → Int) (c k : Nat) (v : Int) (c' : Nat) : up2 I c k v c' = if c' = c then rs (I c) k v else I c' := by
  funext j
  unfold up2 rs
  by_cases h : c' = c
  · subst h; simp
  · simp [h]
theorem up2_ne (I : Nat → Nat → Int) {c : Nat} (k : Nat) (v : Int) {c' : Nat} (h : c' ≠ c) : up2 I c k v c' = I c' := by rw [up2_row, if_neg h]
theorem up2_sne (I : Nat → Nat → Int) (c : Nat) {k : Nat} (v : Int) {k' : Nat} (h : k' ≠ k) : up2 I c k v c k' = I c k' := by rw [up2_row, if_pos rfl, rs, if_neg h]
theorem up2_s (I : Nat → Nat → Int) (c k : Nat) (v : Int) : up2 I c k v c k = v := by rw [up2_row, if_pos rfl, rs, if_pos rfl]
def cr (f g : Nat → Int) (sp dp n : Nat) : Nat → Int := fun k => if dp ≤ k ∧ k < dp + n then f (sp + (k - dp)) else g k
theorem cpy_row (I : Nat → Nat → Int) (c0 c1 sp dp n c' : Nat) : cpy I c0 c1 sp dp n c' = if c' = c1 then cr (I c0) (I c1) sp dp n else I c' := by
  funext j
  unfold cpy cr
  by_cases h : c' = c1
  · subst h; simp
  · simp [h]
theorem rs_same (f : Nat → Int) (k : Nat) (v : Int) : rs f k v k = v := by simp [rs]
theorem rs_ne (f : Nat → Int) {k j : Nat} (v : Int) (h : j ≠ k) : rs f k v j = f j := by simp [rs, h]
theorem rs_at (f : Nat → Int) (k : Nat) (v : Int) (j : Nat) : rs f k v j = if j = k then v else f j := rfl
theorem semK_of {d y y' pc : Nat} {as st : List mVal} {L : mLoc} {σ σ' : mSg} {r : Option mVal} (h : semC d y' as σ = some (r, σ')) : semK d y y' as pc L st σ = Sem d y pc L (mpush r st) σ' := by
  unfold semK; rw [h]; rfl
/-- a loop that goes through -/
def itr {α : Type} (step : Nat → α → α) : Nat → α → α
  | 0, a => a
  | n + 1, a => step n (itr step n a)
theorem loop {α β : Type} (S : Nat → α → β) (step : Nat → α → α) (P : Nat → α → Prop) (n : Nat) (a : α) (h0 : P 0 a) (h : ∀ u b, u < n → P u b → S u b = S (u + 1) (step u b) ∧ P (u + 1) (step u b)) : S 0 a = S n (itr step n a) ∧ P n (itr step n a) := by
  induction n with
  | zero => exact ⟨rfl, h0⟩
  | succ n ih =>
    obtain ⟨h1, h2⟩ := ih (fun u b hu => h u b (by omega))
    obtain ⟨h3, h4⟩ := h n _ (by omega) h2
    exact ⟨h1.trans h3, h4⟩
/-- a loop that may be left: the first place where it is -/
def fnd (p : Nat → Bool) : Nat → Option Nat
  | 0 => none
  | n + 1 => match fnd p n with
    | some k => some k
    | none => if p n then some n else none
theorem fnd_some {p : Nat → Bool} : ∀ {n k : Nat}, fnd p n = some k → k < n ∧ p k = true ∧ ∀ j, j < k → p j = false
  | 0, _, h => by cases h
  | n + 1, k, h => by
    unfold fnd at h
    cases hf : fnd p n with
    | some j =>
      rw [hf] at h
      cases h
      obtain ⟨a, b, c⟩ := fnd_some hf
      exact ⟨by omega, b, c⟩
    | none =>
      rw [hf] at h
      dsimp only at h
      split at h
      · cases h
        rename_i hp
        exact ⟨by omega, hp, fun j hj => fnd_none hf j hj⟩
      · cases h
where fnd_none {p : Nat → Bool} : ∀ {n : Nat}, fnd p n = none → ∀ j, j < n → p j = false
  | 0, _, _, h => absurd h (by omega)
  | n + 1, h, j, hj => by
    unfold fnd at h
    cases hf : fnd p n with
    | some k => rw [hf] at h; cases h
    | none =>
      rw [hf] at h
      dsimp only at h
      split at h
      · cases h
      · rename_i hp
        by_cases e : j = n
        · subst e; simpa using hp
        · exact fnd_none hf j (by omega)
theorem loopx {β : Type} (S : Nat → β) (R : Nat → β) (p : Nat → Bool) (n : Nat) (h : ∀ u, u < n → S u = if p u = true then R u else S (u + 1)) : S 0 = match fnd p n with
    | some k => R k
    | none => S n := by
  induction n with
  | zero => rfl
  | succ n ih =>
    have h1 := ih (fun u hu => h u (by omega))
    unfold fnd
    cases hf : fnd p n with
    | some k => rw [hf] at h1; exact h1
    | none =>
      rw [hf] at h1
      dsimp only at h1 ⊢
      rw [h1, h n (by omega)]
      by_cases e : p n = true
      · rw [if_pos e, if_pos e]
      · rw [if_neg e, if_neg e]
theorem nat_i {n : Nat} : ((n : Int)).toNat = n := Int.toNat_natCast n
theorem wr_n1 {n : Nat} (h : n < 1000000) : wr ((n : Int) + 1) = ((n + 1 : Nat) : Int) := by rw [wr_of ⟨by omega, by omega⟩]; rfl
/-- small methods -/
theorem s_133 (d : Nat) (w : Nat × Bool) (I J : Nat → Nat → Int) (v a b : Int) (hd : 1 ≤ d) : semC d 133 [vi v, vi a, vi b] (mk w I J) = some (some (vi (if a ≤ v ∧ v ≤ b then 1 else 0)), mk w I J) := by
  obtain ⟨e, rfl⟩ : ∃ e, d = e + 1 := ⟨d - 1, by omega⟩
  rw [e_133]
  simp only [b_133_0, b_133_5, b_133_10, b_133_14, b_133_15]
  repeat' split
  all_goals first | rfl | (exfalso; omega) | (simp_all; done)
theorem s_135 (d : Nat) (w : Nat × Bool) (I J : Nat → Nat → Int) (v a b : Int) (hd : 1 ≤ d) : semC d 135 [vi v, vi a, vi b] (mk w I J) = some (some (vi (if a ≤ v ∧ v ≤ b then 1 else 0)), mk w I J) := by
  obtain ⟨e, rfl⟩ : ∃ e, d = e + 1 := ⟨d - 1, by omega⟩
  rw [e_135]
  simp only [b_135_0, b_135_5, b_135_10, b_135_14, b_135_15]
  repeat' split
  all_goals first | rfl | (exfalso; omega) | (simp_all; done)
theorem s_136 (d : Nat) (w : Nat × Bool) (I J : Nat → Nat → Int) (v : Int) (hd : 1 ≤ d) : semC d 136 [vi v] (mk w I J) = some (some (vi (if 0 ≤ v then v else wr (0 - v))), mk w I J) := by
  obtain ⟨e, rfl⟩ : ∃ e, d = e + 1 := ⟨d - 1, by omega⟩
  rw [e_136]
  simp only [b_136_0, b_136_4, b_136_9, b_136_10]
  repeat' split
  all_goals first | rfl | omega | (simp only [Int.zero_sub]; rfl) | (simp only [Int.zero_sub])
theorem s_137 (d : Nat) (w : Nat × Bool) (I J : Nat → Nat → Int) (v a b : Int) (hd : 1 ≤ d) : semC d 137 [vi v, vi a, vi b] (mk w I J) = some (some (vi (if v < a then a else if b < v then b else v)), mk w I J) := by
  obtain ⟨e, rfl⟩ : ∃ e, d = e + 1 := ⟨d - 1, by omega⟩
  rw [e_137]
  simp only [b_137_0, b_137_5, b_137_9, b_137_14, b_137_18, b_137_19]
  repeat' split
  all_goals first | rfl | (exfalso; omega) | (simp_all; done)
theorem s_21 (d : Nat) (w : Nat × Bool) (I J : Nat → Nat → Int) (v : Int) (hd : 1 ≤ d) : semC d 21 [vr 4, vi v] (mk w I J) = some (some (vi (if 0 ≤ v ∧ v < I 4 4 then 1 else 0)), mk w I J) := by
  obtain ⟨e, rfl⟩ : ∃ e, d = e + 1 := ⟨d - 1, by omega⟩
  rw [e_21]
  simp only [b_21_0, b_21_4, b_21_12, b_21_16, b_21_17]
  repeat' split
  all_goals first | rfl | (exfalso; omega) | (simp_all; done)
theorem s_22 (d : Nat) (w : Nat × Bool) (I J : Nat → Nat → Int) (v : Int) (hd : 1 ≤ d) : semC d 22 [vr 4, vi v] (mk w I J) = some (some (vi (if 0 ≤ v ∧ v < I 4 8 then 1 else 0)), mk w I J) := by
  obtain ⟨e, rfl⟩ : ∃ e, d = e + 1 := ⟨d - 1, by omega⟩
  rw [e_22]
  simp only [b_22_0, b_22_4, b_22_12, b_22_16, b_22_17]
  repeat' split
  all_goals first | rfl | (exfalso; omega) | (simp_all; done)
theorem s_80 (d : Nat) (w : Nat × Bool) (I J : Nat → Nat → Int) (v : Int) (hd : 1 ≤ d) : semC d 80 [vr 10, vi v] (mk w I J) = some (some (vi (if 0 ≤ v ∧ v < I 10 6 then 1 else 0)), mk w I J) := by
  obtain ⟨e, rfl⟩ : ∃ e, d = e + 1 := ⟨d - 1, by omega⟩
  rw [e_80]
  simp only [b_80_0, b_80_4, b_80_12, b_80_16, b_80_17]
  repeat' split
  all_goals first | rfl | (exfalso; omega) | (simp_all; done)
theorem s_1 (d : Nat) (w : Nat × Bool) (I J : Nat → Nat → Int) (v : Int) (hd : 1 ≤ d) : semC d 1 [vr 42, vi v] (mk w I J) = some (some (vi (if 0 ≤ v ∧ v < I 42 1 then 1 else 0)), mk w I J) := by
  obtain ⟨e, rfl⟩ : ∃ e, d = e + 1 := ⟨d - 1, by omega⟩
  rw [e_1]
  simp only [b_1_0, b_1_4, b_1_12, b_1_16, b_1_17]
  repeat' split
  all_goals first | rfl | (exfalso; omega) | (simp_all; done)
theorem s_131 (d : Nat) (w : Nat × Bool) (I J : Nat → Nat → Int) (v : Int) (hd : 1 ≤ d) : semC d 131 [vr 3, vi v] (mk w I J) = some (some (vi (if 0 ≤ v ∧ v < 6 then 1 else 0)), mk w I J) := by
  obtain ⟨e, rfl⟩ : ∃ e, d = e + 1 := ⟨d - 1, by omega⟩
  rw [e_131]
  simp only [b_131_0, b_131_4, b_131_13, b_131_17, b_131_18]
  repeat' split
  all_goals first | rfl | (exfalso; omega) | (simp_all; done)
theorem s_138 (d : Nat) (w : Nat × Bool) (I J : Nat → Nat → Int) (v : Int) (hd : 2 ≤ d) (h : 0 ≤ I 58 3 ∧ I 58 3 ≤ 10) : semC d 138 [vr 58, vi v] (mk w I J) = some (some (vi (if 0 ≤ v ∧ v < I 58 3 then 1 else 0)), mk w I J) := by
  obtain ⟨e, rfl⟩ : ∃ e, d = e + 1 := ⟨d - 1, by omega⟩
  rw [e_138]
  simp (disch := omega) only [b_138_0, b_138_11, semK_of (s_135 _ _ _ _ _ _ _ _), mpush, wr_if]
  repeat' split
  all_goals first | rfl | (exfalso; omega) | (simp_all; done)
theorem s_139 (d : Nat) (w : Nat × Bool) (I J : Nat → Nat → Int) (v : Int) (hd : 2 ≤ d) (h : 0 ≤ I 58 10 ∧ I 58 10 ≤ 10) : semC d 139 [vr 58, vi v] (mk w I J) = some (some (vi (if 0 ≤ v ∧ v < I 58 10 then 1 else 0)), mk w I J) := by
  obtain ⟨e, rfl⟩ : ∃ e, d = e + 1 := ⟨d - 1, by omega⟩
  rw [e_139]
  simp (disch := omega) only [b_139_0, b_139_11, semK_of (s_135 _ _ _ _ _ _ _ _), mpush, wr_if]
  repeat' split
  all_goals first | rfl | (exfalso; omega) | (simp_all; done)
theorem s_209 (d : Nat) (w : Nat × Bool) (I J : Nat → Nat → Int) (v : Int) (hd : 2 ≤ d) (h : 0 ≤ I 58 48 ∧ I 58 48 ≤ 50) : semC d 209 [vr 58, vi v] (mk w I J) = some (some (vi (if 0 ≤ v ∧ v < I 58 48 then 1 else 0)), mk w I J) := by
  obtain ⟨e, rfl⟩ : ∃ e, d = e + 1 := ⟨d - 1, by omega⟩
  rw [e_209]
  simp (disch := omega) only [b_209_0, b_209_11, semK_of (s_135 _ _ _ _ _ _ _ _), mpush, wr_if]
  repeat' split
  all_goals first | rfl | (exfalso; omega) | (simp_all; done)
theorem s_227 (d : Nat) (w : Nat × Bool) (I J : Nat → Nat → Int) (v : Int) (hd : 2 ≤ d) : semC d 227 [vi v] (mk w I J) = some (some (vi (if 0 ≤ v ∧ v < 6 then 1 else 0)), mk w I J) := by
  obtain ⟨e, rfl⟩ : ∃ e, d = e + 1 := ⟨d - 1, by omega⟩
  rw [e_227]
  simp (disch := omega) only [b_227_0, b_227_6, semK_of (s_135 _ _ _ _ _ _ _ _), mpush, wr_if]
  repeat' split
  all_goals first | rfl | (exfalso; omega) | (simp_all; done)
