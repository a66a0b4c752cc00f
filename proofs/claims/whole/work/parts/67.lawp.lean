/-! the law: what is read, and what it gives -/
def lvl (c : Int) : Nat := if c = 124 then 0 else if c = 38 then 1 else if c = 60 ∨ c = 61 ∨ c = 62 then 2 else if c = 43 ∨ c = 45 then 3 else if c = 42 ∨ c = 47 ∨ c = 37 then 4 else 5
def dig (c : Int) : Bool := decide (48 ≤ c ∧ c ≤ 57)
def nam (c : Int) : Int := if c = 118 then 0 else if c = 100 then 1 else if c = 107 then 2 else if c = 99 then 3 else -1
/-- how many digits stand at p, at most m, and their number -/
def nmb (tp : Nat → Int) (p : Nat) : Nat → Nat × Int
  | 0 => (0, 0)
  | m + 1 => if (nmb tp p m).1 = m ∧ dig (tp (p + m)) = true then (m + 1, 10 * (nmb tp p m).2 + tp (p + m) - 48) else nmb tp p m
theorem nmb_s (tp : Nat → Int) (p m : Nat) : nmb tp p (m + 1) = if (nmb tp p m).1 = m ∧ dig (tp (p + m)) = true then (m + 1, 10 * (nmb tp p m).2 + tp (p + m) - 48) else nmb tp p m := rfl
abbrev cRes := Bool × Nat × List (Int × Int)
/-- one that is read: kinds 0 .. 4 the levels, 5 what stands alone, 6 .. 10 the rest of a level -/
def pr (tp : Nat → Int) : Nat → Nat → Nat → Nat → cRes
  | 0, _, _, p => (false, p, [])
  | g + 1, k, dep, p =>
    if k < 5 then
      (if (pr tp g (k + 1) dep p).1 = true then ((pr tp g (k + 6) dep (pr tp g (k + 1) dep p).2.1).1, (pr tp g (k + 6) dep (pr tp g (k + 1) dep p).2.1).2.1, (pr tp g (k + 1) dep p).2.2 ++ (pr tp g (k + 6) dep (pr tp g (k + 1) dep p).2.1).2.2) else (false, (pr tp g (k + 1) dep p).2.1, []))
    else if k = 5 then
      (if dig (tp p) = true then (if dig (tp (p + (nmb tp p 4).1)) = true then (false, p + (nmb tp p 4).1, []) else (true, p + (nmb tp p 4).1, [(1, (nmb tp p 4).2)]))
      else if 0 ≤ nam (tp p) then (true, p + 1, [(2, nam (tp p))])
      else if tp p = 40 then (if dep < 6 then (if (pr tp g 0 (dep + 1) (p + 1)).1 = true then (if tp (pr tp g 0 (dep + 1) (p + 1)).2.1 = 41 then (true, (pr tp g 0 (dep + 1) (p + 1)).2.1 + 1, (pr tp g 0 (dep + 1) (p + 1)).2.2) else (false, (pr tp g 0 (dep + 1) (p + 1)).2.1, [])) else (false, (pr tp g 0 (dep + 1) (p + 1)).2.1, [])) else (false, p, []))
      else if tp p = 33 ∨ tp p = 45 then (if dep < 6 then (if (pr tp g 5 (dep + 1) (p + 1)).1 = true then (true, (pr tp g 5 (dep + 1) (p + 1)).2.1, (pr tp g 5 (dep + 1) (p + 1)).2.2 ++ [(if tp p = 33 then 3 else 4, 0)]) else (false, (pr tp g 5 (dep + 1) (p + 1)).2.1, [])) else (false, p, []))
      else (false, p, []))
    else
      (if lvl (tp p) + 6 = k then (if (pr tp g (lvl (tp p) + 1) dep (p + 1)).1 = true then (if k = 8 then (true, (pr tp g (lvl (tp p) + 1) dep (p + 1)).2.1, (pr tp g (lvl (tp p) + 1) dep (p + 1)).2.2 ++ [(tp p, 0)]) else ((pr tp g k dep (pr tp g (lvl (tp p) + 1) dep (p + 1)).2.1).1, (pr tp g k dep (pr tp g (lvl (tp p) + 1) dep (p + 1)).2.1).2.1, (pr tp g (lvl (tp p) + 1) dep (p + 1)).2.2 ++ [(tp p, 0)] ++ (pr tp g k dep (pr tp g (lvl (tp p) + 1) dep (p + 1)).2.1).2.2)) else (false, (pr tp g (lvl (tp p) + 1) dep (p + 1)).2.1, []))
      else (true, p, []))
theorem pr_e {tp : Nat → Int} {g k dep p : Nat} (hk : k < 5) : pr tp (g + 1) k dep p = if (pr tp g (k + 1) dep p).1 = true then ((pr tp g (k + 6) dep (pr tp g (k + 1) dep p).2.1).1, (pr tp g (k + 6) dep (pr tp g (k + 1) dep p).2.1).2.1, (pr tp g (k + 1) dep p).2.2 ++ (pr tp g (k + 6) dep (pr tp g (k + 1) dep p).2.1).2.2) else (false, (pr tp g (k + 1) dep p).2.1, []) := by
  show (if k < 5 then _ else _) = _
  rw [if_pos hk]
theorem pr_5 {tp : Nat → Int} {g dep p : Nat} : pr tp (g + 1) 5 dep p = if dig (tp p) = true then (if dig (tp (p + (nmb tp p 4).1)) = true then (false, p + (nmb tp p 4).1, []) else (true, p + (nmb tp p 4).1, [(1, (nmb tp p 4).2)]))
      else if 0 ≤ nam (tp p) then (true, p + 1, [(2, nam (tp p))])
      else if tp p = 40 then (if dep < 6 then (if (pr tp g 0 (dep + 1) (p + 1)).1 = true then (if tp (pr tp g 0 (dep + 1) (p + 1)).2.1 = 41 then (true, (pr tp g 0 (dep + 1) (p + 1)).2.1 + 1, (pr tp g 0 (dep + 1) (p + 1)).2.2) else (false, (pr tp g 0 (dep + 1) (p + 1)).2.1, [])) else (false, (pr tp g 0 (dep + 1) (p + 1)).2.1, [])) else (false, p, []))
      else if tp p = 33 ∨ tp p = 45 then (if dep < 6 then (if (pr tp g 5 (dep + 1) (p + 1)).1 = true then (true, (pr tp g 5 (dep + 1) (p + 1)).2.1, (pr tp g 5 (dep + 1) (p + 1)).2.2 ++ [(if tp p = 33 then 3 else 4, 0)]) else (false, (pr tp g 5 (dep + 1) (p + 1)).2.1, [])) else (false, p, []))
      else (false, p, []) := by
  show (if 5 < 5 then _ else if 5 = 5 then _ else _) = _
  rw [if_neg (by omega), if_pos rfl]
theorem pr_r {tp : Nat → Int} {g l dep p : Nat} : pr tp (g + 1) (l + 6) dep p = if lvl (tp p) = l then (if (pr tp g (l + 1) dep (p + 1)).1 = true then (if l = 2 then (true, (pr tp g (l + 1) dep (p + 1)).2.1, (pr tp g (l + 1) dep (p + 1)).2.2 ++ [(tp p, 0)]) else ((pr tp g (l + 6) dep (pr tp g (l + 1) dep (p + 1)).2.1).1, (pr tp g (l + 6) dep (pr tp g (l + 1) dep (p + 1)).2.1).2.1, (pr tp g (l + 1) dep (p + 1)).2.2 ++ [(tp p, 0)] ++ (pr tp g (l + 6) dep (pr tp g (l + 1) dep (p + 1)).2.1).2.2)) else (false, (pr tp g (l + 1) dep (p + 1)).2.1, []))
      else (true, p, []) := by
  show (if l + 6 < 5 then _ else if l + 6 = 5 then _ else _) = _
  rw [if_neg (by omega), if_neg (by omega)]
  by_cases c : lvl (tp p) = l
  · rw [if_pos (by omega), if_pos c, c]
    by_cases c2 : l = 2
    · rw [if_pos (show l + 6 = 8 by omega), if_pos c2]
    · rw [if_neg (show ¬ l + 6 = 8 by omega), if_neg c2]
  · rw [if_neg (by omega), if_neg c]
/-- a tape -/
def tpk (tp : Nat → Int) (len : Nat) : Prop := len ≤ 120 ∧ (∀ p, p < len → 0 ≤ tp p ∧ tp p ≤ 255) ∧ ∀ p, len ≤ p → tp p = -1
theorem nmb_R {tp : Nat → Int} {len p : Nat} (h : tpk tp len) : ∀ m, (nmb tp p m).1 ≤ m ∧ p + (nmb tp p m).1 ≤ (if (nmb tp p m).1 = 0 then p else len)
  | 0 => by simp [nmb]
  | m + 1 => by
    have ih := nmb_R (p := p) h m
    rw [nmb_s]
    split
    · rename_i c
      have h1 : p + m < len := by
        by_cases q : p + m < len
        · exact q
        · have h2 := h.2.2 (p + m) (by omega)
          have h3 := c.2
          unfold dig at h3
          have h3 := of_decide_eq_true h3
          omega
      show m + 1 ≤ m + 1 ∧ p + (m + 1) ≤ (if m + 1 = 0 then p else len)
      rw [if_neg (by omega)]
      omega
    · refine ⟨by omega, ih.2⟩
theorem nmb_1 {tp : Nat → Int} {p : Nat} (h : dig (tp p) = true) : ∀ m, 1 ≤ (nmb tp p (m + 1)).1
  | 0 => by
    rw [nmb_s, if_pos ⟨rfl, h⟩]
    exact Nat.le_refl _
  | m + 1 => by
    have ih := nmb_1 h m
    rw [nmb_s]
    split
    · show 1 ≤ m + 1 + 1
      omega
    · exact ih
theorem lvl_R (c : Int) : lvl c ≤ 5 ∧ (lvl c < 5 → 37 ≤ c ∧ c ≤ 124) := by
  unfold lvl
  repeat' split
  all_goals omega
/-- how far is read, and how much is told -/
theorem pr_R {tp : Nat → Int} {len : Nat} (h : tpk tp len) : ∀ g k dep p, k ≤ 10 → p ≤ len → p ≤ (pr tp g k dep p).2.1 ∧ (pr tp g k dep p).2.1 ≤ len ∧ p + (pr tp g k dep p).2.2.length ≤ (pr tp g k dep p).2.1 ∧ (k ≤ 5 → (pr tp g k dep p).1 = true → p < (pr tp g k dep p).2.1) := by
  intro g
  induction g with
  | zero => intro k dep p _ hp; exact ⟨Nat.le_refl _, hp, by show p + 0 ≤ p; omega, fun _ h => by cases h⟩
  | succ g ih =>
    intro k dep p hk10 hp
    have hin : ∀ q, tp q ≠ -1 → q < len := fun q hq => by
      by_cases c : q < len
      · exact c
      · exact absurd (h.2.2 q (by omega)) hq
    by_cases c1 : k < 5
    · rw [pr_e c1]
      have i1 := ih (k + 1) dep p (by omega) hp
      have i2 := ih (k + 6) dep (pr tp g (k + 1) dep p).2.1 (by omega) i1.2.1
      split
      · rename_i c2
        refine ⟨by show p ≤ (pr tp g (k + 6) dep _).2.1; omega, i2.2.1, ?_, fun _ _ => ?_⟩
        · show p + (_ ++ _ : List (Int × Int)).length ≤ (pr tp g (k + 6) dep _).2.1
          rw [List.length_append]
          omega
        · show p < (pr tp g (k + 6) dep _).2.1
          have := i1.2.2.2 (by omega) c2
          omega
      · exact ⟨i1.1, i1.2.1, by show p + 0 ≤ (pr tp g (k + 1) dep p).2.1; omega, fun _ h => by cases h⟩
    · by_cases c2 : k = 5
      · subst c2
        rw [pr_5]
        split
        · rename_i cd
          have n1 := nmb_R (p := p) h 4
          have n2 : 1 ≤ (nmb tp p 4).1 := nmb_1 cd 3
          rw [if_neg (by omega)] at n1
          split
          · exact ⟨by show p ≤ p + _; omega, n1.2, by show p + 0 ≤ p + _; omega, fun _ h => by cases h⟩
          · exact ⟨by show p ≤ p + _; omega, n1.2, by show p + 1 ≤ p + _; omega, fun _ _ => by show p < p + _; omega⟩
        · split
          · rename_i cn
            have hp1 : p < len := hin p (fun e => by rw [e] at cn; revert cn; decide)
            exact ⟨by show p ≤ p + 1; omega, by show p + 1 ≤ len; omega, by show p + 1 ≤ p + 1; omega, fun _ _ => by show p < p + 1; omega⟩
          · split
            · rename_i c40
              have hp1 : p < len := hin p (by omega)
              have i1 := ih 0 (dep + 1) (p + 1) (by omega) (by omega)
              split
              · split
                · split
                  · rename_i c41
                    have hp2 := hin (pr tp g 0 (dep + 1) (p + 1)).2.1 (by omega)
                    exact ⟨by show p ≤ (pr tp g 0 (dep + 1) (p + 1)).2.1 + 1; omega, hp2, by show p + (pr tp g 0 (dep + 1) (p + 1)).2.2.length ≤ (pr tp g 0 (dep + 1) (p + 1)).2.1 + 1; omega, fun _ _ => by show p < (pr tp g 0 (dep + 1) (p + 1)).2.1 + 1; omega⟩
                  · exact ⟨by show p ≤ (pr tp g 0 (dep + 1) (p + 1)).2.1; omega, i1.2.1, by show p + 0 ≤ (pr tp g 0 (dep + 1) (p + 1)).2.1; omega, fun _ h => by cases h⟩
                · exact ⟨by show p ≤ (pr tp g 0 (dep + 1) (p + 1)).2.1; omega, i1.2.1, by show p + 0 ≤ (pr tp g 0 (dep + 1) (p + 1)).2.1; omega, fun _ h => by cases h⟩
              · exact ⟨Nat.le_refl _, hp, by show p + 0 ≤ p; omega, fun _ h => by cases h⟩
            · split
              · rename_i cu
                have hp1 : p < len := hin p (by omega)
                have i1 := ih 5 (dep + 1) (p + 1) (by omega) (by omega)
                split
                · split
                  · refine ⟨by show p ≤ (pr tp g 5 (dep + 1) (p + 1)).2.1; omega, i1.2.1, ?_, fun _ _ => by show p < (pr tp g 5 (dep + 1) (p + 1)).2.1; omega⟩
                    show p + (_ ++ _ : List (Int × Int)).length ≤ (pr tp g 5 (dep + 1) (p + 1)).2.1
                    rw [List.length_append]
                    show p + ((pr tp g 5 (dep + 1) (p + 1)).2.2.length + 1) ≤ _
                    omega
                  · exact ⟨by show p ≤ (pr tp g 5 (dep + 1) (p + 1)).2.1; omega, i1.2.1, by show p + 0 ≤ (pr tp g 5 (dep + 1) (p + 1)).2.1; omega, fun _ h => by cases h⟩
                · exact ⟨Nat.le_refl _, hp, by show p + 0 ≤ p; omega, fun _ h => by cases h⟩
              · exact ⟨Nat.le_refl _, hp, by show p + 0 ≤ p; omega, fun _ h => by cases h⟩
      · obtain ⟨l, rfl⟩ : ∃ l, k = l + 6 := ⟨k - 6, by omega⟩
        rw [pr_r]
        split
        · rename_i cl
          by_cases cl5 : l < 5
          · have hp1 : p < len := hin p (fun e => by rw [e] at cl; rw [← cl] at cl5; revert cl5; decide)
            have i1 := ih (l + 1) dep (p + 1) (by omega) (by omega)
            have i2 := ih (l + 6) dep (pr tp g (l + 1) dep (p + 1)).2.1 (by omega) i1.2.1
            split
            · split
              · refine ⟨by show p ≤ (pr tp g (l + 1) dep (p + 1)).2.1; omega, i1.2.1, ?_, fun h => absurd h (by omega)⟩
                show p + (_ ++ _ : List (Int × Int)).length ≤ (pr tp g (l + 1) dep (p + 1)).2.1
                rw [List.length_append]
                show p + ((pr tp g (l + 1) dep (p + 1)).2.2.length + 1) ≤ _
                omega
              · refine ⟨by show p ≤ (pr tp g (l + 6) dep _).2.1; omega, i2.2.1, ?_, fun h => absurd h (by omega)⟩
                show p + (_ ++ _ ++ _ : List (Int × Int)).length ≤ (pr tp g (l + 6) dep _).2.1
                rw [List.length_append, List.length_append]
                show p + ((pr tp g (l + 1) dep (p + 1)).2.2.length + 1 + _) ≤ _
                omega
            · exact ⟨by show p ≤ (pr tp g (l + 1) dep (p + 1)).2.1; omega, i1.2.1, by show p + 0 ≤ (pr tp g (l + 1) dep (p + 1)).2.1; omega, fun _ h => by cases h⟩
          · exact absurd hk10 (by omega)
        · exact ⟨Nat.le_refl _, hp, by show p + 0 ≤ p; omega, fun h => absurd h (by omega)⟩
/-- what a told text does with a heap of numbers -/
def bop (a u t : Int) : Int := if a = 43 then wr (u + t) else if a = 45 then wr (u - t) else if a = 42 then wr (u * t) else if a = 47 then (if t = 0 then 0 else wr (u.tdiv t)) else if a = 37 then (if t = 0 then 0 else u.tmod t) else if a = 60 then (if u < t then 1 else 0) else if a = 61 then (if u = t then 1 else 0) else if a = 62 then (if t < u then 1 else 0) else if a = 38 then (if u = 0 ∨ t = 0 then 0 else 1) else (if u = 0 ∧ t = 0 then 0 else 1)
def st1 (env : Nat → Int) (c : Int × Int) (s : List Int) : List Int := if c.1 = 1 then c.2 :: s else if c.1 = 2 then env c.2.toNat :: s else match s with
  | [] => []
  | t :: s' => if c.1 = 3 then (if t = 0 then 1 else 0) :: s' else if c.1 = 4 then wr (-t) :: s' else match s' with
    | [] => []
    | u :: s'' => bop c.1 u t :: s''
def exl (env : Nat → Int) : List (Int × Int) → List Int → List Int
  | [], s => s
  | c :: cs, s => exl env cs (st1 env c s)
theorem exl_a (env : Nat → Int) : ∀ c1 c2 s, exl env (c1 ++ c2) s = exl env c2 (exl env c1 s)
  | [], _, _ => rfl
  | c :: cs, c2, s => exl_a env cs c2 (st1 env c s)
/-- what may be told: a number, a name, !, -, or an act of two -/
def cok (c : Int × Int) : Prop := (c.1 = 1 ∧ 0 ≤ c.2 ∧ c.2 ≤ 9999) ∨ (c.1 = 2 ∧ 0 ≤ c.2 ∧ c.2 ≤ 3) ∨ (c.1 = 3 ∧ c.2 = 0) ∨ (c.1 = 4 ∧ c.2 = 0) ∨ (37 ≤ c.1 ∧ c.1 ≤ 124 ∧ c.2 = 0 ∧ lvl c.1 < 5)
def hgt (c : Int × Int) (h : Nat) : Nat := if c.1 = 1 ∨ c.1 = 2 then h + 1 else if c.1 = 3 ∨ c.1 = 4 then h else h - 1
def okh (c : Int × Int) (h : Nat) : Prop := (c.1 = 1 ∨ c.1 = 2) ∨ ((c.1 = 3 ∨ c.1 = 4) ∧ 1 ≤ h) ∨ 2 ≤ h
/-- from height h to h' without want -/
def okc : List (Int × Int) → Nat → Nat → Prop
  | [], h, h' => h = h'
  | c :: cs, h, h' => cok c ∧ okh c h ∧ okc cs (hgt c h) h'
theorem okc_a : ∀ c1 c2 h h1 h2, okc c1 h h1 → okc c2 h1 h2 → okc (c1 ++ c2) h h2
  | [], _, _, _, _, a, b => by cases a; exact b
  | c :: cs, c2, h, h1, h2, a, b => ⟨a.1, a.2.1, okc_a cs c2 _ h1 h2 a.2.2 b⟩
def Good (c : List (Int × Int)) : Prop := (∀ h, okc c h (h + 1)) ∧ (∀ env, ∃ v, ∀ s, exl env c s = v :: s) ∧ c ≠ []
theorem good1 (n : Int) (h : 0 ≤ n ∧ n ≤ 9999) : Good [(1, n)] := ⟨fun _ => ⟨Or.inl ⟨rfl, h⟩, Or.inl (Or.inl rfl), rfl⟩, fun _ => ⟨n, fun _ => rfl⟩, fun h => by cases h⟩
theorem good2 (n : Int) (h : 0 ≤ n ∧ n ≤ 3) : Good [(2, n)] := ⟨fun _ => ⟨Or.inr (Or.inl ⟨rfl, h⟩), Or.inl (Or.inr rfl), rfl⟩, fun env => ⟨env n.toNat, fun _ => rfl⟩, fun h => by cases h⟩
theorem goodu {c : List (Int × Int)} (h : Good c) (a : Int) (ha : a = 3 ∨ a = 4) : Good (c ++ [(a, 0)]) := by
  refine ⟨fun k => okc_a _ _ _ _ _ (h.1 k) ⟨?_, ?_, ?_⟩, fun env => ?_, fun h => by simp at h⟩
  · rcases ha with rfl | rfl
    · exact Or.inr (Or.inr (Or.inl ⟨rfl, rfl⟩))
    · exact Or.inr (Or.inr (Or.inr (Or.inl ⟨rfl, rfl⟩)))
  · exact Or.inr (Or.inl ⟨ha, by omega⟩)
  · show hgt (a, 0) (k + 1) = k + 1
    unfold hgt
    rw [if_neg (by show ¬ (a = 1 ∨ a = 2); omega), if_pos ha]
  · obtain ⟨v, hv⟩ := h.2.1 env
    rcases ha with rfl | rfl
    · exact ⟨if v = 0 then 1 else 0, fun s => by rw [exl_a, hv s]; rfl⟩
    · exact ⟨wr (-v), fun s => by rw [exl_a, hv s]; rfl⟩
theorem goodb {c1 c2 : List (Int × Int)} (h1 : Good c1) (h2 : Good c2) (a : Int) (ha : lvl a < 5) : Good (c1 ++ (c2 ++ [(a, 0)])) := by
  have hr := (lvl_R a).2 ha
  refine ⟨fun k => okc_a _ _ _ _ _ (h1.1 k) (okc_a _ _ _ _ _ (h2.1 (k + 1)) ⟨?_, ?_, ?_⟩), fun env => ?_, fun h => h1.2.2 (by simp at h)⟩
  · exact Or.inr (Or.inr (Or.inr (Or.inr ⟨hr.1, hr.2, rfl, ha⟩)))
  · exact Or.inr (Or.inr (by omega))
  · show hgt (a, 0) (k + 1 + 1) = k + 1
    unfold hgt
    rw [if_neg (by show ¬ (a = 1 ∨ a = 2); omega), if_neg (by show ¬ (a = 3 ∨ a = 4); omega)]
    rfl
  · obtain ⟨v, hv⟩ := h1.2.1 env
    obtain ⟨u, hu⟩ := h2.2.1 env
    refine ⟨bop a v u, fun s => ?_⟩
    rw [exl_a, exl_a, hv s, hu (v :: s)]
    show st1 env (a, 0) (u :: v :: s) = _
    unfold st1
    rw [if_neg (by show ¬ a = 1; omega), if_neg (by show ¬ a = 2; omega)]
    show (if a = 3 then _ else if a = 4 then _ else bop a v u :: s) = _
    rw [if_neg (by omega), if_neg (by omega)]
/-- the rest of a level, told behind what stands -/
def GoodR (c : List (Int × Int)) : Prop := ∀ c0, Good c0 → Good (c0 ++ c)
theorem nmb_v {tp : Nat → Int} (p : Nat) : ∀ m, 0 ≤ (nmb tp p m).2 ∧ (nmb tp p m).2 < 10 ^ m
  | 0 => by simp [nmb]
  | m + 1 => by
    have ih := nmb_v (tp := tp) p m
    have e : (10 : Int) ^ (m + 1) = 10 ^ m * 10 := Int.pow_succ 10 m
    rw [nmb_s]
    split
    · rename_i c
      have h3 := c.2
      unfold dig at h3
      have h3 := of_decide_eq_true h3
      show 0 ≤ 10 * (nmb tp p m).2 + tp (p + m) - 48 ∧ 10 * (nmb tp p m).2 + tp (p + m) - 48 < _
      rw [e]
      omega
    · rw [e]
      omega
theorem pr_G {tp : Nat → Int} : ∀ g k dep p, k ≤ 10 → (pr tp g k dep p).1 = true → (k ≤ 5 → Good (pr tp g k dep p).2.2) ∧ (6 ≤ k → GoodR (pr tp g k dep p).2.2) := by
  intro g
  induction g with
  | zero => intro k dep p _ h; cases h
  | succ g ih =>
    intro k dep p hk h
    by_cases c1 : k < 5
    · rw [pr_e c1] at h ⊢
      split at h
      · rename_i c2
        rw [if_pos c2]
        refine ⟨fun _ => ?_, fun h => absurd h (by omega)⟩
        exact (ih (k + 6) dep _ (by omega) h).2 (by omega) _ ((ih (k + 1) dep p (by omega) c2).1 (by omega))
      · cases h
    · by_cases c2 : k = 5
      · subst c2
        refine ⟨fun _ => ?_, fun h => absurd h (by omega)⟩
        rw [pr_5] at h ⊢
        split at h
        · rename_i q1
          rw [if_pos q1]
          split at h
          · cases h
          · rename_i q2
            rw [if_neg q2]
            have := nmb_v (tp := tp) p 4
            exact good1 _ (by have e : (10 : Int) ^ 4 = 10000 := by decide
                              omega)
        · rename_i q1
          rw [if_neg q1]
          split at h
          · rename_i q2
            rw [if_pos q2]
            refine good2 _ ⟨q2, ?_⟩
            unfold nam
            repeat' split
            all_goals omega
          · rename_i q2
            rw [if_neg q2]
            split at h
            · rename_i q3
              rw [if_pos q3]
              split at h
              · rename_i q4
                rw [if_pos q4]
                split at h
                · rename_i q5
                  rw [if_pos q5]
                  split at h
                  · rename_i q6
                    rw [if_pos q6]
                    exact (ih 0 (dep + 1) (p + 1) (by omega) q5).1 (by omega)
                  · cases h
                · cases h
              · cases h
            · rename_i q3
              rw [if_neg q3]
              split at h
              · rename_i q4
                rw [if_pos q4]
                split at h
                · rename_i q5
                  rw [if_pos q5]
                  split at h
                  · rename_i q6
                    rw [if_pos q6]
                    refine goodu ((ih 5 (dep + 1) (p + 1) (by omega) q6).1 (by omega)) _ ?_
                    split
                    · exact Or.inl rfl
                    · exact Or.inr rfl
                  · cases h
                · cases h
              · cases h
      · obtain ⟨l, rfl⟩ : ∃ l, k = l + 6 := ⟨k - 6, by omega⟩
        refine ⟨fun h => absurd h (by omega), fun _ c0 hc0 => ?_⟩
        rw [pr_r] at h ⊢
        split at h
        · rename_i q1
          rw [if_pos q1]
          split at h
          · rename_i q2
            rw [if_pos q2]
            have i1 := (ih (l + 1) dep (p + 1) (by omega) q2).1 (by omega)
            split at h
            · rename_i q3
              rw [if_pos q3]
              exact goodb hc0 i1 _ (by omega)
            · rename_i q3
              rw [if_neg q3]
              have i2 := (ih (l + 6) dep _ (by omega) h).2 (by omega) _ (goodb hc0 i1 (tp p) (by omega))
              show Good (c0 ++ (_ ++ _ ++ _))
              rw [← List.append_assoc]
              exact i2
          · cases h
        · rename_i q1
          rw [if_neg q1]
          show Good (c0 ++ [])
          rw [List.append_nil]
          exact hc0
