/-! the machine's runs: fuel, depth; and what comes out, without fuel -/
def mnol : mVal → Bool
  | .inr (.inl _) => false
  | _ => true
def mflat : List mVal → mLoc
  | [] => []
  | .inr (.inl a) :: r => some (.inr (.inl a)) :: none :: mflat r
  | .inl a :: r => some (.inl a) :: mflat r
  | .inr (.inr c) :: r => some (.inr (.inr c)) :: mflat r
def mentN (n : Nat) (as : List mVal) : mLoc := mflat as ++ List.replicate (n - (mflat as).length) none
def menokN (n : Nat) (lg : Bool) (as : List mVal) : Bool := decide ((mflat as).length ≤ n) && (lg || as.all mnol)
def mpush : Option mVal → List mVal → List mVal
  | none, st => st
  | some v, st => v :: st
def mchk (pc : Nat) (i : Instr) (ln : Nat) : Bool := (msw i || mlen i == ln) && mrng pc i
def run : Nat → Nat → Nat → Nat → mLoc → List mVal → mSg → Option mOut
  | 0, _, _, _, _, _, _ => none
  | n + 1, d, y, pc, L, st, σ =>
    match decode (mb y) pc with
    | .ok (i, ln) => if mchk pc i ln = true then
        stepI none (fun pc L st σ => run n d y pc L st σ)
          (fun y' as pc' L' st' σ' => match d with
            | 0 => none
            | d' + 1 => if y' < 235 ∧ menokN (mnl y') (mlg y') as = true then (run n d' y' 0 (mentN (mnl y') as) [] σ').bind (fun o => run n d y pc' L' (mpush o.1 st') o.2) else none)
          (fun v σ => some (v, σ)) (mrt y) (mini y) (mlg y) (lkI (mcl y) i) i pc L st σ
      else none
    | .error _ => none
abbrev mRes : Type := Option ((Nat × mLoc × List mVal × mSg) ⊕ (Nat × List mVal × Nat × mLoc × List mVal × mSg) ⊕ mOut)
def stepD (rt ini : Nat) (lg : Bool) (x : mAux) (i : Instr) (pc : Nat) (L : mLoc) (st : List mVal) (σ : mSg) : mRes :=
  stepI none (fun pc L st σ => some (.inl (pc, L, st, σ))) (fun y as pc L st σ => some (.inr (.inl (y, as, pc, L, st, σ)))) (fun v σ => some (.inr (.inr (v, σ)))) rt ini lg x i pc L st σ
def resF {α : Type} (fl : α) (nx : Nat → mLoc → List mVal → mSg → α) (ca : Nat → List mVal → Nat → mLoc → List mVal → mSg → α) (re : Option mVal → mSg → α) : mRes → α
  | none => fl
  | some (.inl (a, b, c, d)) => nx a b c d
  | some (.inr (.inl (a, b, c, d, e, f))) => ca a b c d e f
  | some (.inr (.inr (a, b))) => re a b
theorem stepI_D {α : Type} (fl : α) (nx : Nat → mLoc → List mVal → mSg → α) (ca : Nat → List mVal → Nat → mLoc → List mVal → mSg → α) (re : Option mVal → mSg → α) (rt ini : Nat) (lg : Bool) (x : mAux) (i : Instr) (pc : Nat) (L : mLoc) (st : List mVal) (σ : mSg) :
    stepI fl nx ca re rt ini lg x i pc L st σ = resF fl nx ca re (stepD rt ini lg x i pc L st σ) := by
  unfold stepD
  rw [stepI_nat (resF fl nx ca re)]
  rfl
theorem run_mono1 : ∀ (n d y pc : Nat) (L : mLoc) (st : List mVal) (σ : mSg) (o : mOut), run n d y pc L st σ = some o → run (n + 1) d y pc L st σ = some o
  | 0, _, _, _, _, _, _, _, h => by simp [run] at h
  | n + 1, d, y, pc, L, st, σ, o, h => by
    unfold run at h ⊢
    cases hd : decode (mb y) pc with
    | error e => rw [hd] at h; exact absurd h (by simp)
    | ok q =>
      obtain ⟨i, ln⟩ := q
      rw [hd] at h
      dsimp only at h ⊢
      by_cases hc : mchk pc i ln = true
      · rw [if_pos hc] at h ⊢
        rw [stepI_D] at h ⊢
        cases hD : stepD (mrt y) (mini y) (mlg y) (lkI (mcl y) i) i pc L st σ with
        | none => rw [hD] at h; exact absurd h (by simp [resF])
        | some r =>
          rw [hD] at h
          rcases r with ⟨a, b, c, e⟩ | ⟨a, b, c, e, f, g⟩ | ⟨a, b⟩
          · exact run_mono1 n d y a b c e o h
          · cases d with
            | zero => exact absurd h (by simp [resF])
            | succ d' =>
              dsimp only [resF] at h ⊢
              by_cases hk : a < 235 ∧ menokN (mnl a) (mlg a) b = true
              · rw [if_pos hk] at h ⊢
                obtain ⟨o1, h1, h2⟩ := Option.bind_eq_some_iff.mp h
                rw [run_mono1 n d' a 0 _ _ _ o1 h1]
                exact run_mono1 n (d' + 1) y c e _ _ o h2
              · rw [if_neg hk] at h
                exact absurd h (by simp)
          · exact h
      · rw [if_neg hc] at h
        exact absurd h (by simp)
theorem run_mono {n k d y pc : Nat} {L : mLoc} {st : List mVal} {σ : mSg} {o : mOut} (h : run n d y pc L st σ = some o) (hk : n ≤ k) : run k d y pc L st σ = some o := by
  obtain ⟨j, rfl⟩ := Nat.exists_eq_add_of_le hk
  clear hk
  induction j with
  | zero => exact h
  | succ j ih => exact run_mono1 _ d y pc L st σ o ih
noncomputable def Sem (d y pc : Nat) (L : mLoc) (st : List mVal) (σ : mSg) : Option mOut :=
  @dite _ (∃ o n, run n d y pc L st σ = some o) (Classical.propDecidable _) (fun h => some h.choose) (fun _ => none)
theorem Sem_iff {d y pc : Nat} {L : mLoc} {st : List mVal} {σ : mSg} {o : mOut} : Sem d y pc L st σ = some o ↔ ∃ n, run n d y pc L st σ = some o := by
  unfold Sem
  by_cases h : ∃ o n, run n d y pc L st σ = some o
  · rw [dif_pos h]
    have hs := h.choose_spec
    constructor
    · intro e
      rw [← Option.some.inj e]
      exact hs
    · rintro ⟨n, hn⟩
      obtain ⟨k, hk⟩ := hs
      have h1 := run_mono hn (Nat.le_max_left n k)
      have h2 := run_mono hk (Nat.le_max_right n k)
      rw [h1] at h2
      rw [← Option.some.inj h2]
  · rw [dif_neg h]
    constructor
    · intro e; cases e
    · rintro ⟨n, hn⟩; exact absurd ⟨o, n, hn⟩ h
/-- a call, whole -/
noncomputable def semC : Nat → Nat → List mVal → mSg → Option mOut
  | 0, _, _, _ => none
  | d + 1, y, as, σ => if y < 235 ∧ menokN (mnl y) (mlg y) as = true then Sem d y 0 (mentN (mnl y) as) [] σ else none
theorem semC_succ (d y : Nat) (as : List mVal) (σ : mSg) : semC (d + 1) y as σ = if y < 235 ∧ menokN (mnl y) (mlg y) as = true then Sem d y 0 (mentN (mnl y) as) [] σ else none := rfl
noncomputable def semK (d y : Nat) (y' : Nat) (as : List mVal) (pc' : Nat) (L' : mLoc) (st' : List mVal) (σ' : mSg) : Option mOut := (semC d y' as σ').bind (fun o => Sem d y pc' L' (mpush o.1 st') o.2)
theorem Sem_eq (d y pc : Nat) (L : mLoc) (st : List mVal) (σ : mSg) : Sem d y pc L st σ = match decode (mb y) pc with
    | .ok (i, ln) => if mchk pc i ln = true then stepI none (Sem d y) (semK d y) (fun v σ => some (v, σ)) (mrt y) (mini y) (mlg y) (lkI (mcl y) i) i pc L st σ else none
    | .error _ => none := by
  apply Option.ext
  intro o
  rw [Sem_iff]
  cases hd : decode (mb y) pc with
  | error e =>
    simp only [reduceCtorEq, iff_false, not_exists]
    intro n h
    cases n with
    | zero => simp [run] at h
    | succ n => unfold run at h; rw [hd] at h; simp at h
  | ok q =>
    obtain ⟨i, ln⟩ := q
    dsimp only
    by_cases hc : mchk pc i ln = true
    · rw [if_pos hc, stepI_D]
      cases hD : stepD (mrt y) (mini y) (mlg y) (lkI (mcl y) i) i pc L st σ with
      | none =>
        constructor
        · rintro ⟨n, h⟩
          cases n with
          | zero => simp [run] at h
          | succ n => unfold run at h; rw [hd] at h; dsimp only at h; rw [if_pos hc, stepI_D, hD] at h; exact h
        · intro h; cases h
      | some r =>
        rcases r with ⟨a, b, c, e⟩ | ⟨a, b, c, e, f, g⟩ | ⟨a, b⟩
        · show _ ↔ Sem d y a b c e = some o
          rw [Sem_iff]
          constructor
          · rintro ⟨n, h⟩
            cases n with
            | zero => simp [run] at h
            | succ n => unfold run at h; rw [hd] at h; dsimp only at h; rw [if_pos hc, stepI_D, hD] at h; exact ⟨n, h⟩
          · rintro ⟨n, h⟩
            refine ⟨n + 1, ?_⟩
            unfold run; rw [hd]; dsimp only; rw [if_pos hc, stepI_D, hD]; exact h
        · show _ ↔ semK d y a b c e f g = some o
          unfold semK
          cases d with
          | zero =>
            constructor
            · rintro ⟨n, h⟩
              cases n with
              | zero => simp [run] at h
              | succ n => unfold run at h; rw [hd] at h; dsimp only at h; rw [if_pos hc, stepI_D, hD] at h; cases h
            · intro h; cases h
          | succ d' =>
            constructor
            · rintro ⟨n, h⟩
              cases n with
              | zero => simp [run] at h
              | succ n =>
                unfold run at h; rw [hd] at h; dsimp only at h; rw [if_pos hc, stepI_D, hD] at h; dsimp only [resF] at h
                by_cases hk : a < 235 ∧ menokN (mnl a) (mlg a) b = true
                · rw [if_pos hk] at h
                  obtain ⟨o1, h1, h2⟩ := Option.bind_eq_some_iff.mp h
                  rw [show semC (d' + 1) a b g = some o1 by rw [semC_succ, if_pos hk]; exact Sem_iff.mpr ⟨n, h1⟩]
                  exact Sem_iff.mpr ⟨n, h2⟩
                · rw [if_neg hk] at h; cases h
            · intro h
              obtain ⟨o1, h1, h2⟩ := Option.bind_eq_some_iff.mp h
              rw [semC_succ] at h1
              by_cases hk : a < 235 ∧ menokN (mnl a) (mlg a) b = true
              · rw [if_pos hk] at h1
                obtain ⟨n1, e1⟩ := Sem_iff.mp h1
                obtain ⟨n2, e2⟩ := Sem_iff.mp h2
                refine ⟨Nat.max n1 n2 + 1, ?_⟩
                unfold run; rw [hd]; dsimp only; rw [if_pos hc, stepI_D, hD]; dsimp only [resF]
                rw [if_pos hk, run_mono e1 (Nat.le_max_left n1 n2)]
                exact run_mono e2 (Nat.le_max_right n1 n2)
              · rw [if_neg hk] at h1; cases h1
        · constructor
          · rintro ⟨n, h⟩
            cases n with
            | zero => simp [run] at h
            | succ n => unfold run at h; rw [hd] at h; dsimp only at h; rw [if_pos hc, stepI_D, hD] at h; exact h
          · intro h
            refine ⟨1, ?_⟩
            unfold run; rw [hd]; dsimp only; rw [if_pos hc, stepI_D, hD]; exact h
    · rw [if_neg hc]
      constructor
      · rintro ⟨n, h⟩
        cases n with
        | zero => simp [run] at h
        | succ n => unfold run at h; rw [hd] at h; dsimp only at h; rw [if_neg hc] at h; cases h
      · intro h; cases h
/-- A BLOCK of instructions, run in continuation style -/
def exec (S : Nat → mLoc → List mVal → mSg → Option mOut) (ca : Nat → List mVal → Nat → mLoc → List mVal → mSg → Option mOut) (rt ini : Nat) (lg : Bool) : List mIn → Nat → mLoc → List mVal → mSg → Option mOut
  | [], pc, L, st, σ => S pc L st σ
  | [(i, x)], pc, L, st, σ => stepI none S ca (fun v σ => some (v, σ)) rt ini lg x i pc L st σ
  | (i, x) :: q :: is, pc, L, st, σ => stepI none (fun pc' L' st' σ' => if pc' = pc + mlen i then exec S ca rt ini lg (q :: is) pc' L' st' σ' else S pc' L' st' σ') ca (fun v σ => some (v, σ)) rt ini lg x i pc L st σ
def bchk (y : Nat) : List mIn → Nat → Bool
  | [], _ => true
  | (i, x) :: is, pc => (match decode (mb y) pc with
    | .ok (j, ln) => decide (j = i) && mchk pc i ln
    | .error _ => false) && decide (lkI (mcl y) i = x) && bchk y is (pc + mlen i)
def bchkY (y rt ini : Nat) (lg : Bool) (is : List mIn) (pc : Nat) : Bool := decide (mrt y = rt) && decide (mini y = ini) && decide (mlg y = lg) && bchk y is pc
theorem Sem_exec {d y : Nat} : ∀ {is : List mIn} {pc : Nat}, bchk y is pc = true → ∀ (L : mLoc) (st : List mVal) (σ : mSg), Sem d y pc L st σ = exec (Sem d y) (semK d y) (mrt y) (mini y) (mlg y) is pc L st σ
  | [], pc, _, L, st, σ => rfl
  | (i, x) :: is, pc, h, L, st, σ => by
    simp only [bchk, Bool.and_eq_true, decide_eq_true_eq] at h
    obtain ⟨⟨h1, h2⟩, h3⟩ := h
    rw [Sem_eq]
    cases hd : decode (mb y) pc with
    | error e => rw [hd] at h1; simp at h1
    | ok q =>
      obtain ⟨j, ln⟩ := q
      rw [hd] at h1
      simp only [Bool.and_eq_true, decide_eq_true_eq] at h1
      obtain ⟨rfl, h4⟩ := h1
      dsimp only
      rw [if_pos h4, h2]
      cases is with
      | nil => unfold exec; rfl
      | cons q is =>
        unfold exec
        congr 1
        funext pc' L' st' σ'
        by_cases e : pc' = pc + mlen j
        · subst e
          rw [if_pos rfl]
          exact Sem_exec h3 L' st' σ'
        · rw [if_neg e]
theorem blk {y rt ini : Nat} {lg : Bool} {is : List mIn} {pc : Nat} (h : bchkY y rt ini lg is pc = true) (d : Nat) (L : mLoc) (st : List mVal) (σ : mSg) : Sem d y pc L st σ = exec (Sem d y) (semK d y) rt ini lg is pc L st σ := by
  simp only [bchkY, Bool.and_eq_true, decide_eq_true_eq] at h
  obtain ⟨⟨⟨h1, h2⟩, h3⟩, h4⟩ := h
  rw [← h1, ← h2, ← h3]
  exact Sem_exec h4 L st σ
theorem semC_in {y n : Nat} {lg : Bool} (d : Nat) (as : List mVal) (σ : mSg) (h : (decide (y < 235) && decide (mnl y = n) && decide (mlg y = lg)) = true) (hk : menokN n lg as = true) : semC (d + 1) y as σ = Sem d y 0 (mentN n as) [] σ := by
  simp only [Bool.and_eq_true, decide_eq_true_eq] at h
  obtain ⟨⟨h1, h2⟩, h3⟩ := h
  rw [semC_succ, h2, h3, if_pos ⟨h1, hk⟩]
