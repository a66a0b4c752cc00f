/-! seats: the pure side -/
theorem shk : ∀ d, d < 10 → ((oi (d : Nat) &&& 31).toBitVec.smod 32).toNat = d := by decide
theorem sh1 : ∀ a, a < 10 → ∀ d, d < 10 → ((oi 1 <<< (oi (a : Nat) &&& 31)).toBitVec.getLsbD d) = decide (a = d) := by decide
theorem bit_at (x : Int) (d : Nat) (hd : d < 10) : iand (ishr x d) 1 = if (oi x).toBitVec.getLsbD d = true then 1 else 0 := by
  unfold iand ishr
  rw [oi_ii]
  have e : ∀ y : Int32, (y &&& oi 1).toInt = (y.toBitVec &&& 1#32).toInt := fun _ => rfl
  have e2 : (oi x >>> (oi (d : Nat) &&& 31)).toBitVec = (oi x).toBitVec.sshiftRight (((oi (d : Nat) &&& 31).toBitVec.smod 32)).toNat := rfl
  rw [e, e2, shk d hd, bit01, BitVec.getLsbD_sshiftRight, Nat.add_zero]
  have h32 : d < 32 := by omega
  cases (oi x).toBitVec.getLsbD d <;> simp [h32]
theorem bit_set (x : Int) (a d : Nat) (ha : a < 10) (hd : d < 10) : iand (ishr (ior x (ishl 1 a)) d) 1 = 1 ↔ (a = d ∨ iand (ishr x d) 1 = 1) := by
  rw [bit_at _ d hd, bit_at _ d hd]
  have e : (oi (ior x (ishl 1 a))).toBitVec = (oi x).toBitVec ||| (oi 1 <<< (oi (a : Nat) &&& 31)).toBitVec := by
    unfold ior ishl
    rw [oi_ii, oi_ii]
    rfl
  rw [e, BitVec.getLsbD_or, sh1 a ha d hd]
  by_cases c : a = d
  · simp [c]
  · cases (oi x).toBitVec.getLsbD d <;> simp [c]
theorem bit_0 (d : Nat) (hd : d < 10) : ¬ iand (ishr 0 d) 1 = 1 := by
  rw [bit_at _ d hd]
  have : (oi 0).toBitVec.getLsbD d = false := by
    show (0#32).getLsbD d = false
    simp
  rw [this]
  simp
def pwd (i : Nat) (r : Nat → Int) : Prop := ∀ j k, j < k → k < i → r j ≠ r k
def nin (i : Nat) (r : Nat → Int) (d : Int) : Prop := ∀ j, j < i → r j ≠ d
theorem pwd_s {i : Nat} {r : Nat → Int} {d : Int} : pwd (i + 1) (rs r i d) ↔ pwd i r ∧ nin i r d := by
  constructor
  · intro h
    refine ⟨fun j k h1 h2 => ?_, fun j hj => ?_⟩
    · have := h j k h1 (by omega)
      rwa [rs_ne _ _ (by omega), rs_ne _ _ (by omega)] at this
    · have := h j i hj (by omega)
      rwa [rs_ne _ _ (by omega), rs_same] at this
  · rintro ⟨h1, h2⟩ j k h3 h4
    by_cases c : k = i
    · rw [c, rs_same, rs_ne _ _ (by omega)]
      exact h2 j (by omega)
    · rw [rs_ne _ _ (by omega), rs_ne _ _ (by omega)]
      exact h1 j k h3 (by omega)
abbrev sS := Bool × Int × (Nat → Int)
def upS (N : (Nat → Int) → Int) (s : sS) (r : Nat → Int) : sS := if s.1 = false ∨ s.2.1 < N r then (true, N r, r) else s
/-- d < D in turn -/
def fld (g : Nat → sS → sS) : Nat → sS → sS
  | 0, s => s
  | D + 1, s => g D (fld g D s)
theorem fld_s (g : Nat → sS → sS) (D : Nat) (s : sS) : fld g (D + 1) s = g D (fld g D s) := rfl
theorem fld_x {g g' : Nat → sS → sS} : ∀ D, (∀ d, d < D → ∀ s, g d s = g' d s) → ∀ s, fld g D s = fld g' D s
  | 0, _, _ => rfl
  | D + 1, h, s => by rw [fld_s, fld_s, fld_x D (fun d hd => h d (by omega)) s, h D (by omega)]
def tak (i : Nat) (r : Nat → Int) (d : Int) : Bool := ex (fun j => decide (r j = d)) i
theorem tak_iff (i : Nat) (r : Nat → Int) (d : Int) : tak i r d = false ↔ nin i r d := by
  unfold tak nin
  constructor
  · intro h j hj he
    have : ex (fun j => decide (r j = d)) i = true := (ex_iff _ _).2 ⟨j, hj, decide_eq_true he⟩
    rw [this] at h; cases h
  · intro h
    cases c : ex (fun j => decide (r j = d)) i
    · rfl
    · obtain ⟨j, hj, hh⟩ := (ex_iff _ _).1 c
      exact absurd (of_decide_eq_true hh) (h j hj)
def dfs (N : (Nat → Int) → Int) (D : Nat) : Nat → Nat → (Nat → Int) → sS → sS
  | 0, _, r, s => upS N s r
  | k + 1, i, r, s => fld (fun d s => if tak i r d = true then s else dfs N D k (i + 1) (rs r i d) s) D s
theorem dfs_s (N : (Nat → Int) → Int) (D k i : Nat) (r : Nat → Int) (s : sS) : dfs N D (k + 1) i r s = fld (fun d s => if tak i r d = true then s else dfs N D k (i + 1) (rs r i d) s) D s := rfl
/-- codes in turn -/
def itc (g : Nat → sS → sS) (a : Nat) : Nat → sS → sS
  | 0, s => s
  | m + 1, s => g (a + m) (itc g a m s)
theorem itc_add (g : Nat → sS → sS) (a m : Nat) : ∀ m' s, itc g a (m + m') s = itc g (a + m) m' (itc g a m s)
  | 0, s => rfl
  | m' + 1, s => by
    show g (a + (m + m')) (itc g a (m + m') s) = g (a + m + m') (itc g (a + m) m' (itc g a m s))
    rw [itc_add g a m m' s, Nat.add_assoc]
theorem itc_blk (g : Nat → sS → sS) (a m : Nat) : ∀ D s, itc g a (D * m) s = fld (fun d s => itc g (a + d * m) m s) D s
  | 0, s => by rw [Nat.zero_mul]; rfl
  | D + 1, s => by rw [Nat.succ_mul, itc_add, itc_blk g a m D s]; rfl
def dg (D : Nat) : Nat → Nat → Nat → Int
  | 0, _ => fun _ => 0
  | i + 1, p => rs (dg D i (p / D)) i ((p % D : Nat) : Int)
theorem dg_s {D i p d : Nat} (hd : d < D) : dg D (i + 1) (p * D + d) = rs (dg D i p) i d := by
  have h1 : (p * D + d) / D = p := by rw [Nat.mul_comm, Nat.mul_add_div (by omega), Nat.div_eq_of_lt hd, Nat.add_zero]
  have h2 : (p * D + d) % D = d := by rw [Nat.mul_comm, Nat.mul_add_mod, Nat.mod_eq_of_lt hd]
  show rs (dg D i ((p * D + d) / D)) i (((p * D + d) % D : Nat) : Int) = _
  rw [h1, h2]
def pwb : Nat → (Nat → Int) → Bool
  | 0, _ => true
  | i + 1, r => pwb i r && !tak i r (r i)
theorem pwb_iff : ∀ i r, pwb i r = true ↔ pwd i r
  | 0, r => ⟨fun _ j k h1 h2 => absurd h2 (by omega), fun _ => rfl⟩
  | i + 1, r => by
    have ih := pwb_iff i r
    show (pwb i r && !tak i r (r i)) = true ↔ _
    rw [Bool.and_eq_true, ih, Bool.not_eq_true', tak_iff]
    constructor
    · rintro ⟨h1, h2⟩ j k h3 h4
      by_cases c : k = i
      · subst c; exact h2 j h3
      · exact h1 j k h3 (by omega)
    · intro h
      exact ⟨fun j k h1 h2 => h j k h1 (by omega), fun j hj => h j i hj (by omega)⟩
def stp (N : (Nat → Int) → Int) (D n : Nat) (c : Nat) (s : sS) : sS := if pwb n (dg D n c) = true then upS N s (dg D n c) else s
theorem stp_y {N : (Nat → Int) → Int} {D n c : Nat} {s : sS} (h : pwd n (dg D n c)) : stp N D n c s = upS N s (dg D n c) := if_pos ((pwb_iff _ _).2 h)
theorem stp_n {N : (Nat → Int) → Int} {D n c : Nat} {s : sS} (h : ¬ pwd n (dg D n c)) : stp N D n c s = s := if_neg (fun hh => h ((pwb_iff _ _).1 hh))
theorem itc_dfs (N : (Nat → Int) → Int) (D n : Nat) : ∀ k i p s, i + k = n → (pwd i (dg D i p) → itc (stp N D n) (p * D ^ k) (D ^ k) s = dfs N D k i (dg D i p) s) ∧ (¬ pwd i (dg D i p) → itc (stp N D n) (p * D ^ k) (D ^ k) s = s)
  | 0, i, p, s, h => by
    have hi : i = n := by omega
    subst hi
    have e : itc (stp N D i) (p * D ^ 0) (D ^ 0) s = stp N D i p s := by
      show stp N D i (p * 1 + 0) s = _
      rw [Nat.mul_one, Nat.add_zero]
    rw [e]
    exact ⟨fun hp => stp_y hp, fun hp => stp_n hp⟩
  | k + 1, i, p, s, h => by
    have ih := fun p s => itc_dfs N D n k (i + 1) p s (by omega)
    have e : itc (stp N D n) (p * D ^ (k + 1)) (D ^ (k + 1)) s = fld (fun d s => itc (stp N D n) ((p * D + d) * D ^ k) (D ^ k) s) D s := by
      rw [Nat.pow_succ, Nat.mul_comm (D ^ k) D, itc_blk]
      refine fld_x D (fun d _ s => ?_) s
      rw [show p * (D * D ^ k) + d * D ^ k = (p * D + d) * D ^ k by rw [Nat.add_mul, Nat.mul_assoc]]
    rw [e]
    constructor
    · intro hp
      rw [dfs_s]
      refine fld_x D (fun d hd s => ?_) s
      have hs := pwd_s (i := i) (r := dg D i p) (d := d)
      cases c : tak i (dg D i p) d
      · rw [if_neg (by simp), (ih (p * D + d) s).1 (by rw [dg_s hd]; exact hs.2 ⟨hp, (tak_iff _ _ _).1 c⟩), dg_s hd]
      · rw [if_pos rfl, (ih (p * D + d) s).2]
        rw [dg_s hd, hs]
        rintro ⟨-, h2⟩
        rw [(tak_iff _ _ _).2 h2] at c
        cases c
    · intro hp
      have : ∀ D', D' ≤ D → fld (fun d s => itc (stp N D n) ((p * D + d) * D ^ k) (D ^ k) s) D' s = s := by
        intro D'
        induction D' with
        | zero => intro _; rfl
        | succ m ihm =>
          intro hm
          rw [fld_s, ihm (by omega), (ih (p * D + m) s).2]
          rw [dg_s (by omega), pwd_s]
          exact fun h => hp h.1
      exact this D (Nat.le_refl _)
/-- a place is found once there are as many desks as workers -/
theorem upS_t (N : (Nat → Int) → Int) (s : sS) (r : Nat → Int) : (upS N s r).1 = true := by
  unfold upS
  split
  · rfl
  · rename_i h
    cases c : s.1
    · exact absurd (Or.inl c) h
    · rfl
theorem fld_t {g : Nat → sS → sS} (hg : ∀ d s, s.1 = true → (g d s).1 = true) : ∀ D s, s.1 = true → (fld g D s).1 = true
  | 0, _, h => h
  | D + 1, s, h => hg D _ (fld_t hg D s h)
theorem dfs_t (N : (Nat → Int) → Int) (D : Nat) : ∀ k i r s, s.1 = true → (dfs N D k i r s).1 = true
  | 0, _, r, s, _ => upS_t N s r
  | k + 1, i, r, s, h => by
    rw [dfs_s]
    refine fld_t (fun d s hs => ?_) D s h
    try dsimp only
    split
    · exact hs
    · exact dfs_t N D k (i + 1) _ s hs
theorem fld_o {g : Nat → sS → sS} (hg : ∀ d s, s.1 = true → (g d s).1 = true) {a : Nat} (ha : ∀ s, (g a s).1 = true) : ∀ D, a < D → ∀ s, (fld g D s).1 = true
  | 0, h, _ => absurd h (by omega)
  | D + 1, h, s => by
    rw [fld_s]
    by_cases c : a = D
    · subst c; exact ha _
    · exact hg D _ (fld_o hg ha D (by omega) s)
theorem dfs_f (N : (Nat → Int) → Int) (D : Nat) : ∀ k i r s, i + k ≤ D → (∀ j, j < i → r j = (j : Int)) → (dfs N D k i r s).1 = true
  | 0, _, r, s, _, _ => upS_t N s r
  | k + 1, i, r, s, h, hr => by
    rw [dfs_s]
    refine fld_o (a := i) (fun d s hs => ?_) (fun s => ?_) D (by omega) s
    · try dsimp only
      split
      · exact hs
      · exact dfs_t N D k (i + 1) _ s hs
    · try dsimp only
      rw [if_neg]
      · refine dfs_f N D k (i + 1) _ s (by omega) (fun j hj => ?_)
        rw [rs_at]
        split
        · rename_i e; rw [e]
        · exact hr j (by omega)
      · rw [(tak_iff i r i).2 (fun j hj => by rw [hr j hj]; omega)]
        simp
/-- sums by pairs -/
theorem sm_add (f g : Nat → Int) : ∀ n, sm (fun k => f k + g k) n = sm f n + sm g n
  | 0 => rfl
  | n + 1 => by rw [sm_s, sm_s, sm_s, sm_add f g n]; omega
def prs (W : Nat → Nat → Int) : Nat → Int := sm (fun i => sm (fun j => W i j + W j i) i)
theorem prs_full {W : Nat → Nat → Int} (hW : ∀ i, W i i = 0) : ∀ n, sm (fun i => sm (fun j => W i j) n) n = prs W n
  | 0 => rfl
  | n + 1 => by
    have e : sm (fun i => sm (fun j => W i j) (n + 1)) (n + 1) = sm (fun i => sm (fun j => W i j) n + W i n) n + (sm (fun j => W n j) n + W n n) := rfl
    rw [e, sm_add (fun i => sm (fun j => W i j) n) (fun i => W i n) n, prs_full hW n, hW n]
    have e2 : prs W (n + 1) = prs W n + sm (fun j => W n j + W j n) n := rfl
    rw [e2, sm_add (fun j => W n j) (fun j => W j n) n]
    omega
