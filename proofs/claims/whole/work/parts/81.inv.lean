/-! WHAT HOLDS BETWEEN TWO CALLS, of class and reference -/
def FL (I : Nat → Nat → Int) : Prop := (0 ≤ I 4 0 ∧ I 4 0 ≤ 20) ∧ (0 ≤ I 4 1 ∧ I 4 1 ≤ 20) ∧ (0 ≤ I 4 4 ∧ I 4 4 ≤ 10) ∧ (0 ≤ I 4 8 ∧ I 4 8 ≤ 10) ∧ pos (I 5) ∧ pos (I 6) ∧ pos (I 7) ∧ pos (I 8) ∧ (∀ k, 0 ≤ I 9 k ∧ I 9 k ≤ 9) ∧ I 58 1 = I 4 0 ∧ I 58 2 = I 4 1 ∧ I 58 3 = I 4 4 ∧ I 58 6 = I 4 8 ∧ I 59 = I 5 ∧ I 60 = I 6 ∧ I 61 = I 7 ∧ I 62 = I 8 ∧ I 63 = I 9
def ST (I : Nat → Nat → Int) : Prop := (0 ≤ I 10 6 ∧ I 10 6 ≤ 10) ∧ (∀ k, 0 ≤ I 11 k ∧ I 11 k ≤ 99) ∧ (∀ k, 0 ≤ I 12 k ∧ I 12 k ≤ 9) ∧ wR (I 14) ∧ seR (I 16) (I 10 6).toNat ∧ dst (I 16) (I 10 6).toNat ∧ I 58 10 = I 10 6 ∧ I 64 = I 11 ∧ I 65 = I 12 ∧ I 66 = I 13 ∧ I 67 = I 14 ∧ I 68 = I 15 ∧ I 69 = I 16
def SN (I : Nat → Nat → Int) : Prop := (0 ≤ I 23 3 ∧ I 23 3 ≤ 60) ∧ (0 ≤ I 23 4 ∧ I 23 4 ≤ 9) ∧ (0 ≤ I 32 2 ∧ I 32 2 ≤ 9) ∧ I 58 17 = I 23 3 ∧ I 58 18 = I 23 4 ∧ I 58 19 = I 32 2
def TP (I : Nat → Nat → Int) : Prop := (0 ≤ I 17 1 ∧ I 17 1 ≤ 120) ∧ I 58 27 = I 17 1 ∧ ∀ p : Nat, (p : Int) < I 17 1 → (0 ≤ I 18 p ∧ I 18 p ≤ 255) ∧ (I 74 p = I 18 p ∨ (I 74 p < 0 ∧ 128 ≤ I 18 p))
def chv (o v : Int) : Prop := (o = 0 → 0 ≤ v ∧ v ≤ 99) ∧ (o ≠ 0 → 0 ≤ v ∧ v ≤ 9)
def CH (I : Nat → Nat → Int) : Prop := (0 ≤ I 37 7 ∧ I 37 7 ≤ I 37 6 ∧ I 37 6 ≤ 40) ∧ I 58 20 = I 37 7 ∧ I 58 21 = I 37 6 - I 37 7 ∧ (∀ k, 0 ≤ I 38 k ∧ I 38 k < 10) ∧ (∀ k, chv (I 39 k) (I 40 k) ∧ chv (I 39 k) (I 41 k)) ∧ I 71 = I 38 ∧ I 70 = I 39 ∧ I 72 = I 40 ∧ I 73 = I 41
def AT (I : Nat → Nat → Int) : Prop := I 1 = ownT ∧ I 2 = abv ∧ (0 ≤ I 42 1 ∧ I 42 1 ≤ 50) ∧ (∀ k, 0 ≤ I 43 k ∧ I 43 k ≤ 7) ∧ I 58 48 = I 42 1 ∧ I 58 50 = I 42 3 ∧ I 90 = I 43 ∧ I 91 = I 44
def SV (I J : Nat → Nat → Int) (i : Nat) : Prop := ((I (46 + 2 * i) 0 = -1 ∧ I 92 i = -1) ∨ (I (46 + 2 * i) 0 = 5 ∧ 0 ≤ I 92 i ∧ I (46 + 2 * i) 1 = I 92 i ∧ I 92 i < I 42 1) ∨ ((0 ≤ I (46 + 2 * i) 0 ∧ I (46 + 2 * i) 0 ≤ 4) ∧ I 92 i = -2 - I (46 + 2 * i) 0 ∧ I 93 i = I (46 + 2 * i) 2 ∧ ∀ k : Nat, (k : Int) < I 93 i → J (47 + 2 * i) k = J 94 (60 * i + k))) ∧ 0 ≤ I (46 + 2 * i) 2 ∧ I (46 + 2 * i) 2 ≤ 60
def SHV (I J : Nat → Nat → Int) : Prop := ∀ i, i < 6 → SV I J i
def LW (t : Nat) (w : Nat × Bool) (I : Nat → Nat → Int) : Prop := ∃ f, KC f w I ∧ lawM w I f ∧ I 4 9 ≤ 100 * t ∧ I 17 9 ≤ 100 * t ∧ I 23 5 ≤ 100 * t
def Inv (L : Nat) (B : Nat → Int) (t : Nat) (w : Nat × Bool) (I J : Nat → Nat → Int) : Prop := (w.1 = L ∧ I 0 = B) ∧ FL I ∧ ST I ∧ SN I ∧ TP I ∧ CH I ∧ AT I ∧ SHV I J ∧ LW t w I
/-- one call of both -/
def StpI (L : Nat) (B : Nat → Int) (t : Nat) (w : Nat × Bool) (I J : Nat → Nat → Int) (d y y' : Nat) (as : List mVal) : Prop :=
  ∃ (v : Int) (w1 : Nat × Bool) (I1 J1 : Nat → Nat → Int) (w2 : Nat × Bool) (I2 J2 : Nat → Nat → Int), semC d y (vr 3 :: as) (mk w I J) = some (some (vi v), mk w1 I1 J1) ∧ (w1.1 = L ∧ I1 0 = B) ∧ semC d y' (vr 58 :: as) (mk w1 I1 J1) = some (some (vi v), mk w2 I2 J2) ∧ Inv L B (t + 1) w2 I2 J2
/-! each part from what it rests on -/
def FLe (I I' : Nat → Nat → Int) : Prop := I' 4 0 = I 4 0 ∧ I' 4 1 = I 4 1 ∧ I' 4 4 = I 4 4 ∧ I' 4 8 = I 4 8 ∧ I' 5 = I 5 ∧ I' 6 = I 6 ∧ I' 7 = I 7 ∧ I' 8 = I 8 ∧ I' 9 = I 9 ∧ I' 58 1 = I 58 1 ∧ I' 58 2 = I 58 2 ∧ I' 58 3 = I 58 3 ∧ I' 58 6 = I 58 6 ∧ I' 59 = I 59 ∧ I' 60 = I 60 ∧ I' 61 = I 61 ∧ I' 62 = I 62 ∧ I' 63 = I 63
theorem FL_x {I I' : Nat → Nat → Int} (h : FL I) (e : FLe I I') : FL I' := by
  obtain ⟨e1, e2, e3, e4, e5, e6, e7, e8, e9, e10, e11, e12, e13, e14, e15, e16, e17, e18⟩ := e
  unfold FL at h ⊢
  rw [e1, e2, e3, e4, e5, e6, e7, e8, e9, e10, e11, e12, e13, e14, e15, e16, e17, e18]; exact h
def STe (I I' : Nat → Nat → Int) : Prop := I' 10 6 = I 10 6 ∧ I' 11 = I 11 ∧ I' 12 = I 12 ∧ I' 13 = I 13 ∧ I' 14 = I 14 ∧ I' 15 = I 15 ∧ I' 16 = I 16 ∧ I' 58 10 = I 58 10 ∧ I' 64 = I 64 ∧ I' 65 = I 65 ∧ I' 66 = I 66 ∧ I' 67 = I 67 ∧ I' 68 = I 68 ∧ I' 69 = I 69
theorem ST_x {I I' : Nat → Nat → Int} (h : ST I) (e : STe I I') : ST I' := by
  obtain ⟨e1, e2, e3, e4, e5, e6, e7, e8, e9, e10, e11, e12, e13, e14⟩ := e
  unfold ST at h ⊢
  rw [e1, e2, e3, e4, e5, e6, e7, e8, e9, e10, e11, e12, e13, e14]; exact h
def SNe (I I' : Nat → Nat → Int) : Prop := I' 23 3 = I 23 3 ∧ I' 23 4 = I 23 4 ∧ I' 32 2 = I 32 2 ∧ I' 58 17 = I 58 17 ∧ I' 58 18 = I 58 18 ∧ I' 58 19 = I 58 19
theorem SN_x {I I' : Nat → Nat → Int} (h : SN I) (e : SNe I I') : SN I' := by
  obtain ⟨e1, e2, e3, e4, e5, e6⟩ := e
  unfold SN at h ⊢
  rw [e1, e2, e3, e4, e5, e6]; exact h
def TPe (I I' : Nat → Nat → Int) : Prop := I' 17 1 = I 17 1 ∧ I' 18 = I 18 ∧ I' 58 27 = I 58 27 ∧ I' 74 = I 74
theorem TP_x {I I' : Nat → Nat → Int} (h : TP I) (e : TPe I I') : TP I' := by
  obtain ⟨e1, e2, e3, e4⟩ := e
  unfold TP at h ⊢
  rw [e1, e2, e3, e4]; exact h
def CHe (I I' : Nat → Nat → Int) : Prop := I' 37 6 = I 37 6 ∧ I' 37 7 = I 37 7 ∧ I' 38 = I 38 ∧ I' 39 = I 39 ∧ I' 40 = I 40 ∧ I' 41 = I 41 ∧ I' 58 20 = I 58 20 ∧ I' 58 21 = I 58 21 ∧ I' 70 = I 70 ∧ I' 71 = I 71 ∧ I' 72 = I 72 ∧ I' 73 = I 73
theorem CH_x {I I' : Nat → Nat → Int} (h : CH I) (e : CHe I I') : CH I' := by
  obtain ⟨e1, e2, e3, e4, e5, e6, e7, e8, e9, e10, e11, e12⟩ := e
  unfold CH at h ⊢
  rw [e1, e2, e3, e4, e5, e6, e7, e8, e9, e10, e11, e12]; exact h
def ATe (I I' : Nat → Nat → Int) : Prop := I' 1 = I 1 ∧ I' 2 = I 2 ∧ I' 42 1 = I 42 1 ∧ I' 42 3 = I 42 3 ∧ I' 43 = I 43 ∧ I' 44 = I 44 ∧ I' 58 48 = I 58 48 ∧ I' 58 50 = I 58 50 ∧ I' 90 = I 90 ∧ I' 91 = I 91
theorem AT_x {I I' : Nat → Nat → Int} (h : AT I) (e : ATe I I') : AT I' := by
  obtain ⟨e1, e2, e3, e4, e5, e6, e7, e8, e9, e10⟩ := e
  unfold AT at h ⊢
  rw [e1, e2, e3, e4, e5, e6, e7, e8, e9, e10]; exact h
def SHe (I I' : Nat → Nat → Int) : Prop := I' 46 = I 46 ∧ I' 48 = I 48 ∧ I' 50 = I 50 ∧ I' 52 = I 52 ∧ I' 54 = I 54 ∧ I' 56 = I 56 ∧ I' 92 = I 92 ∧ I' 93 = I 93 ∧ I' 42 1 = I 42 1
theorem SH_x {I I' J : Nat → Nat → Int} (h : SHV I J) (e : SHe I I') : SHV I' J := by
  obtain ⟨e1, e2, e3, e4, e5, e6, e7, e8, e9⟩ := e
  intro i hi
  have h := h i hi
  have er : I' (46 + 2 * i) = I (46 + 2 * i) := by
    rcases six hi with h | h | h | h | h | h <;> subst h
    · exact e1
    · exact e2
    · exact e3
    · exact e4
    · exact e5
    · exact e6
  unfold SV at h ⊢
  rw [er, e7, e8, e9]; exact h
def LWe (w : Nat × Bool) (I I' : Nat → Nat → Int) : Prop := (I' 4 4 = I 4 4 ∧ I' 4 8 = I 4 8 ∧ I' 4 9 = I 4 9) ∧ I' 5 = I 5 ∧ I' 6 = I 6 ∧ I' 7 = I 7 ∧ I' 8 = I 8 ∧ I' 9 = I 9 ∧ I' 17 5 = I 17 5 ∧ I' 17 9 = I 17 9 ∧ I' 19 = I 19 ∧ I' 20 = I 20 ∧ I' 23 4 = I 23 4 ∧ I' 23 5 = I 23 5 ∧ I' 24 = I 24 ∧ I' 58 39 = I 58 39 ∧ I' 75 = I 75 ∧ I' 76 = I 76 ∧ I' 77 = I 77 ∧ I' 78 = I 78 ∧ I' 79 = I 79
theorem agM_5 {I I' : Nat → Nat → Int} (e15 : I' 75 = I 75) (e16 : I' 76 = I 76) (e17 : I' 77 = I 77) (e18 : I' 78 = I 78) (e19 : I' 79 = I 79) : agM I I' := by
  refine ⟨fun k _ => ?_, ?_, fun k _ => ?_⟩
  · rw [e15, e16]; exact ⟨rfl, rfl⟩
  · rw [e17]
  · rw [e18, e19]; exact ⟨rfl, rfl⟩
theorem KC_5 {f : Int → Int → Int → Int → Int} {w : Nat × Bool} {I I' : Nat → Nat → Int} (h : KC f w I) (e1 : I' 4 4 = I 4 4) (e1' : I' 4 8 = I 4 8) (e1'' : I' 4 9 = I 4 9) (e2 : I' 5 = I 5) (e3 : I' 6 = I 6) (e4 : I' 7 = I 7) (e5 : I' 8 = I 8) (e6 : I' 9 = I 9) (e7 : I' 17 5 = I 17 5) (e8 : I' 17 9 = I 17 9) (e9 : I' 19 = I 19) (e10 : I' 20 = I 20) (e11 : I' 23 4 = I 23 4) (e12 : I' 23 5 = I 23 5) (e13 : I' 24 = I 24) : KC f w I' := by
  obtain ⟨g, l, c⟩ := h
  refine ⟨?_, ?_, ?_⟩
  · unfold GC at g ⊢
    rw [e1, e1', e1'', e2, e3, e6, e8, e11, e12]; exact g
  · unfold lawC at l ⊢
    have hw : I' (wst w) = I (wst w) := by rcases wst_or w with h | h <;> rw [h] <;> assumption
    rw [e7, hw]; exact l
  · unfold CO st Lc at c ⊢
    rw [e1', e1'', e2, e3, e4, e5, e6, e8, e11, e12, e13]; exact c
theorem LW_x {t : Nat} {w : Nat × Bool} {I I' : Nat → Nat → Int} (h : LW t w I) (e : LWe w I I') : LW (t + 1) w I' := by
  obtain ⟨e1, e2, e3, e4, e5, e6, e7, e8, e9, e10, e11, e12, e13, e14, e15, e16, e17, e18, e19⟩ := e
  obtain ⟨f, hK, hM, b1, b2, b3⟩ := h
  refine ⟨f, KC_5 hK e1.1 e1.2.1 e1.2.2 e2 e3 e4 e5 e6 e7 e8 e9 e10 e11 e12 e13, lawM_x hM e14 (agM_5 e15 e16 e17 e18 e19), ?_, ?_, ?_⟩
  · rw [e1.2.2]; omega
  · rw [e8]; omega
  · rw [e12]; omega
theorem LW_b {t : Nat} {w : Nat × Bool} {I I' : Nat → Nat → Int} (h : LW t w I) (hg : GC I') (h5 : I' 17 5 = I 17 5) (h19 : I' 19 = I 19) (h20 : I' 20 = I 20) (h24 : I' 24 = I 24) (hs : st I < st I') (h39 : I' 58 39 = I 58 39) (e15 : I' 75 = I 75) (e16 : I' 76 = I 76) (e17 : I' 77 = I 77) (e18 : I' 78 = I 78) (e19 : I' 79 = I 79) (b1 : I' 4 9 ≤ 100 * (t + 1 : Nat)) (b2 : I' 17 9 ≤ 100 * (t + 1 : Nat)) (b3 : I' 23 5 ≤ 100 * (t + 1 : Nat)) : LW (t + 1) w I' := by
  obtain ⟨f, hK, hM, _⟩ := h
  exact ⟨f, KC_b hK hg h5 (by rcases wst_or w with h | h <;> rw [h] <;> assumption) h24 hs, lawM_x hM h39 (agM_5 e15 e16 e17 e18 e19), b1, b2, b3⟩
/-! calls that change nothing that is kept -/
def eR (I I' : Nat → Nat → Int) : Prop := (∀ c, c ≠ 21 → c ≠ 22 → c ≠ 24 → (c < 26 ∨ 34 < c) → c ≠ 36 → (c < 80 ∨ 89 < c) → I' c = I c) ∧ I' 32 2 = I 32 2
def eQ (I I' : Nat → Nat → Int) : Prop := ∀ c, (c < 80 ∨ 89 < c) → I' c = I c
theorem eR_r (I : Nat → Nat → Int) : eR I I := ⟨fun _ _ _ _ _ _ _ => rfl, rfl⟩
theorem eR_t {I I' I'' : Nat → Nat → Int} (h : eR I I') (h' : eQ I' I'') : eR I I'' := ⟨fun c a1 a2 a3 a4 a5 a6 => (h' c a6).trans (h.1 c a1 a2 a3 a4 a5 a6), by rw [h' 32 (by omega)]; exact h.2⟩
theorem eR_C {I I' : Nat → Nat → Int} (h : eC I I') : eR I I' := ⟨fun c a1 a2 a3 _ _ _ => h c a1 a2 a3, by rw [h 32 (by omega) (by omega) (by omega)]⟩
theorem eR_V {I I' : Nat → Nat → Int} (h : eV I I') : eR I I' := ⟨fun c a1 a2 a3 a4 _ _ => h c a1 a2 a3 (by omega) (by omega), by rw [h 32 (by omega) (by omega) (by omega) (by omega) (by omega)]⟩
theorem eR_S {I I' : Nat → Nat → Int} (h : eS I I') : eR I I' := ⟨fun c a1 a2 a3 a4 _ _ => h c a1 a2 a3 (by omega), by rw [h 32 (by omega) (by omega) (by omega) (by omega)]⟩
theorem eR_T {I I' : Nat → Nat → Int} (h : eT I I') : eR I I' := ⟨fun c a1 a2 a3 a4 _ _ => h c a1 a2 a3 (by omega) (by omega) (by omega), by rw [h 32 (by omega) (by omega) (by omega) (by omega) (by omega) (by omega)]⟩
theorem eR_Y {I I' : Nat → Nat → Int} (h : eY I I') : eR I I' := ⟨fun c a1 a2 a3 a4 _ _ => h.1 c a1 a2 a3 (by omega) (by omega) (by omega), h.2 2 (by omega)⟩
theorem eR_D {I I' : Nat → Nat → Int} (h : eD I I') : eR I I' := ⟨fun c a1 a2 a3 a4 _ _ => h c a1 a2 a3 (by omega) (by omega), by rw [h 32 (by omega) (by omega) (by omega) (by omega) (by omega)]⟩
theorem eQ_M {I I' : Nat → Nat → Int} (h : eM I I') : eQ I I' := fun c a => h c (by omega) (by omega)
theorem eQ_W {I I' : Nat → Nat → Int} (h : eW I I') : eQ I I' := fun c a => h c (by omega) (by omega) (by omega) (by omega)
theorem eQ_N {I I' : Nat → Nat → Int} (h : eN I I') : eQ I I' := fun c a => h c (by omega) (by omega) (by omega) (by omega) (by omega)
theorem eQ_B {I I' : Nat → Nat → Int} (h : eB I I') : eQ I I' := fun c a => h c (by omega) (by omega) (by omega) (by omega)
theorem KC_q {f : Int → Int → Int → Int → Int} {w : Nat × Bool} {I I' : Nat → Nat → Int} (h : KC f w I) (he : eQ I I') : KC f w I' :=
  KC_x h (he 4 (by omega)) (he 5 (by omega)) (he 6 (by omega)) (he 7 (by omega)) (he 8 (by omega)) (he 9 (by omega)) (he 17 (by omega)) (he 19 (by omega)) (he 20 (by omega)) (he 23 (by omega)) (he 24 (by omega))
theorem Inv_ro {L : Nat} {B : Nat → Int} {t : Nat} {w : Nat × Bool} {I I' J : Nat → Nat → Int} {f : Int → Int → Int → Int → Int} (h : Inv L B t w I J) (he : eR I I') (hK : KC f w I') (hM : lawM w I f) : Inv L B (t + 1) w I' J := by
  obtain ⟨⟨h0, h0'⟩, hF, hS, hN, hT, hC, hA, hH, hL⟩ := h
  have hr := he.1
  refine ⟨⟨h0, by rw [hr 0 (by omega) (by omega) (by omega) (by omega) (by omega) (by omega)]; exact h0'⟩, FL_x hF ?_, ST_x hS ?_, SN_x hN ?_, TP_x hT ?_, CH_x hC ?_, AT_x hA ?_, SH_x hH ?_, ?_⟩
  · unfold FLe; simp (disch := omega) only [hr, and_self]
  · unfold STe; simp (disch := omega) only [hr, and_self]
  · unfold SNe; simp (disch := omega) only [hr, he.2, and_self]
  · unfold TPe; simp (disch := omega) only [hr, and_self]
  · unfold CHe; simp (disch := omega) only [hr, and_self]
  · unfold ATe; simp (disch := omega) only [hr, and_self]
  · unfold SHe; simp (disch := omega) only [hr, and_self]
  · obtain ⟨_, _, _, b1, b2, b3⟩ := hL
    refine ⟨f, hK, lawM_x hM (by rw [hr 58 (by omega) (by omega) (by omega) (by omega) (by omega) (by omega)]) (agM_e (fun c h1 h2 => hr c (by omega) (by omega) (by omega) (by omega) (by omega) (by omega))), ?_, ?_, ?_⟩
    · rw [hr 4 (by omega) (by omega) (by omega) (by omega) (by omega) (by omega)]; omega
    · rw [hr 17 (by omega) (by omega) (by omega) (by omega) (by omega) (by omega)]; omega
    · rw [hr 23 (by omega) (by omega) (by omega) (by omega) (by omega) (by omega)]; omega
theorem Inv_SC {L : Nat} {B : Nat → Int} {t : Nat} {w : Nat × Bool} {I J : Nat → Nat → Int} (h : Inv L B t w I J) : SC I := ⟨h.2.2.1.1, h.2.2.1.2.1, h.2.2.1.2.2.1, h.2.2.2.1.1⟩
theorem Inv_se {L : Nat} {B : Nat → Int} {t : Nat} {w : Nat × Bool} {I J : Nat → Nat → Int} (h : Inv L B t w I J) : seR (I 16) (I 10 6).toNat := h.2.2.1.2.2.2.2.1
/-- what the reference holds, in the class's words -/
def cpl (f : Int → Int → Int → Int → Int) (I I1 : Nat → Nat → Int) : Prop := I1 58 10 = I 10 6 ∧ I1 64 = I 11 ∧ I1 65 = I 12 ∧ I1 66 = I 13 ∧ I1 67 = I 14 ∧ I1 68 = I 15 ∧ I1 69 = I 16 ∧ I1 58 3 = I 4 4 ∧ I1 58 6 = I 4 8 ∧ I1 59 = I 5 ∧ I1 60 = I 6 ∧ I1 61 = I 7 ∧ I1 62 = I 8 ∧ I1 63 = I 9 ∧ I1 58 17 = I 23 3 ∧ I1 58 18 = I 23 4 ∧ I1 58 19 = I 32 2 ∧ Lm f I1 = Lc f I ∧ I1 58 1 = I 4 0 ∧ I1 58 2 = I 4 1
theorem Inv_cp {L : Nat} {B : Nat → Int} {t : Nat} {w : Nat × Bool} {I I1 J : Nat → Nat → Int} (f : Int → Int → Int → Int → Int) (h : Inv L B t w I J) (he : ∀ c, 58 ≤ c → c < 70 → I1 c = I c) : cpl f I I1 := by
  obtain ⟨_, ⟨_, _, _, _, _, _, _, _, _, f1, f2, f3, f4, f5, f6, f7, f8, f9⟩, ⟨_, _, _, _, _, _, s1, s2, s3, s4, s5, s6, s7⟩, ⟨_, _, _, n1, n2, n3⟩, _⟩ := h
  have e58 := he 58 (by omega) (by omega)
  unfold cpl Lm Lc
  rw [e58, he 59 (by omega) (by omega), he 60 (by omega) (by omega), he 61 (by omega) (by omega), he 62 (by omega) (by omega), he 63 (by omega) (by omega), he 64 (by omega) (by omega), he 65 (by omega) (by omega), he 66 (by omega) (by omega), he 67 (by omega) (by omega), he 68 (by omega) (by omega), he 69 (by omega) (by omega)]
  refine ⟨s1, s2, s3, s4, s5, s6, s7, f3, f4, f5, f6, f7, f8, f9, n1, n2, n3, ?_, f1, f2⟩
  rw [f4, f5, f6, f7, f8, f9, n2]
theorem cp_KM {f : Int → Int → Int → Int → Int} {L : Nat} {B : Nat → Int} {t : Nat} {w : Nat × Bool} {I I1 J : Nat → Nat → Int} (h : Inv L B t w I J) (hM : lawM w I f) (he : ∀ c, 58 ≤ c → c < 80 → I1 c = I c) : KM f w I1 ∧ SM I1 := by
  obtain ⟨c1, c2, c3, c4, c5, c6, c7, c8, c9, c10, c11, c12, c13, c14, c15, c16, c17, c18, c19, c20⟩ := Inv_cp f h (fun c a1 a2 => he c a1 (by omega))
  obtain ⟨_, ⟨g1, g2, g3, g4, g5, g6, g7, g8, g9, _⟩, ⟨t1, t2, t3, t4, t5, t6, _⟩, ⟨n1, n2, n3, _⟩, _⟩ := h
  refine ⟨⟨?_, lawM_x hM (by rw [he 58 (by omega) (by omega)]) (agM_e (fun c a1 a2 => he c (by omega) (by omega)))⟩, ?_⟩
  · unfold GM
    rw [c8, c9, c10, c11, c14, c16]
    exact ⟨g3, g4, g5, g6, pos9 g9, n2⟩
  · unfold SM
    rw [c1, c2, c3, c7, c15]
    exact ⟨t1, t2, t3, n1, t5, t6⟩
theorem Stp_ro {L : Nat} {B : Nat → Int} {t : Nat} {w : Nat × Bool} {I I1 I2 J : Nat → Nat → Int} {f : Int → Int → Int → Int → Int} {d y y' : Nat} {as : List mVal} {v : Int} (h : Inv L B t w I J) (hM : lawM w I f) (k1 : semC d y (vr 3 :: as) (mk w I J) = some (some (vi v), mk w I1 J)) (he : eR I I1) (hK : KC f w I1) (m1 : semC d y' (vr 58 :: as) (mk w I1 J) = some (some (vi v), mk w I2 J)) (hq : eQ I1 I2) : StpI L B t w I J d y y' as :=
  ⟨v, w, I1, J, w, I2, J, k1, ⟨h.1.1, by rw [he.1 0 (by omega) (by omega) (by omega) (by omega) (by omega) (by omega)]; exact h.1.2⟩, m1, Inv_ro h (eR_t he hq) (KC_q hK hq) hM⟩
/-- neither changes anything -/
theorem Stp_id {L : Nat} {B : Nat → Int} {t : Nat} {w : Nat × Bool} {I J : Nat → Nat → Int} {d y y' : Nat} {as : List mVal} {v : Int} (h : Inv L B t w I J) (k1 : semC d y (vr 3 :: as) (mk w I J) = some (some (vi v), mk w I J)) (m1 : semC d y' (vr 58 :: as) (mk w I J) = some (some (vi v), mk w I J)) : StpI L B t w I J d y y' as := by
  obtain ⟨f, hK, hM, _⟩ := h.2.2.2.2.2.2.2.2
  exact Stp_ro h hM k1 (eR_r I) hK m1 (fun _ _ => rfl)
theorem eR_58 {I I1 : Nat → Nat → Int} (he : eR I I1) : ∀ c, 58 ≤ c → c < 80 → I1 c = I c := fun c a1 a2 => he.1 c (by omega) (by omega) (by omega) (by omega) (by omega) (by omega)
theorem eR_6 {I I1 : Nat → Nat → Int} (he : eR I I1) : ∀ c, 58 ≤ c → c < 70 → I1 c = I c := fun c a1 a2 => eR_58 he c a1 (by omega)
