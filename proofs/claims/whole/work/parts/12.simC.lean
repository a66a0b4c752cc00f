set_option maxHeartbeats 4000000 in
theorem stepI_le (rt ini : Nat) (lg : Bool) (x : mAux) (i : Instr) (pc : Nat) (L : mLoc) (st : List mVal) (σ : mSg) :
    stepI True (fun _ _ _ σ' => σ.1.1 ≤ σ'.1.1 ∧ σ.1.2.1 ≤ σ'.1.2.1) (fun _ _ _ _ _ σ' => σ.1.1 ≤ σ'.1.1 ∧ σ.1.2.1 ≤ σ'.1.2.1) (fun _ σ' => σ.1.1 ≤ σ'.1.1 ∧ σ.1.2.1 ≤ σ'.1.2.1) rt ini lg x i pc L st σ := by
  have triv : σ.1.1 ≤ σ.1.1 ∧ σ.1.2.1 ≤ σ.1.2.1 := ⟨Nat.le_refl _, Nat.le_refl _⟩
  have k1 : ∀ (d a : Int) (ps : List (Int × Int)), mlkK d a (fun _ : Int => σ.1.1 ≤ σ.1.1 ∧ σ.1.2.1 ≤ σ.1.2.1) ps := by
    intro d a ps
    induction ps with
    | nil => exact triv
    | cons q r ih => unfold mlkK; split; exact triv; exact ih
  have k2 : ∀ (a : Int) (ps : List Int) (lo : Int), mtbK a (σ.1.1 ≤ σ.1.1 ∧ σ.1.2.1 ≤ σ.1.2.1) (fun _ : Int => σ.1.1 ≤ σ.1.1 ∧ σ.1.2.1 ≤ σ.1.2.1) ps lo := by
    intro a ps
    induction ps with
    | nil => intro lo; exact triv
    | cons q r ih => intro lo; unfold mtbK; split; exact triv; exact ih _
  cases i <;> (delta stepI; dsimp only) <;> try (with_reducible exact trivial)
  all_goals (repeat' split)
  all_goals first | with_reducible exact trivial | exact triv | exact k1 _ _ _ | exact k2 _ _ _ | exact ⟨Nat.le_add_right _ _, Nat.le_add_right _ _⟩
theorem run_le : ∀ (n d y pc : Nat) (L : mLoc) (st : List mVal) (σ : mSg) (o : mOut), run n d y pc L st σ = some o → σ.1.1 ≤ o.2.1.1 ∧ σ.1.2.1 ≤ o.2.1.2.1
  | 0, _, _, _, _, _, _, _, h => by simp [run] at h
  | n + 1, d, y, pc, L, st, σ, o, h => by
    unfold run at h
    cases hd : decode (mb y) pc with
    | error e => rw [hd] at h; exact absurd h (by simp)
    | ok q =>
      obtain ⟨i, ln⟩ := q
      rw [hd] at h
      dsimp only at h
      by_cases hc : mchk pc i ln = true
      · rw [if_pos hc] at h
        have hm := stepI_le (mrt y) (mini y) (mlg y) (lkI (mcl y) i) i pc L st σ
        rw [stepI_D] at h hm
        cases hD : stepD (mrt y) (mini y) (mlg y) (lkI (mcl y) i) i pc L st σ with
        | none => rw [hD] at h; exact absurd h (by simp [resF])
        | some r =>
          rw [hD] at h hm
          rcases r with ⟨a, b, c, e⟩ | ⟨a, b, c, e, f, g⟩ | ⟨a, b⟩
          · have h1 := run_le n d y a b c e o h
            have h2 : σ.1.1 ≤ e.1.1 ∧ σ.1.2.1 ≤ e.1.2.1 := hm
            exact ⟨by omega, by omega⟩
          · have h2 : σ.1.1 ≤ g.1.1 ∧ σ.1.2.1 ≤ g.1.2.1 := hm
            cases d with
            | zero => exact absurd h (by simp [resF])
            | succ d' =>
              dsimp only [resF] at h
              by_cases hk : a < 235 ∧ menokN (mnl a) (mlg a) b = true
              · rw [if_pos hk] at h
                obtain ⟨o1, h1, h3⟩ := Option.bind_eq_some_iff.mp h
                have h4 := run_le n d' a 0 _ _ _ o1 h1
                have h5 := run_le n (d' + 1) y c e _ _ o h3
                exact ⟨by omega, by omega⟩
              · rw [if_neg hk] at h
                exact absurd h (by simp)
          · have h2 : σ.1.1 ≤ b.1.1 ∧ σ.1.2.1 ≤ b.1.2.1 := hm
            cases h
            exact h2
      · rw [if_neg hc] at h
        exact absurd h (by simp)
section SZ
variable {ω : mWo} {l : Launch} {p : Program} {e : Env} {R : Room} {s : State} {m : MethodId} {args : Array Value} {below : List Frame} {meth : Method} {c : Code} {n0 cells slots : Nat} {Q : State → Prop} {σ : mSg} {H : Heap} {locs : List Loc} {g : JFrame}
theorem W_size (hz : s.heap.size + 3 = wh ω + n0) (hc : cells + n0 = σ.1.1) (h3 : 3 ≤ n0) (X1 : Hok ω σ H) (X2 : va_S (wA ω) s.heap H locs)
    (kk : H.size + 3 = wh ω + σ.1.1 → W p l e R s m args below meth c H locs cells slots Q g) : W p l e R s m args below meth c H locs cells slots Q g := by
  intro T hT X
  have h1 := X.heapSize
  have h2 := X2.1
  refine kk ?_ T hT X
  rw [hT] at h1
  by_cases e : σ.1.1 = 3
  · omega
  · have h4 := (X1.1 _ _ (wsO_at (ω := ω) (σ := σ) (c := σ.1.1 - 1) (by omega) (by omega))).lt
    simp only at h4
    unfold wad at h4
    rw [if_neg (by omega)] at h4
    omega
end SZ
theorem wsO_new {ω : mWo} {σ : mSg} {t n : Nat} (h3 : 3 ≤ σ.1.1) : wsO ω (nwc σ t n) = wsO ω σ ++ [(wh ω + (σ.1.1 - 3), tent ω (nwc σ t n) σ.1.1 (t, n))] := by
  apply List.ext_getElem?
  intro j
  have hl := @wsO_len ω σ
  by_cases h1 : j < σ.1.1 - 3
  · rw [List.getElem?_append_left (by rw [hl]; exact h1)]
    have a1 := @wsO_at ω σ (j + 3) (by omega) (by omega)
    have a2 := @wsO_at ω (nwc σ t n) (j + 3) (by omega) (by show j + 3 < σ.1.1 + 1; omega)
    rw [show j + 3 - 3 = j by omega] at a1 a2
    rw [a1, a2]
    have e1 : (nwc σ t n).1.2.2.1 (j + 3) = σ.1.2.2.1 (j + 3) := by show (if j + 3 = σ.1.1 then _ else _) = _; rw [if_neg (by omega)]
    rw [e1]
    rw [tent_ext (σ' := nwc σ t n) (σ := σ) (fun k => by show (if j + 3 = σ.1.1 then _ else _) = _; rw [if_neg (by omega)]; rfl) (fun k => by show (if j + 3 = σ.1.1 then _ else _) = _; rw [if_neg (by omega)]; rfl) (fun k => by show (if j + 3 = σ.1.1 then _ else _) = _; rw [if_neg (by omega)]; rfl)]
  · rw [List.getElem?_append_right (by rw [hl]; omega), hl]
    by_cases h2 : j = σ.1.1 - 3
    · subst h2
      rw [Nat.sub_self]
      have a2 := @wsO_at ω (nwc σ t n) σ.1.1 h3 (by show σ.1.1 < σ.1.1 + 1; omega)
      rw [a2]
      have e1 : (nwc σ t n).1.2.2.1 σ.1.1 = (t, n) := by show (if σ.1.1 = σ.1.1 then _ else _) = _; rw [if_pos rfl]
      rw [e1]
      have e2 : wad ω σ.1.1 = wh ω + (σ.1.1 - 3) := by unfold wad; rw [if_neg (by omega)]
      rw [e2]; rfl
    · rw [List.getElem?_eq_none (by rw [wsO_len]; show σ.1.1 + 1 - 3 ≤ j; omega), List.getElem?_eq_none (by simp; omega)]
theorem nwc_I {σ : mSg} {t n c k : Nat} : gI (nwc σ t n) c k = if c = σ.1.1 then 0 else gI σ c k := rfl
theorem nwc_J {σ : mSg} {t n c k : Nat} : gJ (nwc σ t n) c k = if c = σ.1.1 then 0 else gJ σ c k := rfl
theorem nwc_R {σ : mSg} {t n c k : Nat} : gR (nwc σ t n) c k = if c = σ.1.1 then none else gR σ c k := rfl
theorem Sok_nwc {ω : mWo} {σ : mSg} {t n : Nat} (h : Sok ω σ) (ht : t < 13 ∨ (20 ≤ t ∧ t ≤ 24)) (hn : n < 2147483648) : Sok ω (nwc σ t n) := by
  obtain ⟨a, b, d, e, f, g⟩ := h
  refine ⟨by show 3 ≤ σ.1.1 + 1; omega, fun c k => ?_, fun c k => ?_, fun c hc => ⟨?_, fun k hk => ?_⟩, f, fun c h3 hcn => ?_⟩
  · rw [nwc_I]; split
    · exact iR_0
    · exact b c k
  · rw [nwc_J]; split
    · exact ⟨by decide, by decide⟩
    · exact d c k
  · show (if c = σ.1.1 then _ else _) = _
    rw [if_neg (by omega)]; exact (e c hc).1
  · rw [nwc_I, if_neg (by omega)]; exact (e c hc).2 k hk
  · have hcn' : c < σ.1.1 + 1 := hcn
    have e0 : (nwc σ t n).1.2.2.1 c = if c = σ.1.1 then (t, n) else σ.1.2.2.1 c := rfl
    rw [e0]
    by_cases e1 : c = σ.1.1
    · rw [if_pos e1]; exact ⟨ht, hn⟩
    · rw [if_neg e1]; exact g c h3 (by omega)
/-- a new cell laid behind the others -/
theorem Hok_new {ω : mWo} {σ : mSg} {t n : Nat} {H H1 : Heap} (X1 : Hok ω σ H) (hz : H.size + 3 = wh ω + σ.1.1) (ht : t < 13 ∨ (20 ≤ t ∧ t ≤ 24)) (hn : n < 2147483648) (o1 : ∀ q : Nat, q < H.size → H1[q]? = H[q]?) (ha : va_at (wD ω) cl13 (H.size, tent ω (nwc σ t n) σ.1.1 (t, n)) H1) : Hok ω (nwc σ t n) H1 := by
  refine ⟨?_, Sok_nwc X1.2 ht hn⟩
  rw [wsO_new X1.2.1, show wh ω + (σ.1.1 - 3) = H.size by have := X1.2.1; omega]
  refine (X1.1.kept (fun k x hx => o1 x.1 ((X1.1 k x hx).lt))).app (fun k x hx => ?_)
  have hk : k < 1 := (List.getElem?_eq_some_iff.mp hx).1
  rw [show k = 0 by omega] at hx
  cases hx
  exact ha
theorem va_S_new {A : Nat → Prop} {H0 H H1 : Heap} {locs : List Loc} (h : va_S A H0 H locs) (z1 : H1.size = H.size + 1) (o1 : ∀ q : Nat, q < H.size → H1[q]? = H[q]?) : va_S A H0 H1 locs :=
  ⟨Nat.le_trans h.1 (by omega), fun x h1 h2 => (o1 x (Nat.lt_of_lt_of_le h1 h.1)).trans (h.2.1 x h1 h2), h.2.2⟩
def fDefB : FieldType → Bool
  | .int => true
  | .boolean => true
  | t => lkRef t
theorem fDef_all : ∀ ci ∈ List.range 13, ∀ k ∈ List.range (fN ci), fDefB (fTy ci k) = true := by decide +kernel
theorem fDef {t : FieldType} (h : fDefB t = true) : defaultValue t = if lkRef t = true then .null else .int 0 := by
  cases t <;> first | rfl | (simp [fDefB, lkRef] at h; done)
def insQ : List Nat := [401, 368, 325, 104, 352, 204, 292, 427, 243, 155, 272, 96, 1016]
def iniQ : List Nat := [90, 89, 87, 81, 88, 83, 86, 91, 84, 82, 85, 80, 92]
set_option maxRecDepth 100000 in
theorem insQ_ok : ∀ ci ∈ List.range 13, lw_tbl[insQ.getD ci 0]? = some (Cond.instantiable (cnm ci) (fN ci)) ∧ lw_tbl[iniQ.getD ci 0]? = some (Cond.initialized (cnm ci)) := by decide +kernel
theorem ac_int : Cond.arrayClass .int ∈ lw_g := g_of (List.mem_of_getElem? (i := 153) (by decide +kernel)) rfl
theorem ac_long : Cond.arrayClass .long ∈ lw_g := g_of (List.mem_of_getElem? (i := 448) (by decide +kernel)) rfl
theorem ac_byte : Cond.arrayClass .byte ∈ lw_g := g_of (List.mem_of_getElem? (i := 1189) (by decide +kernel)) rfl
theorem ac_short : Cond.arrayClass .short ∈ lw_g := g_of (List.mem_of_getElem? (i := 1190) (by decide +kernel)) rfl
set_option maxRecDepth 100000 in
theorem ow_inst : Cond.instanceMethod objectInit ∈ lw_g := g_of (List.mem_of_getElem? (i := 101) (by decide +kernel)) rfl
set_option maxRecDepth 100000 in
theorem ow_code : Cond.code objectInit ⟨#[0xb1]⟩ 1 none ∈ lw_g := g_of (List.mem_of_getElem? (i := 102) (rfl)) rfl
set_option maxRecDepth 100000 in
theorem mw_abs_st : Cond.static Lib.Math.abs.name ∈ lw_g := g_of (List.mem_of_getElem? (i := 674) (by decide +kernel)) rfl
set_option maxRecDepth 100000 in
theorem mw_abs_code : Cond.code Lib.Math.abs.name Lib.Math.abs.code 1 (some .int) ∈ lw_g := g_of (List.mem_of_getElem? (i := 675) (rfl)) rfl
set_option maxRecDepth 100000 in
theorem mw_max_st : Cond.static Lib.Math.max.name ∈ lw_g := g_of (List.mem_of_getElem? (i := 684) (by decide +kernel)) rfl
set_option maxRecDepth 100000 in
theorem mw_max_code : Cond.code Lib.Math.max.name Lib.Math.max.code 2 (some .int) ∈ lw_g := g_of (List.mem_of_getElem? (i := 685) (rfl)) rfl
set_option maxRecDepth 100000 in
theorem mw_min_st : Cond.static Lib.Math.min.name ∈ lw_g := g_of (List.mem_of_getElem? (i := 681) (by decide +kernel)) rfl
set_option maxRecDepth 100000 in
theorem mw_min_code : Cond.code Lib.Math.min.name Lib.Math.min.code 2 (some .int) ∈ lw_g := g_of (List.mem_of_getElem? (i := 682) (rfl)) rfl
set_option maxRecDepth 100000 in
theorem mw_ini : Cond.initialized "java/lang/Math" ∈ lw_g := g_of (List.mem_of_getElem? (i := 94) (by decide +kernel)) rfl
set_option maxRecDepth 100000 in
theorem sw_st : Cond.static arraycopyName ∈ lw_g := g_of (List.mem_of_getElem? (i := 593) (by decide +kernel)) rfl
set_option maxRecDepth 100000 in
theorem sw_nat : Cond.native arraycopyName ∈ lw_g := g_of (List.mem_of_getElem? (i := 594) (by decide +kernel)) rfl
set_option maxRecDepth 100000 in
theorem sw_ini : Cond.initialized "java/lang/System" ∈ lw_g := g_of (List.mem_of_getElem? (i := 93) (by decide +kernel)) rfl
theorem mcats_eq {ω : mWo} (r : List mVal) : ((r.map (conc ω)).map fun v => v.category).sum = mcats r := by
  unfold mcats
  rw [List.map_map]
  congr 1
  apply List.map_congr_left
  intro v _
  exact conc_cat ω v
theorem fN_all : (List.range 14).all (fun c => decide (fN c < 100)) = true := by decide +kernel
theorem fN_lt (c : Nat) : fN c < 100 := by
  by_cases h : c < 14
  · simpa using List.all_eq_true.mp fN_all c (List.mem_range.mpr h)
  · obtain ⟨j, rfl⟩ := Nat.exists_eq_add_of_le (Nat.not_lt.mp h)
    rw [Nat.add_comm]
    exact (by decide : 0 < 100)
section SIM
variable {ω : mWo} {l : Launch} {n d y pc : Nat} {o : mOut} {p : Program} {e : Env} {R : Room} {s : State} {m : MethodId} {args : Array Value} {below : List Frame} {meth : Method} {c : Code} {n0 s0 cells slots : Nat} {Q : State → Prop} {L : mLoc} {st : List mVal} {σ : mSg} {H : Heap} {locs : List Loc} {ls : Array Slot}
theorem sm_new {k : Nat} (C : Cx ω p R s m args meth c y d) (X : Dy ω s y σ L st H locs ls) (hc : cells + n0 = σ.1.1) (hs : slots + s0 = σ.1.2.1) (go : Go ω l n d y o p e R s m args below meth c n0 s0 Q) (hz : s.heap.size + 3 = wh ω + n0) (h30 : 3 ≤ n0) (hoc : o.2.1.1 ≤ R.cells + n0) (hos : o.2.1.2.1 ≤ R.slots + s0) (hd : decode (mb y) pc = .ok (.new k, 3)) (h : stR n d y (.new k) pc L st σ = some o) : W p l e R s m args below meth c H locs cells slots Q (F0 m pc ls (st.map (conc ω))) := by
  obtain ⟨X1, X2, X3, X4, X5⟩ := X
  obtain ⟨hx, hb, hrt, hml, hown, hts, hlk, hin, hE, hfr, hlo⟩ := C
  delta stR stepI at h; dsimp only at h
  rw [show lkI (mcl y) (.new k) = lk (mcl y) k from rfl] at h
  have hk := lk_ok (mcl y) k
  rcases hx4 : lk (mcl y) k with ⟨x1, x2, x3, x4⟩
  rw [hx4] at h hk
  dsimp only at h hk
  split at h
  · rename_i hcnd
    obtain ⟨rfl, -, h3⟩ := hcnd
    obtain ⟨hw, hsd⟩ := hk (by decide)
    simp only [lkSide, Bool.and_eq_true, decide_eq_true_eq] at hsd
    obtain ⟨h13, rfl⟩ := hsd
    have hle := run_le _ _ _ _ _ _ _ _ h
    have hle1 : σ.1.1 + 1 ≤ o.2.1.1 := hle.1
    have hle2 : σ.1.2.1 + fN x2 ≤ o.2.1.2.1 := hle.2
    have hq := insQ_ok x2 (List.mem_range.mpr h13)
    have hKn := hE.1.1 x2 _ (cl13_at x2 h13)
    refine W_size hz hc h30 X1 X2 (fun hsz => ?_)
    refine W.newcK hx hb hown (hts _ (g_of hw rfl)) (hts _ (g_of (List.mem_of_getElem? hq.1) rfl)) (hts _ (g_of (List.mem_of_getElem? hq.2) rfl)) rfl hd (by omega) (by omega) hKn.2.1 rfl (fun H1 kC hkC e1 z1 o1 => ?_)
    have hfn : fN x2 < 2147483648 := by
      rcases Nat.lt_or_ge (fN x2) 2147483648 with z | z
      · exact z
      · exfalso; have := fN_lt x2; omega
    have hH : Hok ω (nwc σ x2 (fN x2)) H1 := by
      refine Hok_new X1 hsz (Or.inl h13) hfn o1 ?_
      unfold tent
      rw [if_pos h13]
      refine ⟨_, cl13_at x2 h13, (u_born (fTy x2) hts (fW_ok x2 h13) hKn hkC e1 (fTy_ok x2 h13)).to (fun j hj => ?_)⟩
      unfold vp_V
      rw [List.getD_eq_getElem?_getD, fvals_get hj, Option.getD_some]
      unfold fval
      rw [nwc_I, nwc_R, if_pos rfl, fDef (fDef_all x2 (List.mem_range.mpr h13) j (List.mem_range.mpr hj))]
      split
      · rfl
      · rw [if_pos rfl]; rfl
    have e2 : wad ω σ.1.1 = H.size := by unfold wad; rw [if_neg (by omega)]; omega
    rw [← e2]
    exact go _ _ _ _ _ _ _ _ _ h ⟨hH, va_S_new X2 z1 o1, X3, X4, ⟨trivial, X5⟩⟩ (by show cells + 1 + n0 = σ.1.1 + 1; omega) (by show slots + fN x2 + s0 = σ.1.2.1 + fN x2; omega)
  · cases h
theorem sm_newarray {aty : ArrayType} (C : Cx ω p R s m args meth c y d) (X : Dy ω s y σ L st H locs ls) (hc : cells + n0 = σ.1.1) (hs : slots + s0 = σ.1.2.1) (go : Go ω l n d y o p e R s m args below meth c n0 s0 Q) (hz : s.heap.size + 3 = wh ω + n0) (h30 : 3 ≤ n0) (hoc : o.2.1.1 ≤ R.cells + n0) (hos : o.2.1.2.1 ≤ R.slots + s0) (hd : decode (mb y) pc = .ok (.newarray aty, 2)) (h : stR n d y (.newarray aty) pc L st σ = some o) : W p l e R s m args below meth c H locs cells slots Q (F0 m pc ls (st.map (conc ω))) := by
  obtain ⟨X1, X2, X3, X4, X5⟩ := X
  obtain ⟨hx, hb, hrt, hml, hown, hts, hlk, hin, hE, hfr, hlo⟩ := C
  delta stR stepI at h; dsimp only at h
  split at h
  · rename_i a r
    obtain ⟨ha, hr⟩ := X5
    split at h
    · rename_i hcnd
      obtain ⟨ha0, ha1, h3⟩ := hcnd
      split at h
      · have hle := run_le _ _ _ _ _ _ _ _ h
        have hle1 : σ.1.1 + 1 ≤ o.2.1.1 := hle.1
        have hle2 : σ.1.2.1 + a.toNat ≤ o.2.1.2.1 := hle.2
        refine W_size hz hc h30 X1 X2 (fun hsz => ?_)
        refine va_newaK (atype := .int) hx hb (hts _ ac_int) rfl hd rfl (by rw [oi_0, oi_lt ha iR_0]; omega) (oi_nat ha) (by show a.toNat * 4 ≤ 536870912; omega) (by omega) (by omega) rfl (fun H1 cA e1 z1 o1 hAr hNm => ?_)
        have hcA : cA = wC ω 20 := Option.some.inj (hNm.symm.trans (hE.1.2 0 _ rfl).2)
        subst hcA
        have hH : Hok ω (nwc σ 20 a.toNat) H1 := by
          refine Hok_new X1 hsz (Or.inr ⟨by decide, by decide⟩) (by omega) o1 ?_
          unfold tent
          rw [if_neg (show ¬ (20 : Nat) < 13 by decide)]
          show H1[H.size]? = some (vp_cell _ _)
          rw [e1]
          rw [avals_i (show (20 : Nat) < 23 by decide), vp_cell_i]
          congr 2
          funext j
          rw [nwc_I, if_pos rfl]; rfl
        have e2 : wad ω σ.1.1 = H.size := by unfold wad; rw [if_neg (by omega)]; omega
        rw [← e2]
        exact go _ _ _ _ _ _ _ _ _ h ⟨hH, va_S_new X2 z1 o1, X3, X4, ⟨trivial, hr⟩⟩ (by show cells + 1 + n0 = σ.1.1 + 1; omega) (by show slots + a.toNat + s0 = σ.1.2.1 + a.toNat; omega)
      · have hle := run_le _ _ _ _ _ _ _ _ h
        have hle1 : σ.1.1 + 1 ≤ o.2.1.1 := hle.1
        have hle2 : σ.1.2.1 + a.toNat ≤ o.2.1.2.1 := hle.2
        refine W_size hz hc h30 X1 X2 (fun hsz => ?_)
        refine va_newaK (atype := .short) hx hb (hts _ ac_short) rfl hd rfl (by rw [oi_0, oi_lt ha iR_0]; omega) (oi_nat ha) (by show a.toNat * 2 ≤ 536870912; omega) (by omega) (by omega) rfl (fun H1 cA e1 z1 o1 hAr hNm => ?_)
        have hcA : cA = wC ω 21 := Option.some.inj (hNm.symm.trans (hE.1.2 1 _ rfl).2)
        subst hcA
        have hH : Hok ω (nwc σ 21 a.toNat) H1 := by
          refine Hok_new X1 hsz (Or.inr ⟨by decide, by decide⟩) (by omega) o1 ?_
          unfold tent
          rw [if_neg (show ¬ (21 : Nat) < 13 by decide)]
          show H1[H.size]? = some (vp_cell _ _)
          rw [e1]
          rw [avals_i (show (21 : Nat) < 23 by decide), vp_cell_i]
          congr 2
          funext j
          rw [nwc_I, if_pos rfl]; rfl
        have e2 : wad ω σ.1.1 = H.size := by unfold wad; rw [if_neg (by omega)]; omega
        rw [← e2]
        exact go _ _ _ _ _ _ _ _ _ h ⟨hH, va_S_new X2 z1 o1, X3, X4, ⟨trivial, hr⟩⟩ (by show cells + 1 + n0 = σ.1.1 + 1; omega) (by show slots + a.toNat + s0 = σ.1.2.1 + a.toNat; omega)
      · have hle := run_le _ _ _ _ _ _ _ _ h
        have hle1 : σ.1.1 + 1 ≤ o.2.1.1 := hle.1
        have hle2 : σ.1.2.1 + a.toNat ≤ o.2.1.2.1 := hle.2
        refine W_size hz hc h30 X1 X2 (fun hsz => ?_)
        refine va_newaK (atype := .byte) hx hb (hts _ ac_byte) rfl hd rfl (by rw [oi_0, oi_lt ha iR_0]; omega) (oi_nat ha) (by show a.toNat * 1 ≤ 536870912; omega) (by omega) (by omega) rfl (fun H1 cA e1 z1 o1 hAr hNm => ?_)
        have hcA : cA = wC ω 22 := Option.some.inj (hNm.symm.trans (hE.1.2 2 _ rfl).2)
        subst hcA
        have hH : Hok ω (nwc σ 22 a.toNat) H1 := by
          refine Hok_new X1 hsz (Or.inr ⟨by decide, by decide⟩) (by omega) o1 ?_
          unfold tent
          rw [if_neg (show ¬ (22 : Nat) < 13 by decide)]
          show H1[H.size]? = some (vp_cell _ _)
          rw [e1]
          rw [avals_i (show (22 : Nat) < 23 by decide), vp_cell_i]
          congr 2
          funext j
          rw [nwc_I, if_pos rfl]; rfl
        have e2 : wad ω σ.1.1 = H.size := by unfold wad; rw [if_neg (by omega)]; omega
        rw [← e2]
        exact go _ _ _ _ _ _ _ _ _ h ⟨hH, va_S_new X2 z1 o1, X3, X4, ⟨trivial, hr⟩⟩ (by show cells + 1 + n0 = σ.1.1 + 1; omega) (by show slots + a.toNat + s0 = σ.1.2.1 + a.toNat; omega)
      · have hle := run_le _ _ _ _ _ _ _ _ h
        have hle1 : σ.1.1 + 1 ≤ o.2.1.1 := hle.1
        have hle2 : σ.1.2.1 + a.toNat ≤ o.2.1.2.1 := hle.2
        refine W_size hz hc h30 X1 X2 (fun hsz => ?_)
        refine va_newaK (atype := .long) hx hb (hts _ ac_long) rfl hd rfl (by rw [oi_0, oi_lt ha iR_0]; omega) (oi_nat ha) (by show a.toNat * 8 ≤ 536870912; omega) (by omega) (by omega) rfl (fun H1 cA e1 z1 o1 hAr hNm => ?_)
        have hcA : cA = wC ω 23 := Option.some.inj (hNm.symm.trans (hE.1.2 3 _ rfl).2)
        subst hcA
        have hH : Hok ω (nwc σ 23 a.toNat) H1 := by
          refine Hok_new X1 hsz (Or.inr ⟨by decide, by decide⟩) (by omega) o1 ?_
          unfold tent
          rw [if_neg (show ¬ (23 : Nat) < 13 by decide)]
          show H1[H.size]? = some (vp_cell _ _)
          rw [e1]
          rw [avals_l, vp_cell_l]
          congr 2
          funext j
          rw [nwc_J, if_pos rfl]; rfl
        have e2 : wad ω σ.1.1 = H.size := by unfold wad; rw [if_neg (by omega)]; omega
        rw [← e2]
        exact go _ _ _ _ _ _ _ _ _ h ⟨hH, va_S_new X2 z1 o1, X3, X4, ⟨trivial, hr⟩⟩ (by show cells + 1 + n0 = σ.1.1 + 1; omega) (by show slots + a.toNat + s0 = σ.1.2.1 + a.toNat; omega)
      · cases h
    · cases h
  · cases h
theorem sm_anewarray {k : Nat} (C : Cx ω p R s m args meth c y d) (X : Dy ω s y σ L st H locs ls) (hc : cells + n0 = σ.1.1) (hs : slots + s0 = σ.1.2.1) (go : Go ω l n d y o p e R s m args below meth c n0 s0 Q) (hz : s.heap.size + 3 = wh ω + n0) (h30 : 3 ≤ n0) (hoc : o.2.1.1 ≤ R.cells + n0) (hos : o.2.1.2.1 ≤ R.slots + s0) (hd : decode (mb y) pc = .ok (.anewarray k, 3)) (h : stR n d y (.anewarray k) pc L st σ = some o) : W p l e R s m args below meth c H locs cells slots Q (F0 m pc ls (st.map (conc ω))) := by
  obtain ⟨X1, X2, X3, X4, X5⟩ := X
  obtain ⟨hx, hb, hrt, hml, hown, hts, hlk, hin, hE, hfr, hlo⟩ := C
  delta stR stepI at h; dsimp only at h
  rw [show lkI (mcl y) (.anewarray k) = lk (mcl y) k from rfl] at h
  have hk := lk_ok (mcl y) k
  rcases hx4 : lk (mcl y) k with ⟨x1, x2, x3, x4⟩
  rw [hx4] at h hk
  dsimp only at h hk
  split at h
  · rename_i a r
    obtain ⟨ha, hr⟩ := X5
    split at h
    · rename_i hcnd
      obtain ⟨rfl, rfl, ha0, ha1, h3⟩ := hcnd
      obtain ⟨hw, hsd⟩ := hk (by decide)
      have hle := run_le _ _ _ _ _ _ _ _ h
      have hle1 : σ.1.1 + 1 ≤ o.2.1.1 := hle.1
      have hle2 : σ.1.2.1 + a.toNat ≤ o.2.1.2.1 := hle.2
      refine W_size hz hc h30 X1 X2 (fun hsz => ?_)
      refine W.anew hx hb hown (hts _ (g_of hw rfl)) (va_AO.use hE.2.2.2.2.2.2) rfl hd rfl (by rw [oi_0, oi_lt ha iR_0]; omega) (by rw [oi_nat ha]; omega) (by omega) (by rw [oi_nat ha]; omega) (fun cA kA comp f1 f2 f3 f4 => ?_)
      rw [oi_nat ha]
      generalize hH1 : H.push ({ cls := cA, slots := Array.replicate a.toNat .null, vm := .none } : Cell) = H1
      have z1 : H1.size = H.size + 1 := by rw [← hH1, Array.size_push]
      have e1 : H1[H.size]? = some (arrV cA a.toNat (fun _ => .null)) := by rw [← hH1, Array.getElem?_push_size, ← arrV_new]
      have o1 : ∀ q : Nat, q < H.size → H1[q]? = H[q]? := fun q hq => by rw [← hH1, Array.getElem?_push, if_neg (Nat.ne_of_lt hq)]
      have hcA : cA = wC ω 24 := by
        obtain ⟨_, _, _, _, _, g1⟩ := (hE.1.2 4 _ rfl).2
        exact Option.some.inj (f1.symm.trans g1)
      subst hcA
      have hH : Hok ω (nwc σ 24 a.toNat) H1 := by
        refine Hok_new X1 hsz (Or.inr ⟨by decide, by decide⟩) (by omega) o1 ?_
        unfold tent
        rw [if_neg (show ¬ (24 : Nat) < 13 by decide)]
        show H1[H.size]? = some (vp_cell _ _)
        rw [e1]
        rw [avals_q, vp_cell_q]
        congr 2
        funext j
        rw [nwc_R, if_pos rfl]; rfl
      have e2 : wad ω σ.1.1 = H.size := by unfold wad; rw [if_neg (by omega)]; omega
      rw [← e2]
      exact go _ _ _ _ _ _ _ _ _ h ⟨hH, va_S_new X2 z1 o1, X3, X4, ⟨trivial, hr⟩⟩ (by show cells + 1 + n0 = σ.1.1 + 1; omega) (by show slots + a.toNat + s0 = σ.1.2.1 + a.toNat; omega)
    · cases h
  · cases h
end SIM
