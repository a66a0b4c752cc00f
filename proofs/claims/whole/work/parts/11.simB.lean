theorem fvals_get {ω : mWo} {σ : mSg} {c ci k : Nat} (hk : k < fN ci) : (fvals ω σ c ci)[k]? = some (fval ω σ c k (fTy ci k)) := by
  unfold fvals
  rw [List.getElem?_map, List.getElem?_range hk]; rfl
theorem fvals_len {ω : mWo} {σ : mSg} {c ci : Nat} : (fvals ω σ c ci).length = fN ci := by unfold fvals; simp
theorem fvals_sI {ω : mWo} {σ : mSg} {c ci k : Nat} {v : Int} (hk : k < fN ci) (ht : lkRef (fTy ci k) = false) : fvals ω (sI σ c k v) c ci = (fvals ω σ c ci).set k (.int (oi v)) := by
  apply List.ext_getElem?
  intro j
  by_cases hj : j < fN ci
  · by_cases e : j = k
    · subst e
      rw [fvals_get hj, List.getElem?_set_self (by rw [fvals_len]; exact hj)]
      unfold fval
      simp [ht, gI_sI]
    · rw [fvals_get hj, List.getElem?_set_ne (fun z => e z.symm), fvals_get hj]
      unfold fval
      simp [gI_sI, gR_sI, e]
  · rw [List.getElem?_eq_none (by rw [fvals_len]; omega), List.getElem?_eq_none (by rw [List.length_set, fvals_len]; omega)]
theorem fvals_sR {ω : mWo} {σ : mSg} {c ci k v : Nat} (hk : k < fN ci) (ht : lkRef (fTy ci k) = true) : fvals ω (sR σ c k v) c ci = (fvals ω σ c ci).set k (.ref (wad ω v)) := by
  apply List.ext_getElem?
  intro j
  by_cases hj : j < fN ci
  · by_cases e : j = k
    · subst e
      rw [fvals_get hj, List.getElem?_set_self (by rw [fvals_len]; exact hj)]
      unfold fval
      simp [ht, gR_sR, va_rf]
    · rw [fvals_get hj, List.getElem?_set_ne (fun z => e z.symm), fvals_get hj]
      unfold fval
      simp [gI_sR, gR_sR, e]
  · rw [List.getElem?_eq_none (by rw [fvals_len]; omega), List.getElem?_eq_none (by rw [List.length_set, fvals_len]; omega)]
theorem mtg_of {σ : mSg} {c : Nat} (hn : c < σ.1.1) : mtg σ c = σ.1.2.2.1 c := by unfold mtg; rw [if_pos hn]
theorem Hok_fI {ω : mWo} {σ : mSg} {c ci k : Nat} {v : Int} {H1 : Heap} (hO : Sok ω σ) (h3 : 3 ≤ c) (hn : c < σ.1.1) (hT : (mtg σ c).1 = ci) (h13 : ci < 13) (hk : k < fN ci) (ht : lkRef (fTy ci k) = false) (hv : iR v)
    (hP : va_P (wD ω) cl13 ((wsO ω σ).set (c - 3) (wad ω c, .inr (ci, (fvals ω σ c ci).set k (.int (oi v))))) H1) : Hok ω (sI σ c k v) H1 := by
  refine ⟨?_, Sok_sI hO h3 hv⟩
  rw [mtg_of hn] at hT
  rw [wsO_set (σ' := sI σ c k v) h3 hn rfl rfl ?_ (fun c' hc' => tent_ext (fun j => by rw [gI_sI, if_neg (fun z => hc' z.1)]) (fun j => rfl) (fun j => rfl))] at hP
  · exact hP
  · unfold tent
    rw [if_pos (by rw [hT]; exact h13), hT, fvals_sI hk ht]
theorem Hok_fR {ω : mWo} {σ : mSg} {c ci k v : Nat} {H1 : Heap} (hO : Sok ω σ) (h3 : 3 ≤ c) (hn : c < σ.1.1) (hT : (mtg σ c).1 = ci) (h13 : ci < 13) (hk : k < fN ci) (ht : lkRef (fTy ci k) = true)
    (hP : va_P (wD ω) cl13 ((wsO ω σ).set (c - 3) (wad ω c, .inr (ci, (fvals ω σ c ci).set k (.ref (wad ω v))))) H1) : Hok ω (sR σ c k v) H1 := by
  refine ⟨?_, Sok_sR hO⟩
  rw [mtg_of hn] at hT
  rw [wsO_set (σ' := sR σ c k v) h3 hn rfl rfl ?_ (fun c' hc' => tent_ext (fun j => rfl) (fun j => rfl) (fun j => by rw [gR_sR, if_neg (fun z => hc' z.1)]))] at hP
  · exact hP
  · unfold tent
    rw [if_pos (by rw [hT]; exact h13), hT, fvals_sR hk ht]
theorem avals_i {ω : mWo} {σ : mSg} {c t : Nat} (h : t < 23) : avals ω σ c t = .inl (fun k => oi (gI σ c k)) := by unfold avals; rw [if_neg (by omega), if_neg (by omega)]
theorem avals_l {ω : mWo} {σ : mSg} {c : Nat} : avals ω σ c 23 = .inr (.inl (fun k => ol (gJ σ c k))) := rfl
theorem avals_q {ω : mWo} {σ : mSg} {c : Nat} : avals ω σ c 24 = .inr (.inr (.inr (.inr (fun k => (gR σ c k).map (wad ω))))) := rfl
theorem Hok_aI {ω : mWo} {σ : mSg} {c t k : Nat} {v : Int} {H1 : Heap} (hO : Sok ω σ) (h3 : 3 ≤ c) (hn : c < σ.1.1) (hT : (mtg σ c).1 = t) (ht : 20 ≤ t ∧ t < 23) (hv : iR v)
    (hP : va_P (wD ω) cl13 ((wsO ω σ).set (c - 3) (wad ω c, .inl (wC ω t, (mtg σ c).2, .inl (upd (fun j => oi (gI σ c j)) k (oi v))))) H1) : Hok ω (sI σ c k v) H1 := by
  refine ⟨?_, Sok_sI hO h3 hv⟩
  rw [mtg_of hn] at hT hP
  rw [wsO_set (σ' := sI σ c k v) h3 hn rfl rfl ?_ (fun c' hc' => tent_ext (fun j => by rw [gI_sI, if_neg (fun z => hc' z.1)]) (fun j => rfl) (fun j => rfl))] at hP
  · exact hP
  · unfold tent
    rw [if_neg (by omega), hT, avals_i ht.2]
    congr 3
    congr 1
    funext j
    rw [gI_sI]
    unfold upd
    by_cases e : j = k
    · rw [if_pos e, if_pos ⟨rfl, e⟩]
    · rw [if_neg e, if_neg (fun z => e z.2)]
theorem Hok_aJ {ω : mWo} {σ : mSg} {c k : Nat} {v : Int} {H1 : Heap} (hO : Sok ω σ) (h3 : 3 ≤ c) (hn : c < σ.1.1) (hT : (mtg σ c).1 = 23) (hv : jR v)
    (hP : va_P (wD ω) cl13 ((wsO ω σ).set (c - 3) (wad ω c, .inl (wC ω 23, (mtg σ c).2, .inr (.inl (vp_updL (fun j => ol (gJ σ c j)) k (ol v)))))) H1) : Hok ω (sJ σ c k v) H1 := by
  refine ⟨?_, Sok_sJ hO hv⟩
  rw [mtg_of hn] at hT hP
  rw [wsO_set (σ' := sJ σ c k v) h3 hn rfl rfl ?_ (fun c' hc' => tent_ext (fun j => rfl) (fun j => by rw [gJ_sJ, if_neg (fun z => hc' z.1)]) (fun j => rfl))] at hP
  · exact hP
  · unfold tent
    rw [if_neg (by omega), hT, avals_l]
    congr 3
    congr 2
    funext j
    rw [gJ_sJ]
    unfold vp_updL
    by_cases e : j = k
    · rw [if_pos e, if_pos ⟨rfl, e⟩]
    · rw [if_neg e, if_neg (fun z => e z.2)]
theorem Hok_aR {ω : mWo} {σ : mSg} {c k v : Nat} {H1 : Heap} (hO : Sok ω σ) (h3 : 3 ≤ c) (hn : c < σ.1.1) (hT : (mtg σ c).1 = 24)
    (hP : va_P (wD ω) cl13 ((wsO ω σ).set (c - 3) (wad ω c, .inl (wC ω 24, (mtg σ c).2, .inr (.inr (.inr (.inr (va_up (fun j => (gR σ c j).map (wad ω)) k (some (wad ω v))))))))) H1) : Hok ω (sR σ c k v) H1 := by
  refine ⟨?_, Sok_sR hO⟩
  rw [mtg_of hn] at hT hP
  rw [wsO_set (σ' := sR σ c k v) h3 hn rfl rfl ?_ (fun c' hc' => tent_ext (fun j => rfl) (fun j => rfl) (fun j => by rw [gR_sR, if_neg (fun z => hc' z.1)]))] at hP
  · exact hP
  · unfold tent
    rw [if_neg (by omega), hT, avals_q]
    congr 3
    congr 5
    funext j
    rw [gR_sR]
    unfold va_up
    by_cases e : j = k
    · rw [if_pos e, if_pos ⟨rfl, e⟩]; rfl
    · rw [if_neg e, if_neg (fun z => e z.2)]
theorem Hok_cI {ω : mWo} {σ : mSg} {c0 c1 sp dp n : Nat} {H1 : Heap} (hO : Sok ω σ) (h3 : 3 ≤ c1) (hn : c1 < σ.1.1) (hT : (mtg σ c1).1 = 20)
    (hP : va_P (wD ω) cl13 ((wsO ω σ).set (c1 - 3) (wad ω c1, .inl (wC ω 20, (mtg σ c1).2, .inl (va_cpy (fun j => oi (gI σ c0 j)) (fun j => oi (gI σ c1 j)) sp dp n)))) H1) : Hok ω (cpI σ c0 c1 sp dp n) H1 := by
  refine ⟨?_, Sok_cpI hO h3⟩
  rw [mtg_of hn] at hT hP
  rw [wsO_set (σ' := cpI σ c0 c1 sp dp n) h3 hn rfl rfl ?_ (fun c' hc' => tent_ext (fun j => by rw [cpI_g, if_neg (fun z => hc' z.1)]) (fun j => rfl) (fun j => rfl))] at hP
  · exact hP
  · unfold tent
    rw [if_neg (by omega), hT, avals_i (by decide)]
    congr 3
    congr 1
    funext j
    rw [cpI_g]
    unfold va_cpy
    by_cases e : dp ≤ j ∧ j < dp + n
    · rw [if_pos e, if_pos ⟨rfl, e⟩]
    · rw [if_neg e, if_neg (fun z => e z.2)]
theorem Hok_cJ {ω : mWo} {σ : mSg} {c0 c1 sp dp n : Nat} {H1 : Heap} (hO : Sok ω σ) (h3 : 3 ≤ c1) (hn : c1 < σ.1.1) (hT : (mtg σ c1).1 = 23)
    (hP : va_P (wD ω) cl13 ((wsO ω σ).set (c1 - 3) (wad ω c1, .inl (wC ω 23, (mtg σ c1).2, .inr (.inl (va_cpy (fun j => ol (gJ σ c0 j)) (fun j => ol (gJ σ c1 j)) sp dp n))))) H1) : Hok ω (cpJ σ c0 c1 sp dp n) H1 := by
  refine ⟨?_, Sok_cpJ hO⟩
  rw [mtg_of hn] at hT hP
  rw [wsO_set (σ' := cpJ σ c0 c1 sp dp n) h3 hn rfl rfl ?_ (fun c' hc' => tent_ext (fun j => rfl) (fun j => by rw [cpJ_g, if_neg (fun z => hc' z.1)]) (fun j => rfl))] at hP
  · exact hP
  · unfold tent
    rw [if_neg (by omega), hT, avals_l]
    congr 3
    congr 2
    funext j
    rw [cpJ_g]
    unfold va_cpy
    by_cases e : dp ≤ j ∧ j < dp + n
    · rw [if_pos e, if_pos ⟨rfl, e⟩]
    · rw [if_neg e, if_neg (fun z => e z.2)]
theorem ty5_at {ω : mWo} : ∀ t, 20 ≤ t → t ≤ 24 → ∃ ty, (tys5 ω)[t - 20]? = some (wC ω t, ty) := by
  intro t h1 h2
  rcases (by omega : t = 20 ∨ t = 21 ∨ t = 22 ∨ t = 23 ∨ t = 24) with rfl | rfl | rfl | rfl | rfl <;> exact ⟨_, rfl⟩
theorem len_R {ω : mWo} {σ : mSg} {c : Nat} (hO : Sok ω σ) (hn : (mtg σ c).1 ≠ 99) : (mtg σ c).2 < 2147483648 := by
  unfold mtg at hn ⊢
  by_cases h : c < σ.1.1
  · rw [if_pos h]
    rcases Nat.lt_or_ge c 3 with h3 | h3
    · rw [(hO.2.2.2.1 c h3).1]; exact hO.2.2.2.2.1 c h3
    · exact (hO.2.2.2.2.2 c h3 h).2
  · rw [if_neg h] at hn; exact absurd rfl hn
theorem mini_cl_all : (List.range 236).all (fun y => mini y == 0 || mini y == mcl y + 1) = true := by decide +kernel
theorem mini_cl {y : Nat} (h : mini y ≠ 0) : mini y = mcl y + 1 := by
  by_cases hy : y < 236
  · have := List.all_eq_true.mp mini_cl_all y (List.mem_range.mpr hy)
    simp only [Bool.or_eq_true, beq_iff_eq] at this
    exact this.resolve_left h
  · have e : mI y = (⟨"", "", ""⟩, ⟨#[]⟩, 0, none, 99, 9, 0, false) := by
      unfold mI
      have : mT.length = 236 := by decide +kernel
      rw [List.getD_eq_getElem?_getD, List.getElem?_eq_none (by omega)]; rfl
    exfalso; apply h; unfold mini; rw [e]
section SIM
variable {ω : mWo} {l : Launch} {n d y pc : Nat} {o : mOut} {p : Program} {e : Env} {R : Room} {s : State} {m : MethodId} {args : Array Value} {below : List Frame} {meth : Method} {c : Code} {n0 s0 cells slots : Nat} {Q : State → Prop} {L : mLoc} {st : List mVal} {σ : mSg} {H : Heap} {locs : List Loc} {ls : Array Slot}
theorem sm_getfield {k : Nat} (C : Cx ω p R s m args meth c y d) (X : Dy ω s y σ L st H locs ls) (hc : cells + n0 = σ.1.1) (hs : slots + s0 = σ.1.2.1) (go : Go ω l n d y o p e R s m args below meth c n0 s0 Q) (hd : decode (mb y) pc = .ok (.getfield k, 3)) (h : stR n d y (.getfield k) pc L st σ = some o) : W p l e R s m args below meth c H locs cells slots Q (F0 m pc ls (st.map (conc ω))) := by
  obtain ⟨X1, X2, X3, X4, X5⟩ := X
  obtain ⟨hx, hb, hrt, hml, hown, hts, hlk, hin, hE, hfr, hlo⟩ := C
  delta stR stepI at h; dsimp only at h
  rw [show lkI (mcl y) (.getfield k) = lk (mcl y) k from rfl] at h
  have hk := lk_ok (mcl y) k
  rcases hx4 : lk (mcl y) k with ⟨x1, x2, x3, x4⟩
  rw [hx4] at h hk
  dsimp only at h hk
  split at h
  · rename_i q r
    obtain ⟨-, hr⟩ := X5
    split at h
    · rename_i hT
      split at h
      · obtain ⟨hw, hsd⟩ := hk (by decide)
        simp only [lkSide, Bool.and_eq_true, decide_eq_true_eq] at hsd
        obtain ⟨⟨⟨⟨h13, hkN⟩, hty⟩, hfin⟩, hcn⟩ := hsd
        obtain ⟨h3, hn, hat⟩ := obj_at X1.2 hT h13
        refine va_get (D := wD ω) (cl := cl13) (tys := tys5 ω) (C := cnm x2) (T := fT x2) (N := fN x2) hx hb hts (fW_ok x2 h13) hown hE.1 X1.1 (q - 3) hat (cl13_at x2 h13) x3 hkN (hts _ (g_of hw rfl)) (fun _ h9 => h9) (v := .int (oi (gI σ q x3))) (by rw [fvals_get hkN]; unfold fval; rw [hty]; rfl) hd ?_
        exact go _ _ _ _ _ _ _ _ _ h ⟨X1, X2, X3, X4, ⟨X1.2.2.1 _ _, hr⟩⟩ hc hs
      · obtain ⟨hw, hsd⟩ := hk (by decide)
        simp only [lkSide, Bool.and_eq_true, decide_eq_true_eq] at hsd
        obtain ⟨⟨⟨⟨h13, hkN⟩, hty⟩, hfin⟩, hcn⟩ := hsd
        obtain ⟨h3, hn, hat⟩ := obj_at X1.2 hT h13
        refine va_get (D := wD ω) (cl := cl13) (tys := tys5 ω) (C := cnm x2) (T := fT x2) (N := fN x2) hx hb hts (fW_ok x2 h13) hown hE.1 X1.1 (q - 3) hat (cl13_at x2 h13) x3 hkN (hts _ (g_of hw rfl)) (fun _ h9 => h9) (v := .int (oi (gI σ q x3))) (by rw [fvals_get hkN]; unfold fval; rw [hty]; rfl) hd ?_
        exact go _ _ _ _ _ _ _ _ _ h ⟨X1, X2, X3, X4, ⟨X1.2.2.1 _ _, hr⟩⟩ hc hs
      · obtain ⟨hw, hsd⟩ := hk (by decide)
        simp only [lkSide, Bool.and_eq_true, decide_eq_true_eq] at hsd
        obtain ⟨⟨⟨⟨h13, hkN⟩, hty⟩, hfin⟩, hcn⟩ := hsd
        obtain ⟨h3, hn, hat⟩ := obj_at X1.2 hT h13
        split at h
        · rename_i z hz
          refine va_get (D := wD ω) (cl := cl13) (tys := tys5 ω) (C := cnm x2) (T := fT x2) (N := fN x2) hx hb hts (fW_ok x2 h13) hown hE.1 X1.1 (q - 3) hat (cl13_at x2 h13) x3 hkN (hts _ (g_of hw rfl)) (fun _ h9 => h9) (v := .ref (wad ω z)) (by rw [fvals_get hkN]; unfold fval; rw [if_pos hty, hz]; rfl) hd ?_
          exact go _ _ _ _ _ _ _ _ _ h ⟨X1, X2, X3, X4, ⟨trivial, hr⟩⟩ hc hs
        · cases h
      · cases h
    · cases h
  · cases h
theorem sm_putfield {k : Nat} (C : Cx ω p R s m args meth c y d) (X : Dy ω s y σ L st H locs ls) (hc : cells + n0 = σ.1.1) (hs : slots + s0 = σ.1.2.1) (go : Go ω l n d y o p e R s m args below meth c n0 s0 Q) (hd : decode (mb y) pc = .ok (.putfield k, 3)) (h : stR n d y (.putfield k) pc L st σ = some o) : W p l e R s m args below meth c H locs cells slots Q (F0 m pc ls (st.map (conc ω))) := by
  obtain ⟨X1, X2, X3, X4, X5⟩ := X
  obtain ⟨hx, hb, hrt, hml, hown, hts, hlk, hin, hE, hfr, hlo⟩ := C
  delta stR stepI at h; dsimp only at h
  rw [show lkI (mcl y) (.putfield k) = lk (mcl y) k from rfl] at h
  have hk := lk_ok (mcl y) k
  rcases hx4 : lk (mcl y) k with ⟨x1, x2, x3, x4⟩
  rw [hx4] at h hk
  dsimp only at h hk
  split at h
  · rename_i a q r
    obtain ⟨ha, -, hr⟩ := X5
    split at h
    · rename_i hT'
      obtain ⟨hT, -⟩ := hT'
      split at h
      · split at h
        · rename_i hz
          obtain ⟨hw, hsd⟩ := hk (by decide)
          simp only [lkSide, Bool.and_eq_true, decide_eq_true_eq] at hsd
          obtain ⟨⟨⟨⟨h13, hkN⟩, hty⟩, hfin⟩, hcn⟩ := hsd
          obtain ⟨h3, hn, hat⟩ := obj_at X1.2 hT h13
          refine va_put (D := wD ω) (cl := cl13) (tys := tys5 ω) (C := cnm x2) (T := fT x2) (N := fN x2) (v := .int (oi a)) (ty := .int) hx hb hts (fW_ok x2 h13) (fTy x2) (fTy_ok x2 h13) (fNm_ok x2 h13) hown hE.1 X1.1 wsO_D X2 (q - 3) hat (cl13_at x2 h13) x3 hkN (hts _ (g_of hw rfl)) (fun _ h9 => h9) (by rw [hfin]; rw [hz]; rfl) (by rw [fTy_ok x2 h13 x3 hkN, hty]) rfl rfl (by rw [fvals_len]; exact hkN) hd (fun H1 locs1 hP1 hD1 hS1 => ?_)
          exact go _ _ _ _ _ _ _ _ _ h ⟨Hok_fI X1.2 h3 hn hT h13 hkN (by rw [hty]; rfl) ha hP1, hS1, X3, X4, hr⟩ hc hs
        · cases h
      · split at h
        · rename_i hz
          obtain ⟨hw, hsd⟩ := hk (by decide)
          simp only [lkSide, Bool.and_eq_true, decide_eq_true_eq] at hsd
          obtain ⟨⟨⟨⟨h13, hkN⟩, hty⟩, hfin⟩, hcn⟩ := hsd
          obtain ⟨h3, hn, hat⟩ := obj_at X1.2 hT h13
          refine va_put (D := wD ω) (cl := cl13) (tys := tys5 ω) (C := cnm x2) (T := fT x2) (N := fN x2) (v := .int (oi a)) (ty := .boolean) hx hb hts (fW_ok x2 h13) (fTy x2) (fTy_ok x2 h13) (fNm_ok x2 h13) hown hE.1 X1.1 wsO_D X2 (q - 3) hat (cl13_at x2 h13) x3 hkN (hts _ (g_of hw rfl)) (fun _ h9 => h9) (by rw [hfin]; rw [hz.1]; rfl) (by rw [fTy_ok x2 h13 x3 hkN, hty]) (by rcases hz.2 with rfl | rfl <;> rfl) (by rcases hz.2 with rfl | rfl <;> rfl) (by rw [fvals_len]; exact hkN) hd (fun H1 locs1 hP1 hD1 hS1 => ?_)
          exact go _ _ _ _ _ _ _ _ _ h ⟨Hok_fI X1.2 h3 hn hT h13 hkN (by rw [hty]; rfl) ha hP1, hS1, X3, X4, hr⟩ hc hs
        · cases h
      · cases h
    · cases h
  · rename_i z q r
    obtain ⟨-, -, hr⟩ := X5
    split at h
    · rename_i hT'
      obtain ⟨hT, -⟩ := hT'
      split at h
      · split at h
        · rename_i hz
          obtain ⟨hw, hsd⟩ := hk (by decide)
          simp only [lkSide, Bool.and_eq_true, decide_eq_true_eq] at hsd
          obtain ⟨⟨⟨⟨h13, hkN⟩, hty⟩, hfin⟩, hcn⟩ := hsd
          obtain ⟨h3, hn, hat⟩ := obj_at X1.2 hT h13
          have hnf : ∀ ty : FieldType, lkRef ty = true → narrow ty (.ref (wad ω z)) = .ref (wad ω z) ∧ fits ty (.ref (wad ω z)) = true := by
            intro ty ht
            cases ty <;> first | (cases ht; done) | exact ⟨rfl, rfl⟩
          by_cases e4 : x4 = 1
          · have hi : mini y = x2 + 1 := by
              rcases hz with z1 | z1
              · omega
              · exact z1
            have ho : cnm x2 = cnm (mcl y) := by rw [mini_cl (by omega : mini y ≠ 0)] at hi; rw [Nat.succ.inj hi]
            refine va_putF (D := wD ω) (cl := cl13) (tys := tys5 ω) (C := cnm x2) (T := fT x2) (N := fN x2) (v := .ref (wad ω z)) (ty := fTy x2 x3) hx hb hts (fW_ok x2 h13) (fTy x2) (fTy_ok x2 h13) (fNm_ok x2 h13) hown hE.1 X1.1 wsO_D X2 (q - 3) hat (cl13_at x2 h13) x3 hkN (hts _ (g_of hw rfl)) (fun _ h9 => h9) (by rw [hfin, e4]; rfl) (hin (by omega)) (by rw [hcn, ho]) (fTy_ok x2 h13 x3 hkN) (hnf _ hty).1 (hnf _ hty).2 (by rw [fvals_len]; exact hkN) hd (fun H1 locs1 hP1 hD1 hS1 => ?_)
            exact go _ _ _ _ _ _ _ _ _ h ⟨Hok_fR X1.2 h3 hn hT h13 hkN hty hP1, hS1, X3, X4, hr⟩ hc hs
          · refine va_put (D := wD ω) (cl := cl13) (tys := tys5 ω) (C := cnm x2) (T := fT x2) (N := fN x2) (v := .ref (wad ω z)) (ty := fTy x2 x3) hx hb hts (fW_ok x2 h13) (fTy x2) (fTy_ok x2 h13) (fNm_ok x2 h13) hown hE.1 X1.1 wsO_D X2 (q - 3) hat (cl13_at x2 h13) x3 hkN (hts _ (g_of hw rfl)) (fun _ h9 => h9) (by rw [hfin]; simpa using e4) (fTy_ok x2 h13 x3 hkN) (hnf _ hty).1 (hnf _ hty).2 (by rw [fvals_len]; exact hkN) hd (fun H1 locs1 hP1 hD1 hS1 => ?_)
            exact go _ _ _ _ _ _ _ _ _ h ⟨Hok_fR X1.2 h3 hn hT h13 hkN hty hP1, hS1, X3, X4, hr⟩ hc hs
        · cases h
      · cases h
    · cases h
  · cases h
theorem sm_getstatic {k : Nat} (C : Cx ω p R s m args meth c y d) (X : Dy ω s y σ L st H locs ls) (hc : cells + n0 = σ.1.1) (hs : slots + s0 = σ.1.2.1) (go : Go ω l n d y o p e R s m args below meth c n0 s0 Q) (hd : decode (mb y) pc = .ok (.getstatic k, 3)) (h : stR n d y (.getstatic k) pc L st σ = some o) : W p l e R s m args below meth c H locs cells slots Q (F0 m pc ls (st.map (conc ω))) := by
  obtain ⟨X1, X2, X3, X4, X5⟩ := X
  obtain ⟨hx, hb, hrt, hml, hown, hts, hlk, hin, hE, hfr, hlo⟩ := C
  delta stR stepI at h; dsimp only at h
  rw [show lkI (mcl y) (.getstatic k) = lk (mcl y) k from rfl] at h
  have hk := lk_ok (mcl y) k
  rcases hx4 : lk (mcl y) k with ⟨x1, x2, x3, x4⟩
  rw [hx4] at h hk
  dsimp only at h hk
  split at h
  · obtain ⟨hw, hsd⟩ := hk (by decide)
    simp only [lkSide, Bool.or_eq_true, decide_eq_true_eq] at hsd
    rcases hsd with rfl | rfl
    · refine va_gets (C := "FortyDesks$Acts") (n := "OWN") (d := "[I") (v := .ref (wo ω 1)) hx hb hE.2.2.2.1 X2 hown (hts _ (g_of hw rfl)) (fun _ h9 => h9) hd ?_
      exact go _ _ _ _ _ _ _ _ _ h ⟨X1, X2, X3, X4, ⟨trivial, X5⟩⟩ hc hs
    · refine va_gets (C := "FortyDesks$Acts") (n := "ABOVE") (d := "[I") (v := .ref (wo ω 2)) hx hb hE.2.2.2.2.1 X2 hown (hts _ (g_of hw rfl)) (fun _ h9 => h9) hd ?_
      exact go _ _ _ _ _ _ _ _ _ h ⟨X1, X2, X3, X4, ⟨trivial, X5⟩⟩ hc hs
  · cases h
theorem sm_iaload (C : Cx ω p R s m args meth c y d) (X : Dy ω s y σ L st H locs ls) (hc : cells + n0 = σ.1.1) (hs : slots + s0 = σ.1.2.1) (go : Go ω l n d y o p e R s m args below meth c n0 s0 Q) (hd : decode (mb y) pc = .ok (.iaload, 1)) (h : stR n d y (.iaload) pc L st σ = some o) : W p l e R s m args below meth c H locs cells slots Q (F0 m pc ls (st.map (conc ω))) := by
  obtain ⟨X1, X2, X3, X4, X5⟩ := X
  obtain ⟨hx, hb, hrt, hml, hown, hts, hlk, hin, hE, hfr, hlo⟩ := C
  delta stR stepI at h; dsimp only at h
  split at h
  · rename_i a q r
    obtain ⟨ha, -, hr⟩ := X5
    split at h
    · rename_i hT
      split at h
      · rename_i hI
        rcases hT with hT | hT
        · obtain ⟨h3, hn, hat⟩ := arr_at X1.2 hT (by decide)
          rw [avals_i (by decide)] at hat
          refine va_iald (D := wD ω) (cl := cl13) (tys := tys5 ω) hx hb hE.1 X1.1 (q - 3) 0 hat rfl (oi_in ha hI) hd ?_
          rw [oi_nat ha]
          exact go _ _ _ _ _ _ _ _ _ h ⟨X1, X2, X3, X4, ⟨X1.2.2.1 _ _, hr⟩⟩ hc hs
        · obtain ⟨h3, hn, hv⟩ := old_at X1.2 hT
          rw [hn] at hI
          have hq : wad ω q = wo ω q := by unfold wad; rw [if_pos h3]
          have e1 : conc ω (vr q) = .ref (wo ω q) := by show Value.ref (wad ω q) = _; rw [hq]
          rw [show (Sum.inl a :: Sum.inr (Sum.inr (some q)) :: r).map (conc ω) = .int (oi a) :: .ref (wo ω q) :: r.map (conc ω) by rw [← e1]; rfl]
          refine va_sld hx hb (hE.2.1 q h3).1 (Nat.lt_of_lt_of_le (hE.2.1 q h3).2 hE.2.2.1) (fun z => absurd (hE.2.1 q h3).2 (Nat.not_lt.mpr z)) X2 (oi_in ha hI) hd ?_
          rw [oi_nat ha, ← oi_t (wx ω q a.toNat), ← hv _ (by omega)]
          exact go _ _ _ _ _ _ _ _ _ h ⟨X1, X2, X3, X4, ⟨X1.2.2.1 _ _, hr⟩⟩ hc hs
      · cases h
    · cases h
  · cases h
theorem sm_saload (C : Cx ω p R s m args meth c y d) (X : Dy ω s y σ L st H locs ls) (hc : cells + n0 = σ.1.1) (hs : slots + s0 = σ.1.2.1) (go : Go ω l n d y o p e R s m args below meth c n0 s0 Q) (hd : decode (mb y) pc = .ok (.saload, 1)) (h : stR n d y (.saload) pc L st σ = some o) : W p l e R s m args below meth c H locs cells slots Q (F0 m pc ls (st.map (conc ω))) := by
  obtain ⟨X1, X2, X3, X4, X5⟩ := X
  obtain ⟨hx, hb, hrt, hml, hown, hts, hlk, hin, hE, hfr, hlo⟩ := C
  delta stR stepI at h; dsimp only at h
  split at h
  · rename_i a q r
    obtain ⟨ha, -, hr⟩ := X5
    split at h
    · rename_i hT
      split at h
      · rename_i hI
        obtain ⟨h3, hn, hat⟩ := arr_at X1.2 hT (by decide)
        rw [avals_i (by decide)] at hat
        refine va_sald (D := wD ω) (cl := cl13) (tys := tys5 ω) hx hb hE.1 X1.1 (q - 3) 1 hat rfl (oi_in ha hI) hd ?_
        rw [oi_nat ha]
        exact go _ _ _ _ _ _ _ _ _ h ⟨X1, X2, X3, X4, ⟨X1.2.2.1 _ _, hr⟩⟩ hc hs
      · cases h
    · cases h
  · cases h
theorem sm_baload (C : Cx ω p R s m args meth c y d) (X : Dy ω s y σ L st H locs ls) (hc : cells + n0 = σ.1.1) (hs : slots + s0 = σ.1.2.1) (go : Go ω l n d y o p e R s m args below meth c n0 s0 Q) (hd : decode (mb y) pc = .ok (.baload, 1)) (h : stR n d y (.baload) pc L st σ = some o) : W p l e R s m args below meth c H locs cells slots Q (F0 m pc ls (st.map (conc ω))) := by
  obtain ⟨X1, X2, X3, X4, X5⟩ := X
  obtain ⟨hx, hb, hrt, hml, hown, hts, hlk, hin, hE, hfr, hlo⟩ := C
  delta stR stepI at h; dsimp only at h
  split at h
  · rename_i a q r
    obtain ⟨ha, -, hr⟩ := X5
    split at h
    · rename_i hT
      split at h
      · rename_i hI
        obtain ⟨h3, hn, hat⟩ := arr_at X1.2 hT (by decide)
        rw [avals_i (by decide)] at hat
        refine va_bald (D := wD ω) (cl := cl13) (tys := tys5 ω) hx hb hE.1 X1.1 (q - 3) 2 hat rfl (oi_in ha hI) hd ?_
        rw [oi_nat ha]
        exact go _ _ _ _ _ _ _ _ _ h ⟨X1, X2, X3, X4, ⟨X1.2.2.1 _ _, hr⟩⟩ hc hs
      · cases h
    · cases h
  · cases h
theorem sm_laload (C : Cx ω p R s m args meth c y d) (X : Dy ω s y σ L st H locs ls) (hc : cells + n0 = σ.1.1) (hs : slots + s0 = σ.1.2.1) (go : Go ω l n d y o p e R s m args below meth c n0 s0 Q) (hd : decode (mb y) pc = .ok (.laload, 1)) (h : stR n d y (.laload) pc L st σ = some o) : W p l e R s m args below meth c H locs cells slots Q (F0 m pc ls (st.map (conc ω))) := by
  obtain ⟨X1, X2, X3, X4, X5⟩ := X
  obtain ⟨hx, hb, hrt, hml, hown, hts, hlk, hin, hE, hfr, hlo⟩ := C
  delta stR stepI at h; dsimp only at h
  split at h
  · rename_i a q r
    obtain ⟨ha, -, hr⟩ := X5
    split at h
    · rename_i hT
      split at h
      · rename_i hI
        obtain ⟨h3, hn, hat⟩ := arr_at X1.2 hT (by decide)
        rw [avals_l] at hat
        refine va_lald (D := wD ω) (cl := cl13) (tys := tys5 ω) hx hb hE.1 X1.1 (q - 3) 3 hat rfl (oi_in ha hI) hd ?_
        rw [oi_nat ha]
        exact go _ _ _ _ _ _ _ _ _ h ⟨X1, X2, X3, X4, ⟨X1.2.2.2.1 _ _, hr⟩⟩ hc hs
      · cases h
    · cases h
  · cases h
theorem sm_aaload (C : Cx ω p R s m args meth c y d) (X : Dy ω s y σ L st H locs ls) (hc : cells + n0 = σ.1.1) (hs : slots + s0 = σ.1.2.1) (go : Go ω l n d y o p e R s m args below meth c n0 s0 Q) (hd : decode (mb y) pc = .ok (.aaload, 1)) (h : stR n d y (.aaload) pc L st σ = some o) : W p l e R s m args below meth c H locs cells slots Q (F0 m pc ls (st.map (conc ω))) := by
  obtain ⟨X1, X2, X3, X4, X5⟩ := X
  obtain ⟨hx, hb, hrt, hml, hown, hts, hlk, hin, hE, hfr, hlo⟩ := C
  delta stR stepI at h; dsimp only at h
  split at h
  · rename_i a q r
    obtain ⟨ha, -, hr⟩ := X5
    split at h
    · rename_i hT
      split at h
      · rename_i hI
        split at h
        · rename_i z hz
          obtain ⟨h3, hn, hat⟩ := arr_at X1.2 hT (by decide)
          rw [avals_q] at hat
          refine va_aldq (D := wD ω) (cl := cl13) (tys := tys5 ω) hx hb hE.1 X1.1 (q - 3) 4 hat rfl (oi_in ha hI) hd ?_
          rw [oi_nat ha, hz]
          exact go _ _ _ _ _ _ _ _ _ h ⟨X1, X2, X3, X4, ⟨trivial, hr⟩⟩ hc hs
        · cases h
      · cases h
    · cases h
  · cases h
theorem sm_iastore (C : Cx ω p R s m args meth c y d) (X : Dy ω s y σ L st H locs ls) (hc : cells + n0 = σ.1.1) (hs : slots + s0 = σ.1.2.1) (go : Go ω l n d y o p e R s m args below meth c n0 s0 Q) (hd : decode (mb y) pc = .ok (.iastore, 1)) (h : stR n d y (.iastore) pc L st σ = some o) : W p l e R s m args below meth c H locs cells slots Q (F0 m pc ls (st.map (conc ω))) := by
  obtain ⟨X1, X2, X3, X4, X5⟩ := X
  obtain ⟨hx, hb, hrt, hml, hown, hts, hlk, hin, hE, hfr, hlo⟩ := C
  delta stR stepI at h; dsimp only at h
  split at h
  · rename_i v a q r
    obtain ⟨hv, ha, -, hr⟩ := X5
    split at h
    · rename_i hT'
      obtain ⟨hT, -⟩ := hT'
      split at h
      · rename_i hI
        obtain ⟨h3, hn, hat⟩ := arr_at X1.2 hT (by decide)
        rw [avals_i (by decide)] at hat
        refine va_iast (D := wD ω) (cl := cl13) (tys := tys5 ω) hx hb hE.1 X1.1 wsO_D X2 (q - 3) 0 hat rfl (oi_in ha hI) hd (fun H1 locs1 hP1 hD1 hS1 => ?_)
        rw [oi_nat ha] at hP1
        skip
        exact go _ _ _ _ _ _ _ _ _ h ⟨Hok_aI X1.2 h3 hn hT (by decide) hv hP1, hS1, X3, X4, hr⟩ hc hs
      · cases h
    · cases h
  · cases h
theorem sm_sastore (C : Cx ω p R s m args meth c y d) (X : Dy ω s y σ L st H locs ls) (hc : cells + n0 = σ.1.1) (hs : slots + s0 = σ.1.2.1) (go : Go ω l n d y o p e R s m args below meth c n0 s0 Q) (hd : decode (mb y) pc = .ok (.sastore, 1)) (h : stR n d y (.sastore) pc L st σ = some o) : W p l e R s m args below meth c H locs cells slots Q (F0 m pc ls (st.map (conc ω))) := by
  obtain ⟨X1, X2, X3, X4, X5⟩ := X
  obtain ⟨hx, hb, hrt, hml, hown, hts, hlk, hin, hE, hfr, hlo⟩ := C
  delta stR stepI at h; dsimp only at h
  split at h
  · rename_i v a q r
    obtain ⟨hv, ha, -, hr⟩ := X5
    split at h
    · rename_i hT'
      obtain ⟨hT, -⟩ := hT'
      split at h
      · rename_i hI
        obtain ⟨h3, hn, hat⟩ := arr_at X1.2 hT (by decide)
        rw [avals_i (by decide)] at hat
        refine va_sast (D := wD ω) (cl := cl13) (tys := tys5 ω) hx hb hE.1 X1.1 wsO_D X2 (q - 3) 1 hat rfl (oi_in ha hI) hd (fun H1 locs1 hP1 hD1 hS1 => ?_)
        rw [oi_nat ha] at hP1
        rw [oi_nars _ hv] at hP1
        exact go _ _ _ _ _ _ _ _ _ h ⟨Hok_aI X1.2 h3 hn hT (by decide) (i2s_R _) hP1, hS1, X3, X4, hr⟩ hc hs
      · cases h
    · cases h
  · cases h
theorem sm_bastore (C : Cx ω p R s m args meth c y d) (X : Dy ω s y σ L st H locs ls) (hc : cells + n0 = σ.1.1) (hs : slots + s0 = σ.1.2.1) (go : Go ω l n d y o p e R s m args below meth c n0 s0 Q) (hd : decode (mb y) pc = .ok (.bastore, 1)) (h : stR n d y (.bastore) pc L st σ = some o) : W p l e R s m args below meth c H locs cells slots Q (F0 m pc ls (st.map (conc ω))) := by
  obtain ⟨X1, X2, X3, X4, X5⟩ := X
  obtain ⟨hx, hb, hrt, hml, hown, hts, hlk, hin, hE, hfr, hlo⟩ := C
  delta stR stepI at h; dsimp only at h
  split at h
  · rename_i v a q r
    obtain ⟨hv, ha, -, hr⟩ := X5
    split at h
    · rename_i hT'
      obtain ⟨hT, -⟩ := hT'
      split at h
      · rename_i hI
        obtain ⟨h3, hn, hat⟩ := arr_at X1.2 hT (by decide)
        rw [avals_i (by decide)] at hat
        refine va_bast (D := wD ω) (cl := cl13) (tys := tys5 ω) hx hb hE.1 X1.1 wsO_D X2 (q - 3) 2 hat rfl (oi_in ha hI) hd (fun H1 locs1 hP1 hD1 hS1 => ?_)
        rw [oi_nat ha] at hP1
        rw [oi_narb _ hv] at hP1
        exact go _ _ _ _ _ _ _ _ _ h ⟨Hok_aI X1.2 h3 hn hT (by decide) (i2b_R _) hP1, hS1, X3, X4, hr⟩ hc hs
      · cases h
    · cases h
  · cases h
theorem sm_lastore (C : Cx ω p R s m args meth c y d) (X : Dy ω s y σ L st H locs ls) (hc : cells + n0 = σ.1.1) (hs : slots + s0 = σ.1.2.1) (go : Go ω l n d y o p e R s m args below meth c n0 s0 Q) (hd : decode (mb y) pc = .ok (.lastore, 1)) (h : stR n d y (.lastore) pc L st σ = some o) : W p l e R s m args below meth c H locs cells slots Q (F0 m pc ls (st.map (conc ω))) := by
  obtain ⟨X1, X2, X3, X4, X5⟩ := X
  obtain ⟨hx, hb, hrt, hml, hown, hts, hlk, hin, hE, hfr, hlo⟩ := C
  delta stR stepI at h; dsimp only at h
  split at h
  · rename_i v a q r
    obtain ⟨hv, ha, -, hr⟩ := X5
    split at h
    · rename_i hT'
      obtain ⟨hT, -⟩ := hT'
      split at h
      · rename_i hI
        obtain ⟨h3, hn, hat⟩ := arr_at X1.2 hT (by decide)
        rw [avals_l] at hat
        refine va_last (D := wD ω) (cl := cl13) (tys := tys5 ω) hx hb hE.1 X1.1 wsO_D X2 (q - 3) 3 hat rfl (oi_in ha hI) hd (fun H1 locs1 hP1 hD1 hS1 => ?_)
        rw [oi_nat ha] at hP1
        exact go _ _ _ _ _ _ _ _ _ h ⟨Hok_aJ X1.2 h3 hn hT hv hP1, hS1, X3, X4, hr⟩ hc hs
      · cases h
    · cases h
  · cases h
theorem sm_aastore (C : Cx ω p R s m args meth c y d) (X : Dy ω s y σ L st H locs ls) (hc : cells + n0 = σ.1.1) (hs : slots + s0 = σ.1.2.1) (go : Go ω l n d y o p e R s m args below meth c n0 s0 Q) (hd : decode (mb y) pc = .ok (.aastore, 1)) (h : stR n d y (.aastore) pc L st σ = some o) : W p l e R s m args below meth c H locs cells slots Q (F0 m pc ls (st.map (conc ω))) := by
  obtain ⟨X1, X2, X3, X4, X5⟩ := X
  obtain ⟨hx, hb, hrt, hml, hown, hts, hlk, hin, hE, hfr, hlo⟩ := C
  delta stR stepI at h; dsimp only at h
  split at h
  · rename_i z a q r
    obtain ⟨-, ha, -, hr⟩ := X5
    split at h
    · rename_i hT'
      obtain ⟨hT, -, hT2, -⟩ := hT'
      split at h
      · rename_i hI
        obtain ⟨h3, hn, hat⟩ := arr_at X1.2 hT (by decide)
        obtain ⟨h3z, hnz, hatz⟩ := obj_at X1.2 hT2 (by decide)
        rw [avals_q] at hat
        refine va_astq (D := wD ω) (cl := cl13) (tys := tys5 ω) (r := (RX7, TX7, 4)) hx hb hE.1 X1.1 wsO_D X2 (q - 3) 4 (z - 3) 7 hat rfl hatz rfl (oi_in ha hI) hd (fun H1 locs1 hP1 hD1 hS1 => ?_)
        rw [oi_nat ha] at hP1
        exact go _ _ _ _ _ _ _ _ _ h ⟨Hok_aR X1.2 h3 hn hT hP1, hS1, X3, X4, hr⟩ hc hs
      · cases h
    · cases h
  · cases h
theorem sm_arraylength (C : Cx ω p R s m args meth c y d) (X : Dy ω s y σ L st H locs ls) (hc : cells + n0 = σ.1.1) (hs : slots + s0 = σ.1.2.1) (go : Go ω l n d y o p e R s m args below meth c n0 s0 Q) (hd : decode (mb y) pc = .ok (.arraylength, 1)) (h : stR n d y (.arraylength) pc L st σ = some o) : W p l e R s m args below meth c H locs cells slots Q (F0 m pc ls (st.map (conc ω))) := by
  obtain ⟨X1, X2, X3, X4, X5⟩ := X
  obtain ⟨hx, hb, hrt, hml, hown, hts, hlk, hin, hE, hfr, hlo⟩ := C
  delta stR stepI at h; dsimp only at h
  split at h
  · rename_i q r
    obtain ⟨-, hr⟩ := X5
    split at h
    · rename_i hT
      have hl : iR ((mtg σ q).2 : Int) := by have := len_R X1.2 (c := q) (by omega); exact ⟨by omega, by omega⟩
      by_cases e : (mtg σ q).1 = 30
      · obtain ⟨h3, hn, hv⟩ := old_at X1.2 e
        have hq : wad ω q = wo ω q := by unfold wad; rw [if_pos h3]
        have e1 : conc ω (vr q) = .ref (wo ω q) := by show Value.ref (wad ω q) = _; rw [hq]
        rw [show (Sum.inr (Sum.inr (some q)) :: r).map (conc ω) = .ref (wo ω q) :: r.map (conc ω) by rw [← e1]; rfl]
        refine va_slen hx hb (hE.2.1 q h3).1 (Nat.lt_of_lt_of_le (hE.2.1 q h3).2 hE.2.2.1) (fun z => absurd (hE.2.1 q h3).2 (Nat.not_lt.mpr z)) X2 hd ?_
        rw [← hn]
        exact go _ _ _ _ _ _ _ _ _ h ⟨X1, X2, X3, X4, ⟨hl, hr⟩⟩ hc hs
      · have ht : (mtg σ q).1 ≤ 24 := by
          unfold mtg at hT e ⊢
          split at hT
          · rename_i hn
            rw [if_pos hn] at e ⊢
            rcases Nat.lt_or_ge q 3 with h3 | h3
            · rw [(X1.2.2.2.2.1 q h3).1] at e; exact absurd rfl e
            · have := (X1.2.2.2.2.2.2 q h3 hn).1; omega
          · simp only at hT; omega
        obtain ⟨h3, hn, hat⟩ := arr_at X1.2 rfl ⟨hT.1, ht⟩
        obtain ⟨ty, hty⟩ := ty5_at (ω := ω) (mtg σ q).1 hT.1 ht
        refine va_alen (D := wD ω) (cl := cl13) (tys := tys5 ω) (v := oi ((mtg σ q).2 : Int)) hx hb hE.1 X1.1 (q - 3) ((mtg σ q).1 - 20) hat hty rfl hd ?_
        exact go _ _ _ _ _ _ _ _ _ h ⟨X1, X2, X3, X4, ⟨hl, hr⟩⟩ hc hs
    · cases h
  · cases h
end SIM
