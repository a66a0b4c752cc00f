theorem lookup_mem {β : Type} {k : Nat} {v : β} : ∀ {l : List (Nat × β)}, l.lookup k = some v → (k, v) ∈ l
  | [], h => by cases h
  | (a, b) :: r, h => by
    rw [List.lookup_cons] at h
    by_cases e : k = a
    · subst e
      simp only [beq_self_eq_true] at h
      cases h
      exact List.mem_cons_self
    · have e2 : (k == a) = false := by simpa using e
      rw [e2] at h
      exact List.mem_cons_of_mem _ (lookup_mem h)
theorem lkOK_all : ∀ o, lkOK o = true
  | 0 => lkOK_0
  | 1 => lkOK_1
  | 2 => lkOK_2
  | 3 => lkOK_3
  | 4 => lkOK_4
  | 5 => lkOK_5
  | 6 => lkOK_6
  | 7 => lkOK_7
  | 8 => lkOK_8
  | 9 => lkOK_9
  | 10 => lkOK_10
  | 11 => lkOK_11
  | 12 => lkOK_12
  | 13 => lkOK_13
  | _ + 14 => rfl
theorem lk_ok (o idx : Nat) (h : (lk o idx).1 ≠ 0) : lkWord o idx (lk o idx) ∈ lw_tbl ∧ lkSide (lk o idx) = true := by
  unfold lk at h ⊢
  cases hq : (lkC o).lookup idx with
  | none => rw [hq] at h; exact absurd rfl h
  | some q =>
    have h1 := lkOK_all o
    unfold lkOK at h1
    have h2 := List.all_eq_true.mp h1 _ (lookup_mem hq)
    simp only [Bool.and_eq_true, decide_eq_true_eq] at h2
    exact ⟨List.mem_of_getElem? h2.1, h2.2⟩
theorem mtgt_eq {pc : Nat} {off : Int} (h : mtok pc off = true) : (pc : Int) + off = ((mtgt pc off : Nat) : Int) := by
  unfold mtok at h; unfold mtgt
  rw [Int.toNat_of_nonneg (by simpa using h)]
theorem mtbK_cases {α : Type} (a : Int) (df : α) (k : Int → α) : ∀ (ps : List Int) (lo : Int), ((a < lo ∨ lo + ps.length - 1 < a) ∧ mtbK a df k ps lo = df) ∨ (lo ≤ a ∧ a ≤ lo + ps.length - 1 ∧ ∃ off, ps[(a - lo).toNat]? = some off ∧ mtbK a df k ps lo = k off)
  | [], lo => Or.inl ⟨by simp; omega, rfl⟩
  | o :: r, lo => by
    unfold mtbK
    by_cases e : a = lo
    · subst e
      rw [if_pos rfl]
      exact Or.inr ⟨by omega, by simp; omega, o, by simp, rfl⟩
    · rw [if_neg e]
      rcases mtbK_cases a df k r (lo + 1) with ⟨h1, h2⟩ | ⟨h1, h2, off, h3, h4⟩
      · exact Or.inl ⟨by simp; omega, h2⟩
      · refine Or.inr ⟨by omega, by simp; omega, off, ?_, h4⟩
        rw [show (a - lo).toNat = (a - (lo + 1)).toNat + 1 by omega]
        simpa using h3
theorem mlkK_cases {α : Type} (d a : Int) (k : Int → α) : ∀ ps : List (Int × Int), ∃ off, Op.lookupswitch.offset ps d a = off ∧ mlkK d a k ps = k off ∧ (off = d ∨ ∃ q ∈ ps, q.2 = off)
  | [] => ⟨d, rfl, rfl, Or.inl rfl⟩
  | (a0, o) :: r => by
    rw [Op.lookupswitch.offset_cons]
    unfold mlkK
    by_cases e : a = a0
    · subst e
      exact ⟨o, by rw [if_pos rfl], by rw [if_pos rfl], Or.inr ⟨_, List.mem_cons_self, rfl⟩⟩
    · rw [if_neg e, if_neg (fun z => e z.symm)]
      obtain ⟨off, h1, h2, h3⟩ := mlkK_cases d a k r
      exact ⟨off, h1, h2, h3.elim Or.inl (fun ⟨q, z1, z2⟩ => Or.inr ⟨q, List.mem_cons_of_mem _ z1, z2⟩)⟩
section SIM
variable {ω : mWo} {l : Launch} {n d y pc : Nat} {o : mOut} {p : Program} {e : Env} {R : Room} {s : State} {m : MethodId} {args : Array Value} {below : List Frame} {meth : Method} {c : Code} {n0 s0 cells slots : Nat} {Q : State → Prop} {L : mLoc} {st : List mVal} {σ : mSg} {H : Heap} {locs : List Loc} {ls : Array Slot}
theorem sm_iconst {k : Int} (C : Cx ω p R s m args meth c y d) (X : Dy ω s y σ L st H locs ls) (hc : cells + n0 = σ.1.1) (hs : slots + s0 = σ.1.2.1) (go : Go ω l n d y o p e R s m args below meth c n0 s0 Q) (hm : mrng pc (.iconst k) = true) (hd : decode (mb y) pc = .ok (.iconst k, 1)) (h : stR n d y (.iconst k) pc L st σ = some o) : W p l e R s m args below meth c H locs cells slots Q (F0 m pc ls (st.map (conc ω))) := by
  obtain ⟨X1, X2, X3, X4, X5⟩ := X
  obtain ⟨hx, hb, hrt, hml, hown, hts, hlk, hin, hE, hfr, hlo⟩ := C
  delta stR stepI at h; dsimp only at h
  simp only [mrng, Bool.and_eq_true, decide_eq_true_eq] at hm
  refine lv_iconst (v := oi k) hx hb hd rfl ?_
  exact go _ _ _ _ _ _ _ _ _ h ⟨X1, X2, X3, X4, ⟨⟨by omega, by omega⟩, X5⟩⟩ hc hs
theorem sm_bipush {k : Int} (C : Cx ω p R s m args meth c y d) (X : Dy ω s y σ L st H locs ls) (hc : cells + n0 = σ.1.1) (hs : slots + s0 = σ.1.2.1) (go : Go ω l n d y o p e R s m args below meth c n0 s0 Q) (hm : mrng pc (.bipush k) = true) (hd : decode (mb y) pc = .ok (.bipush k, 2)) (h : stR n d y (.bipush k) pc L st σ = some o) : W p l e R s m args below meth c H locs cells slots Q (F0 m pc ls (st.map (conc ω))) := by
  obtain ⟨X1, X2, X3, X4, X5⟩ := X
  obtain ⟨hx, hb, hrt, hml, hown, hts, hlk, hin, hE, hfr, hlo⟩ := C
  delta stR stepI at h; dsimp only at h
  simp only [mrng, Bool.and_eq_true, decide_eq_true_eq] at hm
  refine lv_bipush (v := oi k) hx hb hd (oi_bp hm) ?_
  exact go _ _ _ _ _ _ _ _ _ h ⟨X1, X2, X3, X4, ⟨⟨by omega, by omega⟩, X5⟩⟩ hc hs
theorem sm_sipush {k : Int} (C : Cx ω p R s m args meth c y d) (X : Dy ω s y σ L st H locs ls) (hc : cells + n0 = σ.1.1) (hs : slots + s0 = σ.1.2.1) (go : Go ω l n d y o p e R s m args below meth c n0 s0 Q) (hm : mrng pc (.sipush k) = true) (hd : decode (mb y) pc = .ok (.sipush k, 3)) (h : stR n d y (.sipush k) pc L st σ = some o) : W p l e R s m args below meth c H locs cells slots Q (F0 m pc ls (st.map (conc ω))) := by
  obtain ⟨X1, X2, X3, X4, X5⟩ := X
  obtain ⟨hx, hb, hrt, hml, hown, hts, hlk, hin, hE, hfr, hlo⟩ := C
  delta stR stepI at h; dsimp only at h
  simp only [mrng, Bool.and_eq_true, decide_eq_true_eq] at hm
  refine lv_sipush (v := oi k) hx hb hd (oi_sp hm) ?_
  exact go _ _ _ _ _ _ _ _ _ h ⟨X1, X2, X3, X4, ⟨⟨by omega, by omega⟩, X5⟩⟩ hc hs
theorem sm_lconst {k : Fin 2} (C : Cx ω p R s m args meth c y d) (X : Dy ω s y σ L st H locs ls) (hc : cells + n0 = σ.1.1) (hs : slots + s0 = σ.1.2.1) (go : Go ω l n d y o p e R s m args below meth c n0 s0 Q) (hd : decode (mb y) pc = .ok (.lconst k, 1)) (h : stR n d y (.lconst k) pc L st σ = some o) : W p l e R s m args below meth c H locs cells slots Q (F0 m pc ls (st.map (conc ω))) := by
  obtain ⟨X1, X2, X3, X4, X5⟩ := X
  obtain ⟨hx, hb, hrt, hml, hown, hts, hlk, hin, hE, hfr, hlo⟩ := C
  delta stR stepI at h; dsimp only at h
  refine lv_lconst (v := ol ((k : Nat) : Int)) hx hb hd rfl ?_
  exact go _ _ _ _ _ _ _ _ _ h ⟨X1, X2, X3, X4, ⟨⟨by omega, by omega⟩, X5⟩⟩ hc hs
theorem sm_ldc {k : Nat} (C : Cx ω p R s m args meth c y d) (X : Dy ω s y σ L st H locs ls) (hc : cells + n0 = σ.1.1) (hs : slots + s0 = σ.1.2.1) (go : Go ω l n d y o p e R s m args below meth c n0 s0 Q) (hd : decode (mb y) pc = .ok (.ldc k, 2)) (h : stR n d y (.ldc k) pc L st σ = some o) : W p l e R s m args below meth c H locs cells slots Q (F0 m pc ls (st.map (conc ω))) := by
  obtain ⟨X1, X2, X3, X4, X5⟩ := X
  obtain ⟨hx, hb, hrt, hml, hown, hts, hlk, hin, hE, hfr, hlo⟩ := C
  delta stR stepI at h; dsimp only at h
  rw [show lkI (mcl y) (.ldc k) = lk (mcl y) k from rfl] at h
  have hk := lk_ok (mcl y) k
  rcases hx4 : lk (mcl y) k with ⟨x1, x2, x3, x4⟩
  rw [hx4] at h hk
  dsimp only at h hk
  split at h
  · rename_i e1
    subst e1
    obtain ⟨hw, hsd⟩ := hk (by decide)
    simp only [lkSide, Bool.and_eq_true, decide_eq_true_eq] at hsd
    refine lv_ldc (v := oi x4) hx hb hown (hts _ (g_of hw rfl)) hd ?_
    exact go _ _ _ _ _ _ _ _ _ h ⟨X1, X2, X3, X4, ⟨hsd, X5⟩⟩ hc hs
  · cases h
theorem sm_ldc_w {k : Nat} (C : Cx ω p R s m args meth c y d) (X : Dy ω s y σ L st H locs ls) (hc : cells + n0 = σ.1.1) (hs : slots + s0 = σ.1.2.1) (go : Go ω l n d y o p e R s m args below meth c n0 s0 Q) (hd : decode (mb y) pc = .ok (.ldc_w k, 3)) (h : stR n d y (.ldc_w k) pc L st σ = some o) : W p l e R s m args below meth c H locs cells slots Q (F0 m pc ls (st.map (conc ω))) := by
  obtain ⟨X1, X2, X3, X4, X5⟩ := X
  obtain ⟨hx, hb, hrt, hml, hown, hts, hlk, hin, hE, hfr, hlo⟩ := C
  delta stR stepI at h; dsimp only at h
  rw [show lkI (mcl y) (.ldc_w k) = lk (mcl y) k from rfl] at h
  have hk := lk_ok (mcl y) k
  rcases hx4 : lk (mcl y) k with ⟨x1, x2, x3, x4⟩
  rw [hx4] at h hk
  dsimp only at h hk
  split at h
  · rename_i e1
    subst e1
    obtain ⟨hw, hsd⟩ := hk (by decide)
    simp only [lkSide, Bool.and_eq_true, decide_eq_true_eq] at hsd
    refine lv_ldcw (v := oi x4) hx hb hown (hts _ (g_of hw rfl)) hd ?_
    exact go _ _ _ _ _ _ _ _ _ h ⟨X1, X2, X3, X4, ⟨hsd, X5⟩⟩ hc hs
  · cases h
theorem sm_ldc2_w {k : Nat} (C : Cx ω p R s m args meth c y d) (X : Dy ω s y σ L st H locs ls) (hc : cells + n0 = σ.1.1) (hs : slots + s0 = σ.1.2.1) (go : Go ω l n d y o p e R s m args below meth c n0 s0 Q) (hd : decode (mb y) pc = .ok (.ldc2_w k, 3)) (h : stR n d y (.ldc2_w k) pc L st σ = some o) : W p l e R s m args below meth c H locs cells slots Q (F0 m pc ls (st.map (conc ω))) := by
  obtain ⟨X1, X2, X3, X4, X5⟩ := X
  obtain ⟨hx, hb, hrt, hml, hown, hts, hlk, hin, hE, hfr, hlo⟩ := C
  delta stR stepI at h; dsimp only at h
  rw [show lkI (mcl y) (.ldc2_w k) = lk (mcl y) k from rfl] at h
  have hk := lk_ok (mcl y) k
  rcases hx4 : lk (mcl y) k with ⟨x1, x2, x3, x4⟩
  rw [hx4] at h hk
  dsimp only at h hk
  split at h
  · rename_i e1
    subst e1
    obtain ⟨hw, hsd⟩ := hk (by decide)
    simp only [lkSide, Bool.and_eq_true, decide_eq_true_eq] at hsd
    refine lv_ldc2 (v := ol x4) hx hb hown (hts _ (g_of hw rfl)) hd ?_
    exact go _ _ _ _ _ _ _ _ _ h ⟨X1, X2, X3, X4, ⟨hsd, X5⟩⟩ hc hs
  · cases h
theorem sm_iload_n {k : Fin 4} (C : Cx ω p R s m args meth c y d) (X : Dy ω s y σ L st H locs ls) (hc : cells + n0 = σ.1.1) (hs : slots + s0 = σ.1.2.1) (go : Go ω l n d y o p e R s m args below meth c n0 s0 Q) (hd : decode (mb y) pc = .ok (.iload_n k, 1)) (h : stR n d y (.iload_n k) pc L st σ = some o) : W p l e R s m args below meth c H locs cells slots Q (F0 m pc ls (st.map (conc ω))) := by
  obtain ⟨X1, X2, X3, X4, X5⟩ := X
  obtain ⟨hx, hb, hrt, hml, hown, hts, hlk, hin, hE, hfr, hlo⟩ := C
  delta stR stepI at h; dsimp only at h
  split at h
  · rename_i a heq
    refine lv_iload_n hx hb hd rfl (X3.2.2 _ _ heq) ?_
    exact go _ _ _ _ _ _ _ _ _ h ⟨X1, X2, X3, X4, ⟨X4.1 _ _ heq, X5⟩⟩ hc hs
  · cases h
theorem sm_iload {k : Nat} (C : Cx ω p R s m args meth c y d) (X : Dy ω s y σ L st H locs ls) (hc : cells + n0 = σ.1.1) (hs : slots + s0 = σ.1.2.1) (go : Go ω l n d y o p e R s m args below meth c n0 s0 Q) (hd : decode (mb y) pc = .ok (.iload k, 2)) (h : stR n d y (.iload k) pc L st σ = some o) : W p l e R s m args below meth c H locs cells slots Q (F0 m pc ls (st.map (conc ω))) := by
  obtain ⟨X1, X2, X3, X4, X5⟩ := X
  obtain ⟨hx, hb, hrt, hml, hown, hts, hlk, hin, hE, hfr, hlo⟩ := C
  delta stR stepI at h; dsimp only at h
  split at h
  · rename_i a heq
    refine lv_iload hx hb hd (X3.2.2 _ _ heq) ?_
    exact go _ _ _ _ _ _ _ _ _ h ⟨X1, X2, X3, X4, ⟨X4.1 _ _ heq, X5⟩⟩ hc hs
  · cases h
theorem sm_lload_n {k : Fin 4} (C : Cx ω p R s m args meth c y d) (X : Dy ω s y σ L st H locs ls) (hc : cells + n0 = σ.1.1) (hs : slots + s0 = σ.1.2.1) (go : Go ω l n d y o p e R s m args below meth c n0 s0 Q) (hd : decode (mb y) pc = .ok (.lload_n k, 1)) (h : stR n d y (.lload_n k) pc L st σ = some o) : W p l e R s m args below meth c H locs cells slots Q (F0 m pc ls (st.map (conc ω))) := by
  obtain ⟨X1, X2, X3, X4, X5⟩ := X
  obtain ⟨hx, hb, hrt, hml, hown, hts, hlk, hin, hE, hfr, hlo⟩ := C
  delta stR stepI at h; dsimp only at h
  split at h
  · rename_i a heq
    refine lv_lload_n hx hb hd rfl (X3.2.2 _ _ heq) ?_
    exact go _ _ _ _ _ _ _ _ _ h ⟨X1, X2, X3, X4, ⟨X4.1 _ _ heq, X5⟩⟩ hc hs
  · cases h
theorem sm_lload {k : Nat} (C : Cx ω p R s m args meth c y d) (X : Dy ω s y σ L st H locs ls) (hc : cells + n0 = σ.1.1) (hs : slots + s0 = σ.1.2.1) (go : Go ω l n d y o p e R s m args below meth c n0 s0 Q) (hd : decode (mb y) pc = .ok (.lload k, 2)) (h : stR n d y (.lload k) pc L st σ = some o) : W p l e R s m args below meth c H locs cells slots Q (F0 m pc ls (st.map (conc ω))) := by
  obtain ⟨X1, X2, X3, X4, X5⟩ := X
  obtain ⟨hx, hb, hrt, hml, hown, hts, hlk, hin, hE, hfr, hlo⟩ := C
  delta stR stepI at h; dsimp only at h
  split at h
  · rename_i a heq
    refine lv_lload hx hb hd (X3.2.2 _ _ heq) ?_
    exact go _ _ _ _ _ _ _ _ _ h ⟨X1, X2, X3, X4, ⟨X4.1 _ _ heq, X5⟩⟩ hc hs
  · cases h
theorem sm_aload_n {k : Fin 4} (C : Cx ω p R s m args meth c y d) (X : Dy ω s y σ L st H locs ls) (hc : cells + n0 = σ.1.1) (hs : slots + s0 = σ.1.2.1) (go : Go ω l n d y o p e R s m args below meth c n0 s0 Q) (hd : decode (mb y) pc = .ok (.aload_n k, 1)) (h : stR n d y (.aload_n k) pc L st σ = some o) : W p l e R s m args below meth c H locs cells slots Q (F0 m pc ls (st.map (conc ω))) := by
  obtain ⟨X1, X2, X3, X4, X5⟩ := X
  obtain ⟨hx, hb, hrt, hml, hown, hts, hlk, hin, hE, hfr, hlo⟩ := C
  delta stR stepI at h; dsimp only at h
  split at h
  · rename_i a heq
    refine lv_aload_n hx hb hd rfl (X3.2.2 _ _ heq) ?_
    exact go _ _ _ _ _ _ _ _ _ h ⟨X1, X2, X3, X4, ⟨X4.1 _ _ heq, X5⟩⟩ hc hs
  · cases h
theorem sm_aload {k : Nat} (C : Cx ω p R s m args meth c y d) (X : Dy ω s y σ L st H locs ls) (hc : cells + n0 = σ.1.1) (hs : slots + s0 = σ.1.2.1) (go : Go ω l n d y o p e R s m args below meth c n0 s0 Q) (hd : decode (mb y) pc = .ok (.aload k, 2)) (h : stR n d y (.aload k) pc L st σ = some o) : W p l e R s m args below meth c H locs cells slots Q (F0 m pc ls (st.map (conc ω))) := by
  obtain ⟨X1, X2, X3, X4, X5⟩ := X
  obtain ⟨hx, hb, hrt, hml, hown, hts, hlk, hin, hE, hfr, hlo⟩ := C
  delta stR stepI at h; dsimp only at h
  split at h
  · rename_i a heq
    refine lv_aload hx hb hd (X3.2.2 _ _ heq) ?_
    exact go _ _ _ _ _ _ _ _ _ h ⟨X1, X2, X3, X4, ⟨X4.1 _ _ heq, X5⟩⟩ hc hs
  · cases h
theorem sm_istore_n {k : Fin 4} (C : Cx ω p R s m args meth c y d) (X : Dy ω s y σ L st H locs ls) (hc : cells + n0 = σ.1.1) (hs : slots + s0 = σ.1.2.1) (go : Go ω l n d y o p e R s m args below meth c n0 s0 Q) (hd : decode (mb y) pc = .ok (.istore_n k, 1)) (h : stR n d y (.istore_n k) pc L st σ = some o) : W p l e R s m args below meth c H locs cells slots Q (F0 m pc ls (st.map (conc ω))) := by
  obtain ⟨X1, X2, X3, X4, X5⟩ := X
  obtain ⟨hx, hb, hrt, hml, hown, hts, hlk, hin, hE, hfr, hlo⟩ := C
  delta stR stepI at h; dsimp only at h
  split at h
  · rename_i a r
    obtain ⟨ha, hr⟩ := X5
    split at h
    · rename_i hlt
      refine lv_istore_n (lv := lvs ω L) hx hb hd rfl X3.lv (by rw [← X3.2.1]; exact hlt) rfl (fun ls' hl' => ?_)
      exact go _ _ _ _ _ _ _ _ _ h ⟨X1, X2, X3.sto1 X4 hlt hl', X4.sto1 hlt ha rfl, hr⟩ hc hs
    · cases h
  · cases h
theorem sm_istore {k : Nat} (C : Cx ω p R s m args meth c y d) (X : Dy ω s y σ L st H locs ls) (hc : cells + n0 = σ.1.1) (hs : slots + s0 = σ.1.2.1) (go : Go ω l n d y o p e R s m args below meth c n0 s0 Q) (hd : decode (mb y) pc = .ok (.istore k, 2)) (h : stR n d y (.istore k) pc L st σ = some o) : W p l e R s m args below meth c H locs cells slots Q (F0 m pc ls (st.map (conc ω))) := by
  obtain ⟨X1, X2, X3, X4, X5⟩ := X
  obtain ⟨hx, hb, hrt, hml, hown, hts, hlk, hin, hE, hfr, hlo⟩ := C
  delta stR stepI at h; dsimp only at h
  split at h
  · rename_i a r
    obtain ⟨ha, hr⟩ := X5
    split at h
    · rename_i hlt
      refine lv_istore (lv := lvs ω L) hx hb hd X3.lv (by rw [← X3.2.1]; exact hlt) rfl (fun ls' hl' => ?_)
      exact go _ _ _ _ _ _ _ _ _ h ⟨X1, X2, X3.sto1 X4 hlt hl', X4.sto1 hlt ha rfl, hr⟩ hc hs
    · cases h
  · cases h
theorem sm_astore_n {k : Fin 4} (C : Cx ω p R s m args meth c y d) (X : Dy ω s y σ L st H locs ls) (hc : cells + n0 = σ.1.1) (hs : slots + s0 = σ.1.2.1) (go : Go ω l n d y o p e R s m args below meth c n0 s0 Q) (hd : decode (mb y) pc = .ok (.astore_n k, 1)) (h : stR n d y (.astore_n k) pc L st σ = some o) : W p l e R s m args below meth c H locs cells slots Q (F0 m pc ls (st.map (conc ω))) := by
  obtain ⟨X1, X2, X3, X4, X5⟩ := X
  obtain ⟨hx, hb, hrt, hml, hown, hts, hlk, hin, hE, hfr, hlo⟩ := C
  delta stR stepI at h; dsimp only at h
  split at h
  · rename_i a r
    obtain ⟨ha, hr⟩ := X5
    split at h
    · rename_i hlt
      refine lv_astore_n (lv := lvs ω L) hx hb hd rfl X3.lv (by rw [← X3.2.1]; exact hlt) rfl (fun ls' hl' => ?_)
      exact go _ _ _ _ _ _ _ _ _ h ⟨X1, X2, X3.sto1 X4 hlt hl', X4.sto1 hlt ha rfl, hr⟩ hc hs
    · cases h
  · cases h
theorem sm_astore {k : Nat} (C : Cx ω p R s m args meth c y d) (X : Dy ω s y σ L st H locs ls) (hc : cells + n0 = σ.1.1) (hs : slots + s0 = σ.1.2.1) (go : Go ω l n d y o p e R s m args below meth c n0 s0 Q) (hd : decode (mb y) pc = .ok (.astore k, 2)) (h : stR n d y (.astore k) pc L st σ = some o) : W p l e R s m args below meth c H locs cells slots Q (F0 m pc ls (st.map (conc ω))) := by
  obtain ⟨X1, X2, X3, X4, X5⟩ := X
  obtain ⟨hx, hb, hrt, hml, hown, hts, hlk, hin, hE, hfr, hlo⟩ := C
  delta stR stepI at h; dsimp only at h
  split at h
  · rename_i a r
    obtain ⟨ha, hr⟩ := X5
    split at h
    · rename_i hlt
      refine lv_astore (lv := lvs ω L) hx hb hd X3.lv (by rw [← X3.2.1]; exact hlt) rfl (fun ls' hl' => ?_)
      exact go _ _ _ _ _ _ _ _ _ h ⟨X1, X2, X3.sto1 X4 hlt hl', X4.sto1 hlt ha rfl, hr⟩ hc hs
    · cases h
  · cases h
theorem sm_lstore {k : Nat} (C : Cx ω p R s m args meth c y d) (X : Dy ω s y σ L st H locs ls) (hc : cells + n0 = σ.1.1) (hs : slots + s0 = σ.1.2.1) (go : Go ω l n d y o p e R s m args below meth c n0 s0 Q) (hd : decode (mb y) pc = .ok (.lstore k, 2)) (h : stR n d y (.lstore k) pc L st σ = some o) : W p l e R s m args below meth c H locs cells slots Q (F0 m pc ls (st.map (conc ω))) := by
  obtain ⟨X1, X2, X3, X4, X5⟩ := X
  obtain ⟨hx, hb, hrt, hml, hown, hts, hlk, hin, hE, hfr, hlo⟩ := C
  delta stR stepI at h; dsimp only at h
  split at h
  · rename_i a r hlg
    obtain ⟨ha, hr⟩ := X5
    split at h
    · rename_i hlt
      rw [hlg] at X4
      refine lv_lstore (lv := lvs ω L) hx hb hd X3.lv (by rw [← X3.2.1]; exact hlt) rfl (fun ls' hl' => ?_)
      exact go _ _ _ _ _ _ _ _ _ h ⟨X1, X2, X3.sto2 hlt hl', hlg ▸ X4.sto2 hlt ha, hr⟩ hc hs
    · cases h
  · cases h
theorem sm_iinc {k : Nat} {z : Int} (C : Cx ω p R s m args meth c y d) (X : Dy ω s y σ L st H locs ls) (hc : cells + n0 = σ.1.1) (hs : slots + s0 = σ.1.2.1) (go : Go ω l n d y o p e R s m args below meth c n0 s0 Q) (hd : decode (mb y) pc = .ok (.iinc k z, 3)) (h : stR n d y (.iinc k z) pc L st σ = some o) : W p l e R s m args below meth c H locs cells slots Q (F0 m pc ls (st.map (conc ω))) := by
  obtain ⟨X1, X2, X3, X4, X5⟩ := X
  obtain ⟨hx, hb, hrt, hml, hown, hts, hlk, hin, hE, hfr, hlo⟩ := C
  delta stR stepI at h; dsimp only at h
  split at h
  · rename_i a heq
    have hlt : k < L.length := (List.getElem?_eq_some_iff.mp heq).1
    obtain ⟨j, hj⟩ := List.getElem?_of_mem (lvs_mem (ω := ω).mpr ⟨_, heq, rfl⟩)
    refine lv_iinc (v := oi (wr (a + z))) (lv := lvs ω L) (x := oi a) hx hb hd X3.lv hj (oi_add a z) (by rw [← X3.2.1]; exact hlt) rfl (fun ls' hl' => ?_)
    exact go _ _ _ _ _ _ _ _ _ h ⟨X1, X2, X3.sto1 X4 hlt hl', X4.sto1 hlt (wr_R _) rfl, X5⟩ hc hs
  · cases h
theorem sm_iadd (C : Cx ω p R s m args meth c y d) (X : Dy ω s y σ L st H locs ls) (hc : cells + n0 = σ.1.1) (hs : slots + s0 = σ.1.2.1) (go : Go ω l n d y o p e R s m args below meth c n0 s0 Q) (hd : decode (mb y) pc = .ok (.iadd, 1)) (h : stR n d y (.iadd) pc L st σ = some o) : W p l e R s m args below meth c H locs cells slots Q (F0 m pc ls (st.map (conc ω))) := by
  obtain ⟨X1, X2, X3, X4, X5⟩ := X
  obtain ⟨hx, hb, hrt, hml, hown, hts, hlk, hin, hE, hfr, hlo⟩ := C
  delta stR stepI at h; dsimp only at h
  split at h
  · rename_i b a r
    obtain ⟨hb', ha, hr⟩ := X5
    refine lv_iadd hx hb hd ?_
    rw [oi_add]
    exact go _ _ _ _ _ _ _ _ _ h ⟨X1, X2, X3, X4, ⟨wr_R _, hr⟩⟩ hc hs
  · cases h
theorem sm_isub (C : Cx ω p R s m args meth c y d) (X : Dy ω s y σ L st H locs ls) (hc : cells + n0 = σ.1.1) (hs : slots + s0 = σ.1.2.1) (go : Go ω l n d y o p e R s m args below meth c n0 s0 Q) (hd : decode (mb y) pc = .ok (.isub, 1)) (h : stR n d y (.isub) pc L st σ = some o) : W p l e R s m args below meth c H locs cells slots Q (F0 m pc ls (st.map (conc ω))) := by
  obtain ⟨X1, X2, X3, X4, X5⟩ := X
  obtain ⟨hx, hb, hrt, hml, hown, hts, hlk, hin, hE, hfr, hlo⟩ := C
  delta stR stepI at h; dsimp only at h
  split at h
  · rename_i b a r
    obtain ⟨hb', ha, hr⟩ := X5
    refine lv_isub hx hb hd ?_
    rw [oi_sub]
    exact go _ _ _ _ _ _ _ _ _ h ⟨X1, X2, X3, X4, ⟨wr_R _, hr⟩⟩ hc hs
  · cases h
theorem sm_imul (C : Cx ω p R s m args meth c y d) (X : Dy ω s y σ L st H locs ls) (hc : cells + n0 = σ.1.1) (hs : slots + s0 = σ.1.2.1) (go : Go ω l n d y o p e R s m args below meth c n0 s0 Q) (hd : decode (mb y) pc = .ok (.imul, 1)) (h : stR n d y (.imul) pc L st σ = some o) : W p l e R s m args below meth c H locs cells slots Q (F0 m pc ls (st.map (conc ω))) := by
  obtain ⟨X1, X2, X3, X4, X5⟩ := X
  obtain ⟨hx, hb, hrt, hml, hown, hts, hlk, hin, hE, hfr, hlo⟩ := C
  delta stR stepI at h; dsimp only at h
  split at h
  · rename_i b a r
    obtain ⟨hb', ha, hr⟩ := X5
    refine lv_imul hx hb hd ?_
    rw [oi_mul]
    exact go _ _ _ _ _ _ _ _ _ h ⟨X1, X2, X3, X4, ⟨wr_R _, hr⟩⟩ hc hs
  · cases h
theorem sm_iand (C : Cx ω p R s m args meth c y d) (X : Dy ω s y σ L st H locs ls) (hc : cells + n0 = σ.1.1) (hs : slots + s0 = σ.1.2.1) (go : Go ω l n d y o p e R s m args below meth c n0 s0 Q) (hd : decode (mb y) pc = .ok (.iand, 1)) (h : stR n d y (.iand) pc L st σ = some o) : W p l e R s m args below meth c H locs cells slots Q (F0 m pc ls (st.map (conc ω))) := by
  obtain ⟨X1, X2, X3, X4, X5⟩ := X
  obtain ⟨hx, hb, hrt, hml, hown, hts, hlk, hin, hE, hfr, hlo⟩ := C
  delta stR stepI at h; dsimp only at h
  split at h
  · rename_i b a r
    obtain ⟨hb', ha, hr⟩ := X5
    refine lv_iand hx hb hd ?_
    rw [← oi_t (oi a &&& oi b)]
    exact go _ _ _ _ _ _ _ _ _ h ⟨X1, X2, X3, X4, ⟨i32_R _, hr⟩⟩ hc hs
  · cases h
theorem sm_ior (C : Cx ω p R s m args meth c y d) (X : Dy ω s y σ L st H locs ls) (hc : cells + n0 = σ.1.1) (hs : slots + s0 = σ.1.2.1) (go : Go ω l n d y o p e R s m args below meth c n0 s0 Q) (hd : decode (mb y) pc = .ok (.ior, 1)) (h : stR n d y (.ior) pc L st σ = some o) : W p l e R s m args below meth c H locs cells slots Q (F0 m pc ls (st.map (conc ω))) := by
  obtain ⟨X1, X2, X3, X4, X5⟩ := X
  obtain ⟨hx, hb, hrt, hml, hown, hts, hlk, hin, hE, hfr, hlo⟩ := C
  delta stR stepI at h; dsimp only at h
  split at h
  · rename_i b a r
    obtain ⟨hb', ha, hr⟩ := X5
    refine lv_ior hx hb hd ?_
    rw [← oi_t (oi a ||| oi b)]
    exact go _ _ _ _ _ _ _ _ _ h ⟨X1, X2, X3, X4, ⟨i32_R _, hr⟩⟩ hc hs
  · cases h
theorem sm_ixor (C : Cx ω p R s m args meth c y d) (X : Dy ω s y σ L st H locs ls) (hc : cells + n0 = σ.1.1) (hs : slots + s0 = σ.1.2.1) (go : Go ω l n d y o p e R s m args below meth c n0 s0 Q) (hd : decode (mb y) pc = .ok (.ixor, 1)) (h : stR n d y (.ixor) pc L st σ = some o) : W p l e R s m args below meth c H locs cells slots Q (F0 m pc ls (st.map (conc ω))) := by
  obtain ⟨X1, X2, X3, X4, X5⟩ := X
  obtain ⟨hx, hb, hrt, hml, hown, hts, hlk, hin, hE, hfr, hlo⟩ := C
  delta stR stepI at h; dsimp only at h
  split at h
  · rename_i b a r
    obtain ⟨hb', ha, hr⟩ := X5
    refine lv_ixor hx hb hd ?_
    rw [← oi_t (oi a ^^^ oi b)]
    exact go _ _ _ _ _ _ _ _ _ h ⟨X1, X2, X3, X4, ⟨i32_R _, hr⟩⟩ hc hs
  · cases h
theorem sm_ishl (C : Cx ω p R s m args meth c y d) (X : Dy ω s y σ L st H locs ls) (hc : cells + n0 = σ.1.1) (hs : slots + s0 = σ.1.2.1) (go : Go ω l n d y o p e R s m args below meth c n0 s0 Q) (hd : decode (mb y) pc = .ok (.ishl, 1)) (h : stR n d y (.ishl) pc L st σ = some o) : W p l e R s m args below meth c H locs cells slots Q (F0 m pc ls (st.map (conc ω))) := by
  obtain ⟨X1, X2, X3, X4, X5⟩ := X
  obtain ⟨hx, hb, hrt, hml, hown, hts, hlk, hin, hE, hfr, hlo⟩ := C
  delta stR stepI at h; dsimp only at h
  split at h
  · rename_i b a r
    obtain ⟨hb', ha, hr⟩ := X5
    refine lv_ishl hx hb hd ?_
    rw [← oi_t (oi a <<< (oi b &&& 31))]
    exact go _ _ _ _ _ _ _ _ _ h ⟨X1, X2, X3, X4, ⟨i32_R _, hr⟩⟩ hc hs
  · cases h
theorem sm_ishr (C : Cx ω p R s m args meth c y d) (X : Dy ω s y σ L st H locs ls) (hc : cells + n0 = σ.1.1) (hs : slots + s0 = σ.1.2.1) (go : Go ω l n d y o p e R s m args below meth c n0 s0 Q) (hd : decode (mb y) pc = .ok (.ishr, 1)) (h : stR n d y (.ishr) pc L st σ = some o) : W p l e R s m args below meth c H locs cells slots Q (F0 m pc ls (st.map (conc ω))) := by
  obtain ⟨X1, X2, X3, X4, X5⟩ := X
  obtain ⟨hx, hb, hrt, hml, hown, hts, hlk, hin, hE, hfr, hlo⟩ := C
  delta stR stepI at h; dsimp only at h
  split at h
  · rename_i b a r
    obtain ⟨hb', ha, hr⟩ := X5
    refine lv_ishr hx hb hd ?_
    rw [← oi_t (oi a >>> (oi b &&& 31))]
    exact go _ _ _ _ _ _ _ _ _ h ⟨X1, X2, X3, X4, ⟨i32_R _, hr⟩⟩ hc hs
  · cases h
theorem sm_iushr (C : Cx ω p R s m args meth c y d) (X : Dy ω s y σ L st H locs ls) (hc : cells + n0 = σ.1.1) (hs : slots + s0 = σ.1.2.1) (go : Go ω l n d y o p e R s m args below meth c n0 s0 Q) (hd : decode (mb y) pc = .ok (.iushr, 1)) (h : stR n d y (.iushr) pc L st σ = some o) : W p l e R s m args below meth c H locs cells slots Q (F0 m pc ls (st.map (conc ω))) := by
  obtain ⟨X1, X2, X3, X4, X5⟩ := X
  obtain ⟨hx, hb, hrt, hml, hown, hts, hlk, hin, hE, hfr, hlo⟩ := C
  delta stR stepI at h; dsimp only at h
  split at h
  · rename_i b a r
    obtain ⟨hb', ha, hr⟩ := X5
    refine lv_iushr (v := oi (iushr a b)) hx hb hd (oi_t _).symm ?_
    skip
    exact go _ _ _ _ _ _ _ _ _ h ⟨X1, X2, X3, X4, ⟨i32_R _, hr⟩⟩ hc hs
  · cases h
theorem sm_idiv (C : Cx ω p R s m args meth c y d) (X : Dy ω s y σ L st H locs ls) (hc : cells + n0 = σ.1.1) (hs : slots + s0 = σ.1.2.1) (go : Go ω l n d y o p e R s m args below meth c n0 s0 Q) (hd : decode (mb y) pc = .ok (.idiv, 1)) (h : stR n d y (.idiv) pc L st σ = some o) : W p l e R s m args below meth c H locs cells slots Q (F0 m pc ls (st.map (conc ω))) := by
  obtain ⟨X1, X2, X3, X4, X5⟩ := X
  obtain ⟨hx, hb, hrt, hml, hown, hts, hlk, hin, hE, hfr, hlo⟩ := C
  delta stR stepI at h; dsimp only at h
  split at h
  · rename_i b a r
    obtain ⟨hb', ha, hr⟩ := X5
    split at h
    · cases h
    · rename_i hne
      refine lv_idiv hx hb hd (oi_ne hb' hne) ?_
      rw [oi_div ha hb']
      exact go _ _ _ _ _ _ _ _ _ h ⟨X1, X2, X3, X4, ⟨wr_R _, hr⟩⟩ hc hs
  · cases h
theorem sm_irem (C : Cx ω p R s m args meth c y d) (X : Dy ω s y σ L st H locs ls) (hc : cells + n0 = σ.1.1) (hs : slots + s0 = σ.1.2.1) (go : Go ω l n d y o p e R s m args below meth c n0 s0 Q) (hd : decode (mb y) pc = .ok (.irem, 1)) (h : stR n d y (.irem) pc L st σ = some o) : W p l e R s m args below meth c H locs cells slots Q (F0 m pc ls (st.map (conc ω))) := by
  obtain ⟨X1, X2, X3, X4, X5⟩ := X
  obtain ⟨hx, hb, hrt, hml, hown, hts, hlk, hin, hE, hfr, hlo⟩ := C
  delta stR stepI at h; dsimp only at h
  split at h
  · rename_i b a r
    obtain ⟨hb', ha, hr⟩ := X5
    split at h
    · cases h
    · rename_i hne
      refine lv_irem hx hb hd (oi_ne hb' hne) ?_
      rw [oi_rem ha hb']
      exact go _ _ _ _ _ _ _ _ _ h ⟨X1, X2, X3, X4, ⟨mod_R ha hb', hr⟩⟩ hc hs
  · cases h
theorem sm_ineg (C : Cx ω p R s m args meth c y d) (X : Dy ω s y σ L st H locs ls) (hc : cells + n0 = σ.1.1) (hs : slots + s0 = σ.1.2.1) (go : Go ω l n d y o p e R s m args below meth c n0 s0 Q) (hd : decode (mb y) pc = .ok (.ineg, 1)) (h : stR n d y (.ineg) pc L st σ = some o) : W p l e R s m args below meth c H locs cells slots Q (F0 m pc ls (st.map (conc ω))) := by
  obtain ⟨X1, X2, X3, X4, X5⟩ := X
  obtain ⟨hx, hb, hrt, hml, hown, hts, hlk, hin, hE, hfr, hlo⟩ := C
  delta stR stepI at h; dsimp only at h
  split at h
  · rename_i a r
    obtain ⟨ha, hr⟩ := X5
    refine lv_ineg hx hb hd ?_
    rw [oi_neg]
    exact go _ _ _ _ _ _ _ _ _ h ⟨X1, X2, X3, X4, ⟨wr_R _, hr⟩⟩ hc hs
  · cases h
theorem sm_i2l (C : Cx ω p R s m args meth c y d) (X : Dy ω s y σ L st H locs ls) (hc : cells + n0 = σ.1.1) (hs : slots + s0 = σ.1.2.1) (go : Go ω l n d y o p e R s m args below meth c n0 s0 Q) (hd : decode (mb y) pc = .ok (.i2l, 1)) (h : stR n d y (.i2l) pc L st σ = some o) : W p l e R s m args below meth c H locs cells slots Q (F0 m pc ls (st.map (conc ω))) := by
  obtain ⟨X1, X2, X3, X4, X5⟩ := X
  obtain ⟨hx, hb, hrt, hml, hown, hts, hlk, hin, hE, hfr, hlo⟩ := C
  delta stR stepI at h; dsimp only at h
  split at h
  · rename_i a r
    obtain ⟨ha, hr⟩ := X5
    refine lv_i2l (v := ol a) hx hb hd (oi_i2l ha) ?_
    skip
    exact go _ _ _ _ _ _ _ _ _ h ⟨X1, X2, X3, X4, ⟨⟨by have h1 := ha.1; omega, by have h1 := ha.2; omega⟩, hr⟩⟩ hc hs
  · cases h
theorem sm_l2i (C : Cx ω p R s m args meth c y d) (X : Dy ω s y σ L st H locs ls) (hc : cells + n0 = σ.1.1) (hs : slots + s0 = σ.1.2.1) (go : Go ω l n d y o p e R s m args below meth c n0 s0 Q) (hd : decode (mb y) pc = .ok (.l2i, 1)) (h : stR n d y (.l2i) pc L st σ = some o) : W p l e R s m args below meth c H locs cells slots Q (F0 m pc ls (st.map (conc ω))) := by
  obtain ⟨X1, X2, X3, X4, X5⟩ := X
  obtain ⟨hx, hb, hrt, hml, hown, hts, hlk, hin, hE, hfr, hlo⟩ := C
  delta stR stepI at h; dsimp only at h
  split at h
  · rename_i a r
    obtain ⟨ha, hr⟩ := X5
    refine lv_l2i (v := oi (wr a)) hx hb hd (ol_l2i a) ?_
    skip
    exact go _ _ _ _ _ _ _ _ _ h ⟨X1, X2, X3, X4, ⟨wr_R _, hr⟩⟩ hc hs
  · cases h
theorem sm_i2b (C : Cx ω p R s m args meth c y d) (X : Dy ω s y σ L st H locs ls) (hc : cells + n0 = σ.1.1) (hs : slots + s0 = σ.1.2.1) (go : Go ω l n d y o p e R s m args below meth c n0 s0 Q) (hd : decode (mb y) pc = .ok (.i2b, 1)) (h : stR n d y (.i2b) pc L st σ = some o) : W p l e R s m args below meth c H locs cells slots Q (F0 m pc ls (st.map (conc ω))) := by
  obtain ⟨X1, X2, X3, X4, X5⟩ := X
  obtain ⟨hx, hb, hrt, hml, hown, hts, hlk, hin, hE, hfr, hlo⟩ := C
  delta stR stepI at h; dsimp only at h
  split at h
  · rename_i a r
    obtain ⟨ha, hr⟩ := X5
    refine lv_i2b (v := oi (i2b a)) hx hb hd (oi_i2b ha) ?_
    skip
    exact go _ _ _ _ _ _ _ _ _ h ⟨X1, X2, X3, X4, ⟨i2b_R _, hr⟩⟩ hc hs
  · cases h
theorem sm_i2s (C : Cx ω p R s m args meth c y d) (X : Dy ω s y σ L st H locs ls) (hc : cells + n0 = σ.1.1) (hs : slots + s0 = σ.1.2.1) (go : Go ω l n d y o p e R s m args below meth c n0 s0 Q) (hd : decode (mb y) pc = .ok (.i2s, 1)) (h : stR n d y (.i2s) pc L st σ = some o) : W p l e R s m args below meth c H locs cells slots Q (F0 m pc ls (st.map (conc ω))) := by
  obtain ⟨X1, X2, X3, X4, X5⟩ := X
  obtain ⟨hx, hb, hrt, hml, hown, hts, hlk, hin, hE, hfr, hlo⟩ := C
  delta stR stepI at h; dsimp only at h
  split at h
  · rename_i a r
    obtain ⟨ha, hr⟩ := X5
    refine lv_i2s (v := oi (i2s a)) hx hb hd (oi_i2s ha) ?_
    skip
    exact go _ _ _ _ _ _ _ _ _ h ⟨X1, X2, X3, X4, ⟨i2s_R _, hr⟩⟩ hc hs
  · cases h
theorem sm_ladd (C : Cx ω p R s m args meth c y d) (X : Dy ω s y σ L st H locs ls) (hc : cells + n0 = σ.1.1) (hs : slots + s0 = σ.1.2.1) (go : Go ω l n d y o p e R s m args below meth c n0 s0 Q) (hd : decode (mb y) pc = .ok (.ladd, 1)) (h : stR n d y (.ladd) pc L st σ = some o) : W p l e R s m args below meth c H locs cells slots Q (F0 m pc ls (st.map (conc ω))) := by
  obtain ⟨X1, X2, X3, X4, X5⟩ := X
  obtain ⟨hx, hb, hrt, hml, hown, hts, hlk, hin, hE, hfr, hlo⟩ := C
  delta stR stepI at h; dsimp only at h
  split at h
  · rename_i b a r
    obtain ⟨hb', ha, hr⟩ := X5
    refine lv_ladd hx hb hd ?_
    rw [ol_add]
    exact go _ _ _ _ _ _ _ _ _ h ⟨X1, X2, X3, X4, ⟨wl_R _, hr⟩⟩ hc hs
  · cases h
theorem sm_lmul (C : Cx ω p R s m args meth c y d) (X : Dy ω s y σ L st H locs ls) (hc : cells + n0 = σ.1.1) (hs : slots + s0 = σ.1.2.1) (go : Go ω l n d y o p e R s m args below meth c n0 s0 Q) (hd : decode (mb y) pc = .ok (.lmul, 1)) (h : stR n d y (.lmul) pc L st σ = some o) : W p l e R s m args below meth c H locs cells slots Q (F0 m pc ls (st.map (conc ω))) := by
  obtain ⟨X1, X2, X3, X4, X5⟩ := X
  obtain ⟨hx, hb, hrt, hml, hown, hts, hlk, hin, hE, hfr, hlo⟩ := C
  delta stR stepI at h; dsimp only at h
  split at h
  · rename_i b a r
    obtain ⟨hb', ha, hr⟩ := X5
    refine lv_lmul hx hb hd ?_
    rw [ol_mul]
    exact go _ _ _ _ _ _ _ _ _ h ⟨X1, X2, X3, X4, ⟨wl_R _, hr⟩⟩ hc hs
  · cases h
theorem sm_land (C : Cx ω p R s m args meth c y d) (X : Dy ω s y σ L st H locs ls) (hc : cells + n0 = σ.1.1) (hs : slots + s0 = σ.1.2.1) (go : Go ω l n d y o p e R s m args below meth c n0 s0 Q) (hd : decode (mb y) pc = .ok (.land, 1)) (h : stR n d y (.land) pc L st σ = some o) : W p l e R s m args below meth c H locs cells slots Q (F0 m pc ls (st.map (conc ω))) := by
  obtain ⟨X1, X2, X3, X4, X5⟩ := X
  obtain ⟨hx, hb, hrt, hml, hown, hts, hlk, hin, hE, hfr, hlo⟩ := C
  delta stR stepI at h; dsimp only at h
  split at h
  · rename_i b a r
    obtain ⟨hb', ha, hr⟩ := X5
    refine lv_land hx hb hd ?_
    rw [← ol_t (ol a &&& ol b)]
    exact go _ _ _ _ _ _ _ _ _ h ⟨X1, X2, X3, X4, ⟨i64_R _, hr⟩⟩ hc hs
  · cases h
theorem sm_lor (C : Cx ω p R s m args meth c y d) (X : Dy ω s y σ L st H locs ls) (hc : cells + n0 = σ.1.1) (hs : slots + s0 = σ.1.2.1) (go : Go ω l n d y o p e R s m args below meth c n0 s0 Q) (hd : decode (mb y) pc = .ok (.lor, 1)) (h : stR n d y (.lor) pc L st σ = some o) : W p l e R s m args below meth c H locs cells slots Q (F0 m pc ls (st.map (conc ω))) := by
  obtain ⟨X1, X2, X3, X4, X5⟩ := X
  obtain ⟨hx, hb, hrt, hml, hown, hts, hlk, hin, hE, hfr, hlo⟩ := C
  delta stR stepI at h; dsimp only at h
  split at h
  · rename_i b a r
    obtain ⟨hb', ha, hr⟩ := X5
    refine lv_lor hx hb hd ?_
    rw [← ol_t (ol a ||| ol b)]
    exact go _ _ _ _ _ _ _ _ _ h ⟨X1, X2, X3, X4, ⟨i64_R _, hr⟩⟩ hc hs
  · cases h
theorem sm_lshl (C : Cx ω p R s m args meth c y d) (X : Dy ω s y σ L st H locs ls) (hc : cells + n0 = σ.1.1) (hs : slots + s0 = σ.1.2.1) (go : Go ω l n d y o p e R s m args below meth c n0 s0 Q) (hd : decode (mb y) pc = .ok (.lshl, 1)) (h : stR n d y (.lshl) pc L st σ = some o) : W p l e R s m args below meth c H locs cells slots Q (F0 m pc ls (st.map (conc ω))) := by
  obtain ⟨X1, X2, X3, X4, X5⟩ := X
  obtain ⟨hx, hb, hrt, hml, hown, hts, hlk, hin, hE, hfr, hlo⟩ := C
  delta stR stepI at h; dsimp only at h
  split at h
  · rename_i b a r
    obtain ⟨hb', ha, hr⟩ := X5
    refine lv_lshl (v := ol (lshl a b)) hx hb hd (ol_t _).symm ?_
    skip
    exact go _ _ _ _ _ _ _ _ _ h ⟨X1, X2, X3, X4, ⟨i64_R _, hr⟩⟩ hc hs
  · cases h
theorem sm_lcmp (C : Cx ω p R s m args meth c y d) (X : Dy ω s y σ L st H locs ls) (hc : cells + n0 = σ.1.1) (hs : slots + s0 = σ.1.2.1) (go : Go ω l n d y o p e R s m args below meth c n0 s0 Q) (hd : decode (mb y) pc = .ok (.lcmp, 1)) (h : stR n d y (.lcmp) pc L st σ = some o) : W p l e R s m args below meth c H locs cells slots Q (F0 m pc ls (st.map (conc ω))) := by
  obtain ⟨X1, X2, X3, X4, X5⟩ := X
  obtain ⟨hx, hb, hrt, hml, hown, hts, hlk, hin, hE, hfr, hlo⟩ := C
  delta stR stepI at h; dsimp only at h
  split at h
  · rename_i b a r
    obtain ⟨hb', ha, hr⟩ := X5
    refine W.lcmp hx hb hd ?_
    rw [oi_cmp ha hb']
    exact go _ _ _ _ _ _ _ _ _ h ⟨X1, X2, X3, X4, ⟨lcmp_R _ _, hr⟩⟩ hc hs
  · cases h
theorem sm_dup (C : Cx ω p R s m args meth c y d) (X : Dy ω s y σ L st H locs ls) (hc : cells + n0 = σ.1.1) (hs : slots + s0 = σ.1.2.1) (go : Go ω l n d y o p e R s m args below meth c n0 s0 Q) (hd : decode (mb y) pc = .ok (.dup, 1)) (h : stR n d y (.dup) pc L st σ = some o) : W p l e R s m args below meth c H locs cells slots Q (F0 m pc ls (st.map (conc ω))) := by
  obtain ⟨X1, X2, X3, X4, X5⟩ := X
  obtain ⟨hx, hb, hrt, hml, hown, hts, hlk, hin, hE, hfr, hlo⟩ := C
  delta stR stepI at h; dsimp only at h
  split at h
  · refine lv_dup hx hb hd rfl ?_
    exact go _ _ _ _ _ _ _ _ _ h ⟨X1, X2, X3, X4, ⟨X5.1, X5⟩⟩ hc hs
  · refine lv_dup hx hb hd rfl ?_
    exact go _ _ _ _ _ _ _ _ _ h ⟨X1, X2, X3, X4, ⟨X5.1, X5⟩⟩ hc hs
  · cases h
theorem sm_pop (C : Cx ω p R s m args meth c y d) (X : Dy ω s y σ L st H locs ls) (hc : cells + n0 = σ.1.1) (hs : slots + s0 = σ.1.2.1) (go : Go ω l n d y o p e R s m args below meth c n0 s0 Q) (hd : decode (mb y) pc = .ok (.pop, 1)) (h : stR n d y (.pop) pc L st σ = some o) : W p l e R s m args below meth c H locs cells slots Q (F0 m pc ls (st.map (conc ω))) := by
  obtain ⟨X1, X2, X3, X4, X5⟩ := X
  obtain ⟨hx, hb, hrt, hml, hown, hts, hlk, hin, hE, hfr, hlo⟩ := C
  delta stR stepI at h; dsimp only at h
  split at h
  · refine lv_pop hx hb hd rfl ?_
    exact go _ _ _ _ _ _ _ _ _ h ⟨X1, X2, X3, X4, X5.2⟩ hc hs
  · refine lv_pop hx hb hd rfl ?_
    exact go _ _ _ _ _ _ _ _ _ h ⟨X1, X2, X3, X4, X5.2⟩ hc hs
  · cases h
theorem sm_dup_x1 (C : Cx ω p R s m args meth c y d) (X : Dy ω s y σ L st H locs ls) (hc : cells + n0 = σ.1.1) (hs : slots + s0 = σ.1.2.1) (go : Go ω l n d y o p e R s m args below meth c n0 s0 Q) (hd : decode (mb y) pc = .ok (.dup_x1, 1)) (h : stR n d y (.dup_x1) pc L st σ = some o) : W p l e R s m args below meth c H locs cells slots Q (F0 m pc ls (st.map (conc ω))) := by
  obtain ⟨X1, X2, X3, X4, X5⟩ := X
  obtain ⟨hx, hb, hrt, hml, hown, hts, hlk, hin, hE, hfr, hlo⟩ := C
  delta stR stepI at h; dsimp only at h
  split at h
  · refine lv_dup_x1 hx hb hd rfl rfl ?_
    exact go _ _ _ _ _ _ _ _ _ h ⟨X1, X2, X3, X4, ⟨X5.1, X5.2.1, X5.1, X5.2.2⟩⟩ hc hs
  · refine lv_dup_x1 hx hb hd rfl rfl ?_
    exact go _ _ _ _ _ _ _ _ _ h ⟨X1, X2, X3, X4, ⟨X5.1, X5.2.1, X5.1, X5.2.2⟩⟩ hc hs
  · cases h
theorem sm_dup2 (C : Cx ω p R s m args meth c y d) (X : Dy ω s y σ L st H locs ls) (hc : cells + n0 = σ.1.1) (hs : slots + s0 = σ.1.2.1) (go : Go ω l n d y o p e R s m args below meth c n0 s0 Q) (hd : decode (mb y) pc = .ok (.dup2, 1)) (h : stR n d y (.dup2) pc L st σ = some o) : W p l e R s m args below meth c H locs cells slots Q (F0 m pc ls (st.map (conc ω))) := by
  obtain ⟨X1, X2, X3, X4, X5⟩ := X
  obtain ⟨hx, hb, hrt, hml, hown, hts, hlk, hin, hE, hfr, hlo⟩ := C
  delta stR stepI at h; dsimp only at h
  split at h
  · refine lv_dup2_11 hx hb hd rfl rfl ?_
    exact go _ _ _ _ _ _ _ _ _ h ⟨X1, X2, X3, X4, ⟨X5.1, X5.2.1, X5.1, X5.2.1, X5.2.2⟩⟩ hc hs
  · refine lv_dup2_11 hx hb hd rfl rfl ?_
    exact go _ _ _ _ _ _ _ _ _ h ⟨X1, X2, X3, X4, ⟨X5.1, X5.2.1, X5.1, X5.2.1, X5.2.2⟩⟩ hc hs
  · cases h
theorem sm_goto {off : Int} (C : Cx ω p R s m args meth c y d) (X : Dy ω s y σ L st H locs ls) (hc : cells + n0 = σ.1.1) (hs : slots + s0 = σ.1.2.1) (go : Go ω l n d y o p e R s m args below meth c n0 s0 Q) (hm : mtok pc off = true) (hd : decode (mb y) pc = .ok (.goto off, 3)) (h : stR n d y (.goto off) pc L st σ = some o) : W p l e R s m args below meth c H locs cells slots Q (F0 m pc ls (st.map (conc ω))) := by
  obtain ⟨X1, X2, X3, X4, X5⟩ := X
  obtain ⟨hx, hb, hrt, hml, hown, hts, hlk, hin, hE, hfr, hlo⟩ := C
  delta stR stepI at h; dsimp only at h
  refine lv_goto (tgt := mtgt pc off) hx hb hd (mtgt_eq hm) ?_
  exact go _ _ _ _ _ _ _ _ _ h ⟨X1, X2, X3, X4, X5⟩ hc hs
theorem sm_ifCond_eq {off : Int} (C : Cx ω p R s m args meth c y d) (X : Dy ω s y σ L st H locs ls) (hc : cells + n0 = σ.1.1) (hs : slots + s0 = σ.1.2.1) (go : Go ω l n d y o p e R s m args below meth c n0 s0 Q) (hm : mtok pc off = true) (hd : decode (mb y) pc = .ok (.ifCond .eq off, 3)) (h : stR n d y (.ifCond .eq off) pc L st σ = some o) : W p l e R s m args below meth c H locs cells slots Q (F0 m pc ls (st.map (conc ω))) := by
  obtain ⟨X1, X2, X3, X4, X5⟩ := X
  obtain ⟨hx, hb, hrt, hml, hown, hts, hlk, hin, hE, hfr, hlo⟩ := C
  delta stR stepI at h; dsimp only at h
  split at h
  · rename_i a r
    obtain ⟨ha, hr⟩ := X5
    refine lv_if_eq (tgt := mtgt pc off) hx hb hd (mtgt_eq hm) (fun z => ?_) (fun z => ?_)
    · rw [oi_0] at z; rw [oi_eq ha iR_0] at z
      rw [if_pos (by omega)] at h
      exact go _ _ _ _ _ _ _ _ _ h ⟨X1, X2, X3, X4, hr⟩ hc hs
    · rw [oi_0] at z; rw [oi_eq ha iR_0] at z
      rw [if_neg (by omega)] at h
      exact go _ _ _ _ _ _ _ _ _ h ⟨X1, X2, X3, X4, hr⟩ hc hs
  · cases h
theorem sm_ifCond_ne {off : Int} (C : Cx ω p R s m args meth c y d) (X : Dy ω s y σ L st H locs ls) (hc : cells + n0 = σ.1.1) (hs : slots + s0 = σ.1.2.1) (go : Go ω l n d y o p e R s m args below meth c n0 s0 Q) (hm : mtok pc off = true) (hd : decode (mb y) pc = .ok (.ifCond .ne off, 3)) (h : stR n d y (.ifCond .ne off) pc L st σ = some o) : W p l e R s m args below meth c H locs cells slots Q (F0 m pc ls (st.map (conc ω))) := by
  obtain ⟨X1, X2, X3, X4, X5⟩ := X
  obtain ⟨hx, hb, hrt, hml, hown, hts, hlk, hin, hE, hfr, hlo⟩ := C
  delta stR stepI at h; dsimp only at h
  split at h
  · rename_i a r
    obtain ⟨ha, hr⟩ := X5
    refine lv_if_ne (tgt := mtgt pc off) hx hb hd (mtgt_eq hm) (fun z => ?_) (fun z => ?_)
    · rw [oi_0] at z; rw [oi_eq ha iR_0] at z
      rw [if_neg (by omega)] at h
      exact go _ _ _ _ _ _ _ _ _ h ⟨X1, X2, X3, X4, hr⟩ hc hs
    · rw [oi_0] at z; rw [oi_eq ha iR_0] at z
      rw [if_pos (by omega)] at h
      exact go _ _ _ _ _ _ _ _ _ h ⟨X1, X2, X3, X4, hr⟩ hc hs
  · cases h
theorem sm_ifCond_lt {off : Int} (C : Cx ω p R s m args meth c y d) (X : Dy ω s y σ L st H locs ls) (hc : cells + n0 = σ.1.1) (hs : slots + s0 = σ.1.2.1) (go : Go ω l n d y o p e R s m args below meth c n0 s0 Q) (hm : mtok pc off = true) (hd : decode (mb y) pc = .ok (.ifCond .lt off, 3)) (h : stR n d y (.ifCond .lt off) pc L st σ = some o) : W p l e R s m args below meth c H locs cells slots Q (F0 m pc ls (st.map (conc ω))) := by
  obtain ⟨X1, X2, X3, X4, X5⟩ := X
  obtain ⟨hx, hb, hrt, hml, hown, hts, hlk, hin, hE, hfr, hlo⟩ := C
  delta stR stepI at h; dsimp only at h
  split at h
  · rename_i a r
    obtain ⟨ha, hr⟩ := X5
    refine lv_if_lt (tgt := mtgt pc off) hx hb hd (mtgt_eq hm) (fun z => ?_) (fun z => ?_)
    · rw [oi_0] at z; rw [oi_lt ha iR_0] at z
      rw [if_pos (by omega)] at h
      exact go _ _ _ _ _ _ _ _ _ h ⟨X1, X2, X3, X4, hr⟩ hc hs
    · rw [oi_0] at z; rw [oi_lt ha iR_0] at z
      rw [if_neg (by omega)] at h
      exact go _ _ _ _ _ _ _ _ _ h ⟨X1, X2, X3, X4, hr⟩ hc hs
  · cases h
theorem sm_ifCond_ge {off : Int} (C : Cx ω p R s m args meth c y d) (X : Dy ω s y σ L st H locs ls) (hc : cells + n0 = σ.1.1) (hs : slots + s0 = σ.1.2.1) (go : Go ω l n d y o p e R s m args below meth c n0 s0 Q) (hm : mtok pc off = true) (hd : decode (mb y) pc = .ok (.ifCond .ge off, 3)) (h : stR n d y (.ifCond .ge off) pc L st σ = some o) : W p l e R s m args below meth c H locs cells slots Q (F0 m pc ls (st.map (conc ω))) := by
  obtain ⟨X1, X2, X3, X4, X5⟩ := X
  obtain ⟨hx, hb, hrt, hml, hown, hts, hlk, hin, hE, hfr, hlo⟩ := C
  delta stR stepI at h; dsimp only at h
  split at h
  · rename_i a r
    obtain ⟨ha, hr⟩ := X5
    refine lv_if_ge (tgt := mtgt pc off) hx hb hd (mtgt_eq hm) (fun z => ?_) (fun z => ?_)
    · rw [oi_0] at z; rw [oi_le iR_0 ha] at z
      rw [if_neg (by omega)] at h
      exact go _ _ _ _ _ _ _ _ _ h ⟨X1, X2, X3, X4, hr⟩ hc hs
    · rw [oi_0] at z; rw [oi_le iR_0 ha] at z
      rw [if_pos (by omega)] at h
      exact go _ _ _ _ _ _ _ _ _ h ⟨X1, X2, X3, X4, hr⟩ hc hs
  · cases h
theorem sm_ifCond_gt {off : Int} (C : Cx ω p R s m args meth c y d) (X : Dy ω s y σ L st H locs ls) (hc : cells + n0 = σ.1.1) (hs : slots + s0 = σ.1.2.1) (go : Go ω l n d y o p e R s m args below meth c n0 s0 Q) (hm : mtok pc off = true) (hd : decode (mb y) pc = .ok (.ifCond .gt off, 3)) (h : stR n d y (.ifCond .gt off) pc L st σ = some o) : W p l e R s m args below meth c H locs cells slots Q (F0 m pc ls (st.map (conc ω))) := by
  obtain ⟨X1, X2, X3, X4, X5⟩ := X
  obtain ⟨hx, hb, hrt, hml, hown, hts, hlk, hin, hE, hfr, hlo⟩ := C
  delta stR stepI at h; dsimp only at h
  split at h
  · rename_i a r
    obtain ⟨ha, hr⟩ := X5
    refine lv_if_gt (tgt := mtgt pc off) hx hb hd (mtgt_eq hm) (fun z => ?_) (fun z => ?_)
    · rw [oi_0] at z; rw [oi_lt iR_0 ha] at z
      rw [if_pos (by omega)] at h
      exact go _ _ _ _ _ _ _ _ _ h ⟨X1, X2, X3, X4, hr⟩ hc hs
    · rw [oi_0] at z; rw [oi_lt iR_0 ha] at z
      rw [if_neg (by omega)] at h
      exact go _ _ _ _ _ _ _ _ _ h ⟨X1, X2, X3, X4, hr⟩ hc hs
  · cases h
theorem sm_ifCond_le {off : Int} (C : Cx ω p R s m args meth c y d) (X : Dy ω s y σ L st H locs ls) (hc : cells + n0 = σ.1.1) (hs : slots + s0 = σ.1.2.1) (go : Go ω l n d y o p e R s m args below meth c n0 s0 Q) (hm : mtok pc off = true) (hd : decode (mb y) pc = .ok (.ifCond .le off, 3)) (h : stR n d y (.ifCond .le off) pc L st σ = some o) : W p l e R s m args below meth c H locs cells slots Q (F0 m pc ls (st.map (conc ω))) := by
  obtain ⟨X1, X2, X3, X4, X5⟩ := X
  obtain ⟨hx, hb, hrt, hml, hown, hts, hlk, hin, hE, hfr, hlo⟩ := C
  delta stR stepI at h; dsimp only at h
  split at h
  · rename_i a r
    obtain ⟨ha, hr⟩ := X5
    refine lv_if_le (tgt := mtgt pc off) hx hb hd (mtgt_eq hm) (fun z => ?_) (fun z => ?_)
    · rw [oi_0] at z; rw [oi_le ha iR_0] at z
      rw [if_neg (by omega)] at h
      exact go _ _ _ _ _ _ _ _ _ h ⟨X1, X2, X3, X4, hr⟩ hc hs
    · rw [oi_0] at z; rw [oi_le ha iR_0] at z
      rw [if_pos (by omega)] at h
      exact go _ _ _ _ _ _ _ _ _ h ⟨X1, X2, X3, X4, hr⟩ hc hs
  · cases h
theorem sm_if_icmp_eq {off : Int} (C : Cx ω p R s m args meth c y d) (X : Dy ω s y σ L st H locs ls) (hc : cells + n0 = σ.1.1) (hs : slots + s0 = σ.1.2.1) (go : Go ω l n d y o p e R s m args below meth c n0 s0 Q) (hm : mtok pc off = true) (hd : decode (mb y) pc = .ok (.if_icmp .eq off, 3)) (h : stR n d y (.if_icmp .eq off) pc L st σ = some o) : W p l e R s m args below meth c H locs cells slots Q (F0 m pc ls (st.map (conc ω))) := by
  obtain ⟨X1, X2, X3, X4, X5⟩ := X
  obtain ⟨hx, hb, hrt, hml, hown, hts, hlk, hin, hE, hfr, hlo⟩ := C
  delta stR stepI at h; dsimp only at h
  split at h
  · rename_i b a r
    obtain ⟨hb', ha, hr⟩ := X5
    refine lv_icmp_eq (tgt := mtgt pc off) hx hb hd (mtgt_eq hm) (fun z => ?_) (fun z => ?_)
    · rw [oi_eq ha hb'] at z
      rw [if_pos (by omega)] at h
      exact go _ _ _ _ _ _ _ _ _ h ⟨X1, X2, X3, X4, hr⟩ hc hs
    · rw [oi_eq ha hb'] at z
      rw [if_neg (by omega)] at h
      exact go _ _ _ _ _ _ _ _ _ h ⟨X1, X2, X3, X4, hr⟩ hc hs
  · cases h
theorem sm_if_icmp_ne {off : Int} (C : Cx ω p R s m args meth c y d) (X : Dy ω s y σ L st H locs ls) (hc : cells + n0 = σ.1.1) (hs : slots + s0 = σ.1.2.1) (go : Go ω l n d y o p e R s m args below meth c n0 s0 Q) (hm : mtok pc off = true) (hd : decode (mb y) pc = .ok (.if_icmp .ne off, 3)) (h : stR n d y (.if_icmp .ne off) pc L st σ = some o) : W p l e R s m args below meth c H locs cells slots Q (F0 m pc ls (st.map (conc ω))) := by
  obtain ⟨X1, X2, X3, X4, X5⟩ := X
  obtain ⟨hx, hb, hrt, hml, hown, hts, hlk, hin, hE, hfr, hlo⟩ := C
  delta stR stepI at h; dsimp only at h
  split at h
  · rename_i b a r
    obtain ⟨hb', ha, hr⟩ := X5
    refine lv_icmp_ne (tgt := mtgt pc off) hx hb hd (mtgt_eq hm) (fun z => ?_) (fun z => ?_)
    · rw [oi_eq ha hb'] at z
      rw [if_neg (by omega)] at h
      exact go _ _ _ _ _ _ _ _ _ h ⟨X1, X2, X3, X4, hr⟩ hc hs
    · rw [oi_eq ha hb'] at z
      rw [if_pos (by omega)] at h
      exact go _ _ _ _ _ _ _ _ _ h ⟨X1, X2, X3, X4, hr⟩ hc hs
  · cases h
theorem sm_if_icmp_lt {off : Int} (C : Cx ω p R s m args meth c y d) (X : Dy ω s y σ L st H locs ls) (hc : cells + n0 = σ.1.1) (hs : slots + s0 = σ.1.2.1) (go : Go ω l n d y o p e R s m args below meth c n0 s0 Q) (hm : mtok pc off = true) (hd : decode (mb y) pc = .ok (.if_icmp .lt off, 3)) (h : stR n d y (.if_icmp .lt off) pc L st σ = some o) : W p l e R s m args below meth c H locs cells slots Q (F0 m pc ls (st.map (conc ω))) := by
  obtain ⟨X1, X2, X3, X4, X5⟩ := X
  obtain ⟨hx, hb, hrt, hml, hown, hts, hlk, hin, hE, hfr, hlo⟩ := C
  delta stR stepI at h; dsimp only at h
  split at h
  · rename_i b a r
    obtain ⟨hb', ha, hr⟩ := X5
    refine lv_icmp_lt (tgt := mtgt pc off) hx hb hd (mtgt_eq hm) (fun z => ?_) (fun z => ?_)
    · rw [oi_lt ha hb'] at z
      rw [if_pos (by omega)] at h
      exact go _ _ _ _ _ _ _ _ _ h ⟨X1, X2, X3, X4, hr⟩ hc hs
    · rw [oi_lt ha hb'] at z
      rw [if_neg (by omega)] at h
      exact go _ _ _ _ _ _ _ _ _ h ⟨X1, X2, X3, X4, hr⟩ hc hs
  · cases h
theorem sm_if_icmp_ge {off : Int} (C : Cx ω p R s m args meth c y d) (X : Dy ω s y σ L st H locs ls) (hc : cells + n0 = σ.1.1) (hs : slots + s0 = σ.1.2.1) (go : Go ω l n d y o p e R s m args below meth c n0 s0 Q) (hm : mtok pc off = true) (hd : decode (mb y) pc = .ok (.if_icmp .ge off, 3)) (h : stR n d y (.if_icmp .ge off) pc L st σ = some o) : W p l e R s m args below meth c H locs cells slots Q (F0 m pc ls (st.map (conc ω))) := by
  obtain ⟨X1, X2, X3, X4, X5⟩ := X
  obtain ⟨hx, hb, hrt, hml, hown, hts, hlk, hin, hE, hfr, hlo⟩ := C
  delta stR stepI at h; dsimp only at h
  split at h
  · rename_i b a r
    obtain ⟨hb', ha, hr⟩ := X5
    refine lv_icmp_ge (tgt := mtgt pc off) hx hb hd (mtgt_eq hm) (fun z => ?_) (fun z => ?_)
    · rw [oi_le hb' ha] at z
      rw [if_neg (by omega)] at h
      exact go _ _ _ _ _ _ _ _ _ h ⟨X1, X2, X3, X4, hr⟩ hc hs
    · rw [oi_le hb' ha] at z
      rw [if_pos (by omega)] at h
      exact go _ _ _ _ _ _ _ _ _ h ⟨X1, X2, X3, X4, hr⟩ hc hs
  · cases h
theorem sm_if_icmp_gt {off : Int} (C : Cx ω p R s m args meth c y d) (X : Dy ω s y σ L st H locs ls) (hc : cells + n0 = σ.1.1) (hs : slots + s0 = σ.1.2.1) (go : Go ω l n d y o p e R s m args below meth c n0 s0 Q) (hm : mtok pc off = true) (hd : decode (mb y) pc = .ok (.if_icmp .gt off, 3)) (h : stR n d y (.if_icmp .gt off) pc L st σ = some o) : W p l e R s m args below meth c H locs cells slots Q (F0 m pc ls (st.map (conc ω))) := by
  obtain ⟨X1, X2, X3, X4, X5⟩ := X
  obtain ⟨hx, hb, hrt, hml, hown, hts, hlk, hin, hE, hfr, hlo⟩ := C
  delta stR stepI at h; dsimp only at h
  split at h
  · rename_i b a r
    obtain ⟨hb', ha, hr⟩ := X5
    refine lv_icmp_gt (tgt := mtgt pc off) hx hb hd (mtgt_eq hm) (fun z => ?_) (fun z => ?_)
    · rw [oi_lt hb' ha] at z
      rw [if_pos (by omega)] at h
      exact go _ _ _ _ _ _ _ _ _ h ⟨X1, X2, X3, X4, hr⟩ hc hs
    · rw [oi_lt hb' ha] at z
      rw [if_neg (by omega)] at h
      exact go _ _ _ _ _ _ _ _ _ h ⟨X1, X2, X3, X4, hr⟩ hc hs
  · cases h
theorem sm_if_icmp_le {off : Int} (C : Cx ω p R s m args meth c y d) (X : Dy ω s y σ L st H locs ls) (hc : cells + n0 = σ.1.1) (hs : slots + s0 = σ.1.2.1) (go : Go ω l n d y o p e R s m args below meth c n0 s0 Q) (hm : mtok pc off = true) (hd : decode (mb y) pc = .ok (.if_icmp .le off, 3)) (h : stR n d y (.if_icmp .le off) pc L st σ = some o) : W p l e R s m args below meth c H locs cells slots Q (F0 m pc ls (st.map (conc ω))) := by
  obtain ⟨X1, X2, X3, X4, X5⟩ := X
  obtain ⟨hx, hb, hrt, hml, hown, hts, hlk, hin, hE, hfr, hlo⟩ := C
  delta stR stepI at h; dsimp only at h
  split at h
  · rename_i b a r
    obtain ⟨hb', ha, hr⟩ := X5
    refine lv_icmp_le (tgt := mtgt pc off) hx hb hd (mtgt_eq hm) (fun z => ?_) (fun z => ?_)
    · rw [oi_le ha hb'] at z
      rw [if_neg (by omega)] at h
      exact go _ _ _ _ _ _ _ _ _ h ⟨X1, X2, X3, X4, hr⟩ hc hs
    · rw [oi_le ha hb'] at z
      rw [if_pos (by omega)] at h
      exact go _ _ _ _ _ _ _ _ _ h ⟨X1, X2, X3, X4, hr⟩ hc hs
  · cases h
theorem sm_tableswitch {df lo hi : Int} {offs : Array Int} {ln : Nat} (C : Cx ω p R s m args meth c y d) (X : Dy ω s y σ L st H locs ls) (hc : cells + n0 = σ.1.1) (hs : slots + s0 = σ.1.2.1) (go : Go ω l n d y o p e R s m args below meth c n0 s0 Q) (hm : mrng pc (.tableswitch df lo hi offs) = true) (hd : decode (mb y) pc = .ok (.tableswitch df lo hi offs, ln)) (h : stR n d y (.tableswitch df lo hi offs) pc L st σ = some o) : W p l e R s m args below meth c H locs cells slots Q (F0 m pc ls (st.map (conc ω))) := by
  obtain ⟨X1, X2, X3, X4, X5⟩ := X
  obtain ⟨hx, hb, hrt, hml, hown, hts, hlk, hin, hE, hfr, hlo⟩ := C
  delta stR stepI at h; dsimp only at h
  simp only [mrng, Bool.and_eq_true, decide_eq_true_eq, List.all_eq_true] at hm
  obtain ⟨⟨hm1, hm2⟩, hm3⟩ := hm
  split at h
  · rename_i a r
    obtain ⟨ha, hr⟩ := X5
    rcases mtbK_cases a (run n d y (mtgt pc df) L r σ) (fun off => run n d y (mtgt pc off) L r σ) offs.toList lo with ⟨z, e1⟩ | ⟨z1, z2, off, e0, e1⟩
    · rw [e1] at h
      refine lv_tableOut (tgt := mtgt pc df) hx hb hd (by rw [oi_i ha]; omega) (mtgt_eq hm1) ?_
      exact go _ _ _ _ _ _ _ _ _ h ⟨X1, X2, X3, X4, hr⟩ hc hs
    · rw [e1] at h
      refine lv_tableIn (tgt := mtgt pc off) (off := off) hx hb hd (by rw [oi_i ha]; omega) (by rw [oi_i ha]; omega) (by rw [oi_i ha]; simpa using e0) (mtgt_eq (hm2 _ (List.mem_of_getElem? e0))) ?_
      exact go _ _ _ _ _ _ _ _ _ h ⟨X1, X2, X3, X4, hr⟩ hc hs
  · cases h
theorem sm_lookupswitch {df : Int} {ps : Array (Int × Int)} {ln : Nat} (C : Cx ω p R s m args meth c y d) (X : Dy ω s y σ L st H locs ls) (hc : cells + n0 = σ.1.1) (hs : slots + s0 = σ.1.2.1) (go : Go ω l n d y o p e R s m args below meth c n0 s0 Q) (hm : mrng pc (.lookupswitch df ps) = true) (hd : decode (mb y) pc = .ok (.lookupswitch df ps, ln)) (h : stR n d y (.lookupswitch df ps) pc L st σ = some o) : W p l e R s m args below meth c H locs cells slots Q (F0 m pc ls (st.map (conc ω))) := by
  obtain ⟨X1, X2, X3, X4, X5⟩ := X
  obtain ⟨hx, hb, hrt, hml, hown, hts, hlk, hin, hE, hfr, hlo⟩ := C
  delta stR stepI at h; dsimp only at h
  simp only [mrng, Bool.and_eq_true, List.all_eq_true (p := fun q : Int × Int => mtok pc q.2)] at hm
  obtain ⟨⟨hm1, hm2⟩, hm3⟩ := hm
  split at h
  · rename_i a r
    obtain ⟨ha, hr⟩ := X5
    obtain ⟨off, e0, e1, e2⟩ := mlkK_cases df a (fun off => run n d y (mtgt pc off) L r σ) ps.toList
    rw [e1] at h
    refine lv_lookup (tgt := mtgt pc off) (off := off) hx hb hd hm3 (by rw [oi_i ha]; exact e0) (mtgt_eq (e2.elim (fun z => z ▸ hm1) (fun ⟨q, z1, z2⟩ => z2 ▸ hm2 q z1))) ?_
    exact go _ _ _ _ _ _ _ _ _ h ⟨X1, X2, X3, X4, hr⟩ hc hs
  · cases h
end SIM
