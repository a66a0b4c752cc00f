def BodyS (ω : mWo) (l : Launch) (n : Nat) : Prop := ∀ (d y pc : Nat) (L : mLoc) (st : List mVal) (σ : mSg) (o : mOut), run n d y pc L st σ = some o →
  ∀ (p : Program) (e : Env) (R : Room) (s : State) (m : MethodId) (args : Array Value) (below : List Frame) (meth : Method) (c : Code) (H : Heap) (locs : List Loc) (cells slots : Nat) (ls : Array Slot) (Q : State → Prop) (n0 s0 : Nat),
    Cx ω p R s m args meth c y d → Dy ω s y σ L st H locs ls → cells + n0 = σ.1.1 → slots + s0 = σ.1.2.1 → s.heap.size + 3 = wh ω + n0 → 3 ≤ n0 → o.2.1.1 ≤ R.cells + n0 → o.2.1.2.1 ≤ R.slots + s0 → Hend ω l o p e R s m args below meth c y n0 s0 Q →
    W p l e R s m args below meth c H locs cells slots Q (F0 m pc ls (st.map (conc ω)))
set_option maxHeartbeats 8000000 in
theorem body_succ {ω : mWo} {l : Launch} {n : Nat} (hB : BodyS ω l n) (hM : MetS ω l n) : BodyS ω l (n + 1) := by
  intro d y pc L st σ o h p e R s m args below meth c H locs cells slots ls Q n0 s0 C X hc hs hz h30 hoc hos hend
  have go : Go ω l n d y o p e R s m args below meth c n0 s0 Q := fun pc' L' st' σ' H' locs' cells' slots' ls' h' X' hc' hs' => hB d y pc' L' st' σ' o h' p e R s m args below meth c H' locs' cells' slots' ls' Q n0 s0 C X' hc' hs' hz h30 hoc hos hend
  unfold run at h
  cases hd : decode (mb y) pc with
  | error er => rw [hd] at h; exact absurd h (by simp)
  | ok q =>
    obtain ⟨i, ln⟩ := q
    rw [hd] at h
    dsimp only at h
    by_cases hck : mchk pc i ln = true
    · rw [if_pos hck] at h
      have h : stR n d y i pc L st σ = some o := h
      have hck2 := hck
      simp only [mchk, Bool.and_eq_true, Bool.or_eq_true, beq_iff_eq] at hck2
      obtain ⟨hl, hm⟩ := hck2
      clear hck
      cases i
      case dup => obtain rfl := hl.resolve_left (by decide); exact sm_dup C X hc hs go hd h
      case dup_x1 => obtain rfl := hl.resolve_left (by decide); exact sm_dup_x1 C X hc hs go hd h
      case dup2 => obtain rfl := hl.resolve_left (by decide); exact sm_dup2 C X hc hs go hd h
      case pop => obtain rfl := hl.resolve_left (by decide); exact sm_pop C X hc hs go hd h
      case i2b => obtain rfl := hl.resolve_left (by decide); exact sm_i2b C X hc hs go hd h
      case i2l => obtain rfl := hl.resolve_left (by decide); exact sm_i2l C X hc hs go hd h
      case i2s => obtain rfl := hl.resolve_left (by decide); exact sm_i2s C X hc hs go hd h
      case iadd => obtain rfl := hl.resolve_left (by decide); exact sm_iadd C X hc hs go hd h
      case iand => obtain rfl := hl.resolve_left (by decide); exact sm_iand C X hc hs go hd h
      case idiv => obtain rfl := hl.resolve_left (by decide); exact sm_idiv C X hc hs go hd h
      case imul => obtain rfl := hl.resolve_left (by decide); exact sm_imul C X hc hs go hd h
      case ineg => obtain rfl := hl.resolve_left (by decide); exact sm_ineg C X hc hs go hd h
      case ior => obtain rfl := hl.resolve_left (by decide); exact sm_ior C X hc hs go hd h
      case irem => obtain rfl := hl.resolve_left (by decide); exact sm_irem C X hc hs go hd h
      case ishl => obtain rfl := hl.resolve_left (by decide); exact sm_ishl C X hc hs go hd h
      case ishr => obtain rfl := hl.resolve_left (by decide); exact sm_ishr C X hc hs go hd h
      case isub => obtain rfl := hl.resolve_left (by decide); exact sm_isub C X hc hs go hd h
      case iushr => obtain rfl := hl.resolve_left (by decide); exact sm_iushr C X hc hs go hd h
      case ixor => obtain rfl := hl.resolve_left (by decide); exact sm_ixor C X hc hs go hd h
      case l2i => obtain rfl := hl.resolve_left (by decide); exact sm_l2i C X hc hs go hd h
      case ladd => obtain rfl := hl.resolve_left (by decide); exact sm_ladd C X hc hs go hd h
      case land => obtain rfl := hl.resolve_left (by decide); exact sm_land C X hc hs go hd h
      case lcmp => obtain rfl := hl.resolve_left (by decide); exact sm_lcmp C X hc hs go hd h
      case lmul => obtain rfl := hl.resolve_left (by decide); exact sm_lmul C X hc hs go hd h
      case lor => obtain rfl := hl.resolve_left (by decide); exact sm_lor C X hc hs go hd h
      case lshl => obtain rfl := hl.resolve_left (by decide); exact sm_lshl C X hc hs go hd h
      case iaload => obtain rfl := hl.resolve_left (by decide); exact sm_iaload C X hc hs go hd h
      case saload => obtain rfl := hl.resolve_left (by decide); exact sm_saload C X hc hs go hd h
      case baload => obtain rfl := hl.resolve_left (by decide); exact sm_baload C X hc hs go hd h
      case laload => obtain rfl := hl.resolve_left (by decide); exact sm_laload C X hc hs go hd h
      case aaload => obtain rfl := hl.resolve_left (by decide); exact sm_aaload C X hc hs go hd h
      case iastore => obtain rfl := hl.resolve_left (by decide); exact sm_iastore C X hc hs go hd h
      case sastore => obtain rfl := hl.resolve_left (by decide); exact sm_sastore C X hc hs go hd h
      case bastore => obtain rfl := hl.resolve_left (by decide); exact sm_bastore C X hc hs go hd h
      case lastore => obtain rfl := hl.resolve_left (by decide); exact sm_lastore C X hc hs go hd h
      case aastore => obtain rfl := hl.resolve_left (by decide); exact sm_aastore C X hc hs go hd h
      case arraylength => obtain rfl := hl.resolve_left (by decide); exact sm_arraylength C X hc hs go hd h
      case aload k => obtain rfl := hl.resolve_left (by intro z; cases z); exact sm_aload C X hc hs go hd h
      case aload_n k => obtain rfl := hl.resolve_left (by intro z; cases z); exact sm_aload_n C X hc hs go hd h
      case astore k => obtain rfl := hl.resolve_left (by intro z; cases z); exact sm_astore C X hc hs go hd h
      case astore_n k => obtain rfl := hl.resolve_left (by intro z; cases z); exact sm_astore_n C X hc hs go hd h
      case getfield k => obtain rfl := hl.resolve_left (by intro z; cases z); exact sm_getfield C X hc hs go hd h
      case getstatic k => obtain rfl := hl.resolve_left (by intro z; cases z); exact sm_getstatic C X hc hs go hd h
      case iload k => obtain rfl := hl.resolve_left (by intro z; cases z); exact sm_iload C X hc hs go hd h
      case iload_n k => obtain rfl := hl.resolve_left (by intro z; cases z); exact sm_iload_n C X hc hs go hd h
      case istore k => obtain rfl := hl.resolve_left (by intro z; cases z); exact sm_istore C X hc hs go hd h
      case istore_n k => obtain rfl := hl.resolve_left (by intro z; cases z); exact sm_istore_n C X hc hs go hd h
      case lconst k => obtain rfl := hl.resolve_left (by intro z; cases z); exact sm_lconst C X hc hs go hd h
      case ldc k => obtain rfl := hl.resolve_left (by intro z; cases z); exact sm_ldc C X hc hs go hd h
      case ldc_w k => obtain rfl := hl.resolve_left (by intro z; cases z); exact sm_ldc_w C X hc hs go hd h
      case ldc2_w k => obtain rfl := hl.resolve_left (by intro z; cases z); exact sm_ldc2_w C X hc hs go hd h
      case lload k => obtain rfl := hl.resolve_left (by intro z; cases z); exact sm_lload C X hc hs go hd h
      case lload_n k => obtain rfl := hl.resolve_left (by intro z; cases z); exact sm_lload_n C X hc hs go hd h
      case lstore k => obtain rfl := hl.resolve_left (by intro z; cases z); exact sm_lstore C X hc hs go hd h
      case putfield k => obtain rfl := hl.resolve_left (by intro z; cases z); exact sm_putfield C X hc hs go hd h
      case iconst k => obtain rfl := hl.resolve_left (by intro z; cases z); exact sm_iconst C X hc hs go hm hd h
      case bipush k => obtain rfl := hl.resolve_left (by intro z; cases z); exact sm_bipush C X hc hs go hm hd h
      case sipush k => obtain rfl := hl.resolve_left (by intro z; cases z); exact sm_sipush C X hc hs go hm hd h
      case iinc k z => obtain rfl := hl.resolve_left (by intro z; cases z); exact sm_iinc C X hc hs go hd h
      case goto k => obtain rfl := hl.resolve_left (by intro z; cases z); exact sm_goto C X hc hs go hm hd h
      case ifCond cd k hh =>
        obtain rfl := hl.resolve_left (by intro z; cases z)
        cases cd
        · exact sm_ifCond_eq C X hc hs go hm hd h
        · exact sm_ifCond_ne C X hc hs go hm hd h
        · exact sm_ifCond_lt C X hc hs go hm hd h
        · exact sm_ifCond_ge C X hc hs go hm hd h
        · exact sm_ifCond_gt C X hc hs go hm hd h
        · exact sm_ifCond_le C X hc hs go hm hd h
      case if_icmp cd k hh =>
        obtain rfl := hl.resolve_left (by intro z; cases z)
        cases cd
        · exact sm_if_icmp_eq C X hc hs go hm hd h
        · exact sm_if_icmp_ne C X hc hs go hm hd h
        · exact sm_if_icmp_lt C X hc hs go hm hd h
        · exact sm_if_icmp_ge C X hc hs go hm hd h
        · exact sm_if_icmp_gt C X hc hs go hm hd h
        · exact sm_if_icmp_le C X hc hs go hm hd h
      case tableswitch a b c2 d2 => exact sm_tableswitch C X hc hs go hm hd h
      case lookupswitch a b => exact sm_lookupswitch C X hc hs go hm hd h
      case new k => obtain rfl := hl.resolve_left (by intro z; cases z); exact sm_new C X hc hs go hz h30 hoc hos hd h
      case newarray k => obtain rfl := hl.resolve_left (by intro z; cases z); exact sm_newarray C X hc hs go hz h30 hoc hos hd h
      case anewarray k => obtain rfl := hl.resolve_left (by intro z; cases z); exact sm_anewarray C X hc hs go hz h30 hoc hos hd h
      case invokevirtual k => obtain rfl := hl.resolve_left (by intro z; cases z); exact sm_invokevirtual C X hc hs go hz h30 hoc hos hM hd h
      case invokespecial k => obtain rfl := hl.resolve_left (by intro z; cases z); exact sm_invokespecial C X hc hs go hz h30 hoc hos hM hd h
      case invokestatic k => obtain rfl := hl.resolve_left (by intro z; cases z); exact sm_invokestatic C X hc hs go hz h30 hoc hos hM hd h
      case ireturn => obtain rfl := hl.resolve_left (by decide); exact sm_ireturn C X hc hs go hend hd h
      case lreturn => obtain rfl := hl.resolve_left (by decide); exact sm_lreturn C X hc hs go hend hd h
      case return_ => obtain rfl := hl.resolve_left (by decide); exact sm_return_ C X hc hs go hend hd h
      all_goals (delta stR stepI at h; dsimp only at h; cases h)
    · rw [if_neg hck] at h; cases h
theorem mflat_args {ω : mWo} : ∀ (as : List mVal) (j k : Nat) (v : mVal), (mflat as)[k]? = some (some v) → (j + k, conc ω v) ∈ lv_args j (as.map (conc ω)) ∧ v ∈ as
  | [], _, _, _, h => by simp [mflat] at h
  | .inl a :: r, j, k, v, h => by
    unfold mflat at h
    cases k with
    | zero => cases h; exact ⟨List.mem_cons_self, List.mem_cons_self⟩
    | succ k =>
      have := mflat_args (ω := ω) r (j + 1) k v (by simpa using h)
      rw [show j + (k + 1) = j + 1 + k by omega]
      exact ⟨List.mem_cons_of_mem _ this.1, List.mem_cons_of_mem _ this.2⟩
  | .inr (.inl a) :: r, j, k, v, h => by
    unfold mflat at h
    match k, h with
    | 0, h => cases h; exact ⟨List.mem_cons_self, List.mem_cons_self⟩
    | 1, h => cases h
    | k + 2, h =>
      have := mflat_args (ω := ω) r (j + 2) k v (by simpa using h)
      rw [show j + (k + 2) = j + 2 + k by omega]
      exact ⟨List.mem_cons_of_mem _ this.1, List.mem_cons_of_mem _ this.2⟩
  | .inr (.inr none) :: r, j, k, v, h => by
    unfold mflat at h
    cases k with
    | zero => cases h; exact ⟨List.mem_cons_self, List.mem_cons_self⟩
    | succ k =>
      have := mflat_args (ω := ω) r (j + 1) k v (by simpa using h)
      rw [show j + (k + 1) = j + 1 + k by omega]
      exact ⟨List.mem_cons_of_mem _ this.1, List.mem_cons_of_mem _ this.2⟩
  | .inr (.inr (some c)) :: r, j, k, v, h => by
    unfold mflat at h
    cases k with
    | zero => cases h; exact ⟨List.mem_cons_self, List.mem_cons_self⟩
    | succ k =>
      have := mflat_args (ω := ω) r (j + 1) k v (by simpa using h)
      rw [show j + (k + 1) = j + 1 + k by omega]
      exact ⟨List.mem_cons_of_mem _ this.1, List.mem_cons_of_mem _ this.2⟩
theorem mflat_sl {ω : mWo} : ∀ as : List mVal, (lg_sl (as.map (conc ω))).length = (mflat as).length
  | [] => rfl
  | .inl a :: r => by
    have := mflat_sl (ω := ω) r
    unfold mflat
    simp only [lg_sl, List.map_cons, List.flatMap_cons, List.length_append, List.length_cons] at this ⊢
    rw [this, if_neg (by show ¬ (1 : Nat) = 2; decide)]
    simp; omega
  | .inr (.inl a) :: r => by
    have := mflat_sl (ω := ω) r
    unfold mflat
    simp only [lg_sl, List.map_cons, List.flatMap_cons, List.length_append, List.length_cons] at this ⊢
    rw [this, if_pos (by show (2 : Nat) = 2; rfl)]
    simp; omega
  | .inr (.inr none) :: r => by
    have := mflat_sl (ω := ω) r
    unfold mflat
    simp only [lg_sl, List.map_cons, List.flatMap_cons, List.length_append, List.length_cons] at this ⊢
    rw [this, if_neg (by show ¬ (1 : Nat) = 2; decide)]
    simp; omega
  | .inr (.inr (some c)) :: r => by
    have := mflat_sl (ω := ω) r
    unfold mflat
    simp only [lg_sl, List.map_cons, List.flatMap_cons, List.length_append, List.length_cons] at this ⊢
    rw [this, if_neg (by show ¬ (1 : Nat) = 2; decide)]
    simp; omega
theorem ment_get {n : Nat} {as : List mVal} {k : Nat} {v : mVal} (h : (mentN n as)[k]? = some (some v)) : (mflat as)[k]? = some (some v) := by
  unfold mentN at h
  by_cases hk : k < (mflat as).length
  · rwa [List.getElem?_append_left hk] at h
  · rw [List.getElem?_append_right (by omega)] at h
    rw [List.getElem?_replicate] at h
    split at h <;> cases h
theorem ment_rel {ω : mWo} {n : Nat} {lg : Bool} {as : List mVal} (hk : menokN n lg as = true) (hs : stk as) : Lrel ω ((lg_sl (as.map (conc ω)) ++ List.replicate (n - (lg_sl (as.map (conc ω))).length) Slot.unset).toArray) n (mentN n as) ∧ Lok lg (mentN n as) := by
  simp only [menokN, Bool.and_eq_true, decide_eq_true_eq, Bool.or_eq_true, List.all_eq_true] at hk
  have hl := lv_entry (as.map (conc ω)) (n := n) (by rw [mflat_sl]; exact hk.1)
  refine ⟨⟨⟨hl.1, hl.2.1, fun q hq => by cases hq⟩, by unfold mentN; simp; omega, fun k v h => ?_⟩, fun k v h => ?_, fun e k v h => ?_⟩
  · have := mflat_args (ω := ω) as 0 k v (ment_get h)
    rw [Nat.zero_add] at this
    exact hl.2.2 _ this.1
  · exact stk_mem.mp hs v (mflat_args (ω := ω) as 0 k v (ment_get h)).2
  · rcases hk.2 with z | z
    · rw [e] at z; cases z
    · exact z v (mflat_args (ω := ω) as 0 k v (ment_get h)).2
theorem mret_all : (List.range 236).all (fun y => decide (mret y = if mrt y = 0 then none else if mrt y = 1 then some .int else if mrt y = 2 then some .boolean else some .long)) = true := by decide +kernel
theorem mret_of {y : Nat} (h : y < 236) : mret y = if mrt y = 0 then none else if mrt y = 1 then some .int else if mrt y = 2 then some .boolean else some .long := by
  simpa using List.all_eq_true.mp mret_all y (List.mem_range.mpr h)
theorem met_of_body {ω : mWo} {l : Launch} {n : Nat} (hB : BodyS ω l n) : MetS ω l n := by
  intro d y as σ o h hy hek hsa
  obtain ⟨f1, f2, f3, f4, f5, f6, -, -, -, f10⟩ := m_facts hy
  have hle := run_le _ _ _ _ _ _ _ _ h
  refine Met.ofW (cc := mb y) (maxL := mnl y) (ret := mret y) f4 rfl ?_
  intro p e s m args below meth c s₁ B hml hv
  obtain ⟨rfl, hE, hH, hsz⟩ := hv
  have hts := atoms_spec (ws := mcw y :: lw_g) B.pre
  have hown : s.vm.findClass (mnm y).cls = some m.cls := findClass_of_methodNamed B.named
  have hnm : meth.name = (mnm y).name := (name_of_methodNamed B.named B.method).1
  obtain ⟨hL1, hL2⟩ := ment_rel (ω := ω) hek hsa
  have hlk : meth.locks = false := B.notSynchronized
  rw [lg_entry_eq]
  refine hB d y 0 _ [] σ o h p e _ s m _ below meth c s.heap [] 0 0 _ _ σ.1.1 σ.1.2.1 ⟨B.exec, B.bytes, B.returns, hml, by rw [← f3]; exact hown, fun w hw => hts w (List.mem_cons_of_mem _ hw), hlk, fun z => by rw [hnm]; exact f10 z, hE, Nat.le_refl _, Nat.le_refl _⟩ ⟨hH, va_S.rf, hL1, hL2, trivial⟩ (Nat.zero_add _) (Nat.zero_add _) hsz hH.2.1 (by show o.2.1.1 ≤ (o.2.1.1 - σ.1.1) + σ.1.1; omega) (by show o.2.1.2.1 ≤ (o.2.1.2.1 - σ.1.2.1) + σ.1.2.1; omega) ?_
  intro pc ls H locs cells slots e1 e2 hHo hS hvo hrk
  obtain rfl : cells = o.2.1.1 - σ.1.1 := by omega
  obtain rfl : slots = o.2.1.2.1 - σ.1.2.1 := by omega
  have hmr := mret_of (show y < 236 by omega)
  obtain ⟨ov, σ'⟩ := o
  rcases ov with _ | (a | a | (_ | a))
  · obtain ⟨r1, r2⟩ := hrk
    rw [r2, if_pos rfl] at hmr
    exact W.vret B.exec B.bytes (by rw [B.returns]; exact hmr) (fun t ht hW => ⟨rfl, by rw [ht]; exact hHo, hvo, hS.F ht⟩) hS.2.2 r1 hlk
  · obtain ⟨r1, r2 | ⟨r2, r3⟩⟩ := hrk
    · rw [r2] at hmr
      exact W.iret (v := oi a) B.exec B.bytes (by rw [B.returns]; exact hmr) (fun t ht hW => ⟨rfl, by rw [ht]; exact hHo, hvo, hS.F ht⟩) hS.2.2 r1 hlk
    · rw [r2] at hmr
      exact W.zret (v := oi a) (ty := .boolean) B.exec B.bytes (by rw [B.returns]; exact hmr) (by rcases r3 with rfl | rfl <;> rfl) (fun t ht hW => ⟨rfl, by rw [ht]; exact hHo, hvo, hS.F ht⟩) hS.2.2 r1 hlk
  · obtain ⟨r1, r2⟩ := hrk
    rw [r2] at hmr
    exact W.lret (v := ol a) B.exec B.bytes (by rw [B.returns]; exact hmr) (fun t ht hW => ⟨rfl, by rw [ht]; exact hHo, hvo, hS.F ht⟩) hS.2.2 r1 hlk
  · exact hrk.elim
  · exact hrk.elim
theorem body_all (ω : mWo) (l : Launch) : ∀ n, BodyS ω l n
  | 0 => fun d y pc L st σ o h => by simp [run] at h
  | n + 1 => body_succ (body_all ω l n) (met_of_body (body_all ω l n))
