def rmd (d mc ms : Nat) : Room := { frames := d + 1, cells := mc, slots := ms, locals := 41 * (d + 1) }
def ovok : Option mVal → Prop
  | none => True
  | some v => vok v
def PcS (ω : mWo) (as : List mVal) (σ : mSg) : Array Value → State → Prop := va_Pc (as.map (conc ω)) (fun U => En ω U ∧ Hok ω σ U.heap ∧ U.heap.size + 3 = wh ω + σ.1.1)
def QcS (ω : mWo) (o : mOut) : Array Value → State → Outcome → State → Prop := fun _ st oc t => oc = .returned (o.1.map (conc ω)) ∧ Hok ω o.2 t.heap ∧ ovok o.1 ∧ va_F (wA ω) st t
def MetS (ω : mWo) (l : Launch) (n : Nat) : Prop := ∀ (d y : Nat) (as : List mVal) (σ : mSg) (o : mOut), run n d y 0 (mentN (mnl y) as) [] σ = some o → y < 235 → menokN (mnl y) (mlg y) as = true → stk as →
  Met l (mnm y) (mcw y :: lw_g) (rmd d (o.2.1.1 - σ.1.1) (o.2.1.2.1 - σ.1.2.1)) (PcS ω as σ) (QcS ω o) (o.2.1.1 - σ.1.1) (o.2.1.2.1 - σ.1.2.1) (wA ω)
theorem En.to {ω : mWo} {s U : State} {locs : List Loc} (h : En ω s) (X2 : va_S (wA ω) s.heap U.heap locs) (hW : s.WarmedH U.vm) : En ω U := by
  obtain ⟨h1, h2, h3, h4, h5, h6⟩ := h
  refine ⟨va_K.moved hW.alike h1, fun c hc => ⟨va_X.moved hW.alike ((h2 c hc).1.kept (X2.2.1 _ (Nat.lt_of_lt_of_le (h2 c hc).2 h3) (fun z => absurd (h2 c hc).2 (Nat.not_lt.mpr z)))), (h2 c hc).2⟩, Nat.le_trans h3 X2.1, ?_, ?_, h6.warm hW⟩
  · exact (va_Z.moved hW.alike h4).kept X2.2.1
  · exact (va_Z.moved hW.alike h5).kept X2.2.1
theorem PcS_blind {ω : mWo} {as : List mVal} {σ : mSg} : FrameBlind (PcS ω as σ) := by
  intro a U g mk q
  obtain ⟨q0, ⟨h1, h2, h3, h4, h5, h6⟩, q2, q3⟩ := q
  refine ⟨q0, ⟨va_K.moved (u := U) (U := U.calling g mk a) (Vm.Alike.refl U.vm) h1, fun c hc => ⟨va_X.moved (u := U) (U := U.calling g mk a) (Vm.Alike.refl U.vm) (h2 c hc).1, (h2 c hc).2⟩, h3, ?_, ?_, ?_⟩, q2, q3⟩
  · exact va_Z.moved (u := U) (U := U.calling g mk a) (Vm.Alike.refl U.vm) h4
  · exact va_Z.moved (u := U) (U := U.calling g mk a) (Vm.Alike.refl U.vm) h5
  · exact NwAll.same (s := U) (U := U.calling g mk a) rfl h6
theorem ca_split {n d y y' pc : Nat} {as st : List mVal} {L : mLoc} {σ : mSg} {o : mOut} (h : caR n d y y' as pc L st σ = some o) : ∃ d' o1, d = d' + 1 ∧ y' < 235 ∧ menokN (mnl y') (mlg y') as = true ∧ run n d' y' 0 (mentN (mnl y') as) [] σ = some o1 ∧ run n d y pc L (mpush o1.1 st) o1.2 = some o := by
  unfold caR at h
  cases d with
  | zero => cases h
  | succ d' =>
    dsimp only at h
    by_cases hk : y' < 235 ∧ menokN (mnl y') (mlg y') as = true
    · rw [if_pos hk] at h
      obtain ⟨o1, h1, h2⟩ := Option.bind_eq_some_iff.mp h
      exact ⟨d', o1, rfl, hk.1, hk.2, h1, h2⟩
    · rw [if_neg hk] at h; cases h
def lkKd (o : Nat) : Bool := (lkC o).all fun q => if q.2.1.1 = 10 ∨ q.2.1.1 = 11 ∨ q.2.1.1 = 12 then decide ((mQ.getD q.2.1.2.1 (0, 0, 0, 0)).1 = q.2.1.1) else true
theorem lkKd_all' : ∀ o ∈ List.range 14, lkKd o = true := by decide +kernel
theorem lkKd_all (o : Nat) : lkKd o = true := by
  by_cases h : o < 14
  · exact lkKd_all' o (List.mem_range.mpr h)
  · obtain ⟨j, rfl⟩ := Nat.exists_eq_add_of_le (Nat.not_lt.mp h)
    rw [Nat.add_comm]; rfl
theorem lk_kind (o idx : Nat) (h : (lk o idx).1 = 10 ∨ (lk o idx).1 = 11 ∨ (lk o idx).1 = 12) : (mQ.getD (lk o idx).2.1 (0, 0, 0, 0)).1 = (lk o idx).1 := by
  unfold lk at h ⊢
  cases hq : (lkC o).lookup idx with
  | none => rw [hq] at h; exfalso; revert h; decide
  | some q =>
    rw [hq] at h
    simp only [Option.getD_some] at h ⊢
    have h1 := lkKd_all o
    unfold lkKd at h1
    have h2 := List.all_eq_true.mp h1 _ (lookup_mem hq)
    dsimp only at h2
    rw [if_pos h] at h2
    exact of_decide_eq_true h2
theorem mOK_at (y : Nat) (h : y < 235) : mOKc y (mQ.getD y (0, 0, 0, 0)) = true := by
  have key : ∀ a, mOKall a 47 = true → a ≤ y → y < a + 47 → mOKc y (mQ.getD y (0, 0, 0, 0)) = true := by
    intro a ha h1 h2
    have := List.all_eq_true.mp ha (y - a) (List.mem_range.mpr (by omega))
    rwa [show a + (y - a) = y by omega] at this
  rcases (by omega : y < 47 ∨ (47 ≤ y ∧ y < 94) ∨ (94 ≤ y ∧ y < 141) ∨ (141 ≤ y ∧ y < 188) ∨ 188 ≤ y) with h1 | h1 | h1 | h1 | h1
  · exact key 0 mOK_0 (by omega) (by omega)
  · exact key 47 mOK_47 (by omega) (by omega)
  · exact key 94 mOK_94 (by omega) (by omega)
  · exact key 141 mOK_141 (by omega) (by omega)
  · exact key 188 mOK_188 (by omega) (by omega)
theorem mcl_lt_all : (List.range 235).all (fun y => decide (mcl y < 13)) = true := by decide +kernel
theorem mcl_lt {y : Nat} (h : y < 235) : mcl y < 13 := by simpa using List.all_eq_true.mp mcl_lt_all y (List.mem_range.mpr h)
/-- what is known of a method by its number -/
theorem m_facts {y : Nat} (h : y < 235) : mcw y ∈ lw_g ∧ Cond.initialized (mnm y).cls ∈ lw_g ∧ (mnm y).cls = cnm (mcl y) ∧ plainName (mnm y).cls = true ∧ ((mnm y).cls ≠ "java/lang/invoke/MethodHandle" ∧ (mnm y).cls ≠ "java/lang/invoke/VarHandle") ∧ mnl y ≤ 11 ∧
    ((mQ.getD y (0, 0, 0, 0)).1 = 11 → Cond.static (mnm y) ∈ lw_g) ∧ ((mQ.getD y (0, 0, 0, 0)).1 ≠ 11 → Cond.instanceMethod (mnm y) ∈ lw_g) ∧ ((mQ.getD y (0, 0, 0, 0)).1 = 10 → Cond.selects (mnm y).cls (mnm y) (mnm y) ∈ lw_g) ∧ (mini y ≠ 0 → (mnm y).name = "<init>") := by
  have hm := mOK_at y h
  unfold mOKc at hm
  simp only [Bool.and_eq_true, decide_eq_true_eq] at hm
  obtain ⟨⟨⟨⟨⟨⟨⟨⟨⟨h1, h2⟩, h3⟩, h4⟩, h5⟩, h6⟩, h7⟩, h8⟩, h9⟩, h10⟩ := hm
  refine ⟨g_of (cw_all y h) rfl, g_of (List.mem_of_getElem? h2) rfl, h4, h5, ⟨h6, h7⟩, h8, fun e => ?_, fun e => ?_, fun e => ?_, fun e => h10 (by rw [h9]; exact e)⟩
  · rw [if_pos e] at h1; exact g_of (List.mem_of_getElem? h1) rfl
  · rw [if_neg e] at h1; exact g_of (List.mem_of_getElem? h1) rfl
  · rw [if_pos e] at h3; exact g_of (List.mem_of_getElem? (of_decide_eq_true h3)) rfl
theorem stk_mem {r : List mVal} : stk r ↔ ∀ v ∈ r, vok v := by
  induction r with
  | nil =>
    constructor
    · intro _ v h; cases h
    · intro _; trivial
  | cons a r ih =>
    constructor
    · rintro ⟨h1, h2⟩ v hv
      rcases List.mem_cons.mp hv with rfl | hv
      · exact h1
      · exact ih.mp h2 v hv
    · exact fun h => ⟨h a List.mem_cons_self, ih.mpr fun v hv => h v (List.mem_cons_of_mem _ hv)⟩
theorem stk_push {v : Option mVal} {r : List mVal} (hv : ovok v) (h : stk r) : stk (mpush v r) := by
  cases v with
  | none => exact h
  | some v => exact ⟨hv, h⟩
theorem push_map {ω : mWo} (v : Option mVal) (r : List mVal) : (mpush v r).map (conc ω) = (v.map (conc ω)).toList ++ r.map (conc ω) := by cases v <;> rfl
section CL
variable {ω : mWo} {l : Launch} {pc : Nat} {o1 : mOut} {p : Program} {e : Env} {R : Room} {s : State} {m : MethodId} {args a : Array Value} {below : List Frame} {meth : Method} {c : Code} {cells slots mc ms : Nat} {Q : State → Prop} {H : Heap} {locs : List Loc} {ls : Array Slot} {rest st0 : List Value}
theorem go_call (hr : va_Run p l e R s m args below meth c H locs cells slots mc ms (F0 m pc ls st0) rest (QcS ω o1 a) (wA ω)) (X2 : va_S (wA ω) s.heap H locs)
    (kk : ∀ (H1 : Heap) (locs1 : List Loc), Hok ω o1.2 H1 → ovok o1.1 → va_S (wA ω) s.heap H1 locs1 → W p l e R s m args below meth c H1 locs1 (cells + mc) (slots + ms) Q (F0 m (pc + 3) ls ((o1.1.map (conc ω)).toList ++ rest))) : W p l e R s m args below meth c H locs cells slots Q (F0 m pc ls st0) := by
  intro T hT X
  obtain ⟨v, st₀, t, T', L, h0, X', hL, e1, e2, ⟨hv, hH, hvo, hz, hk⟩, st⟩ := hr T hT X
  cases hv
  rw [h0] at hz hk
  obtain ⟨t2, a1, b1⟩ := kk T'.heap (locs ++ L) (by rw [e1]; exact hH) hvo
    ⟨Nat.le_trans X2.1 (by rw [e1]; exact hz), fun q h1 h2 => by rw [e1, hk q (Nat.lt_of_lt_of_le h1 X2.1) h2]; exact X2.2.1 q h1 h2, fun q hq => by
      rcases List.mem_append.mp hq with h | h
      · exact X2.2.2 q h
      · exact hL q h⟩ T' rfl X'
  exact ⟨t2, st t2 a1, b1⟩
end CL
theorem MM_le {a b : Nat} (h : a ≤ b) : a + (b - a) = b := by omega
section SIM
variable {ω : mWo} {l : Launch} {n d y pc : Nat} {o : mOut} {p : Program} {e : Env} {R : Room} {s : State} {m : MethodId} {args : Array Value} {below : List Frame} {meth : Method} {c : Code} {n0 s0 cells slots : Nat} {Q : State → Prop} {L : mLoc} {st : List mVal} {σ : mSg} {H : Heap} {locs : List Loc} {ls : Array Slot}
theorem sm_invokevirtual {k : Nat} (C : Cx ω p R s m args meth c y d) (X : Dy ω s y σ L st H locs ls) (hc : cells + n0 = σ.1.1) (hs : slots + s0 = σ.1.2.1) (go : Go ω l n d y o p e R s m args below meth c n0 s0 Q) (hz : s.heap.size + 3 = wh ω + n0) (h30 : 3 ≤ n0) (hoc : o.2.1.1 ≤ R.cells + n0) (hos : o.2.1.2.1 ≤ R.slots + s0) (hM : MetS ω l n) (hd : decode (mb y) pc = .ok (.invokevirtual k, 3)) (h : stR n d y (.invokevirtual k) pc L st σ = some o) : W p l e R s m args below meth c H locs cells slots Q (F0 m pc ls (st.map (conc ω))) := by
  obtain ⟨X1, X2, X3, X4, X5⟩ := X
  obtain ⟨hx, hb, hrt, hml, hown, hts, hlk, hin, hE, hfr, hlo⟩ := C
  delta stR stepI at h; dsimp only at h
  rw [show lkI (mcl y) (.invokevirtual k) = lk (mcl y) k from rfl] at h
  have hk := lk_ok (mcl y) k
  rcases hx4 : lk (mcl y) k with ⟨x1, x2, x3, x4⟩
  rw [hx4] at h hk
  dsimp only at h hk
  split at h
  · rename_i hcnd
    obtain ⟨rfl, hcat⟩ := hcnd
    split at h
    · rename_i q r hdrop
      split at h
      · rename_i hrec
        obtain ⟨hw, hsd⟩ := hk (by decide)
        simp only [lkSide, Bool.and_eq_true, decide_eq_true_eq] at hsd
        obtain ⟨⟨⟨hy, hpd⟩, hcl⟩, hi0⟩ := hsd
        have hkd := lk_kind (mcl y) k (Or.inl (by rw [hx4]))
        rw [hx4] at hkd
        dsimp only at hkd
        obtain ⟨d', o1, rfl, -, hek, h1, h2⟩ := ca_split h
        obtain ⟨f1, f2, f3, f4, f5, f6, -, f8, f9, f10⟩ := m_facts hy
        have hT : (mtg σ q).1 = mcl x2 := by omega
        obtain ⟨h3, hn, hat⟩ := obj_at X1.2 hT (mcl_lt hy)
        have hlen : (st.take x3).length = x3 := by
          rw [List.length_take]
          have : (st.drop x3).length = r.length + 1 := by rw [hdrop]; rfl
          rw [List.length_drop] at this
          omega
        have hst : stk (st.take x3) ∧ stk r := by
          have hall := stk_mem.mp X5
          refine ⟨stk_mem.mpr fun v hv => hall v (List.mem_of_mem_take hv), stk_mem.mpr fun v hv => hall v (List.mem_of_mem_drop (i := x3) (by rw [hdrop]; exact List.mem_cons_of_mem _ hv))⟩
        have hr := hst.2
        have hsa : stk (vr q :: (st.take x3).reverse) := ⟨trivial, stk_mem.mpr fun v hv => stk_mem.mp hst.1 v (List.mem_reverse.mp hv)⟩
        have hle1 := run_le _ _ _ _ _ _ _ _ h1
        have hle2 := run_le _ _ _ _ _ _ _ _ h2
        have hcr : mcats r ≤ 8 := by
          have : st.drop (x3 + 1) = r := by rw [← List.drop_drop, hdrop]; rfl
          rw [this] at hcat; exact hcat
        have M := hM d' x2 (vr q :: (st.take x3).reverse) σ o1 h1 hy hek hsa
        refine W_size hz hc h30 X1 X2 (fun hsz => ?_)
        refine go_call (o1 := o1) (rest := r.map (conc ω)) (va_runV (As := ((st.take x3).reverse).map (conc ω)) (b := wad ω q) (C := (mnm x2).cls) ⟨hx, hb, hml, hown, hts⟩ M
          (cwV x3 hts (goodIn_g (fun w hw' => ?_)) rfl rfl rfl ⟨rfl, f5.1, f5.2, hpd⟩ ⟨by show d' + 1 + 1 ≤ _; omega, by show 8 + (mnl x2 + 11) + 41 * (d' + 1) ≤ _; omega⟩)
          ⟨PcS_blind, by rw [f3]; exact va_recv hE.1 X1.1 (cl13_at _ (mcl_lt hy)) hat, fun U hU hW => ⟨rfl, hE.to (locs := locs) (by rw [hU]; exact X2) hW, by rw [hU]; exact X1, by rw [hU]; exact hsz⟩⟩
          rfl (by rw [List.length_map, List.length_reverse]; exact hlen) (by rw [X3.1.1]) ?_ (lv_room (by rw [mcats_eq]; exact hcr)) hd ⟨by omega, by omega⟩) X2 (fun H1 locs1 H1ok hvo hS1 => ?_)
        · unfold wsV at hw'
          rcases List.mem_append.mp hw' with z | z
          · rcases List.mem_cons.mp z with rfl | z
            · exact g_of hw rfl
            · rcases List.mem_cons.mp z with rfl | z
              · exact f8 (by rw [hkd]; decide)
              · rcases List.mem_cons.mp z with rfl | z
                · exact f9 hkd
                · rcases List.mem_cons.mp z with rfl | z
                  · exact f2
                  · cases z
          · rcases List.mem_cons.mp z with rfl | z
            · exact f1
            · exact z
        · show st.map (conc ω) = _
          conv => lhs; rw [← List.take_append_drop x3 st, hdrop]
          rw [List.map_append, List.map_reverse, List.reverse_reverse]; rfl
        · rw [← push_map]
          exact go _ _ _ _ _ _ _ _ _ h2 ⟨H1ok, hS1, X3, X4, stk_push hvo hr⟩ (by omega) (by omega)
      · cases h
    · cases h
  · cases h
theorem sm_invokespecial {k : Nat} (C : Cx ω p R s m args meth c y d) (X : Dy ω s y σ L st H locs ls) (hc : cells + n0 = σ.1.1) (hs : slots + s0 = σ.1.2.1) (go : Go ω l n d y o p e R s m args below meth c n0 s0 Q) (hz : s.heap.size + 3 = wh ω + n0) (h30 : 3 ≤ n0) (hoc : o.2.1.1 ≤ R.cells + n0) (hos : o.2.1.2.1 ≤ R.slots + s0) (hM : MetS ω l n) (hd : decode (mb y) pc = .ok (.invokespecial k, 3)) (h : stR n d y (.invokespecial k) pc L st σ = some o) : W p l e R s m args below meth c H locs cells slots Q (F0 m pc ls (st.map (conc ω))) := by
  obtain ⟨X1, X2, X3, X4, X5⟩ := X
  obtain ⟨hx, hb, hrt, hml, hown, hts, hlk, hin, hE, hfr, hlo⟩ := C
  delta stR stepI at h; dsimp only at h
  rw [show lkI (mcl y) (.invokespecial k) = lk (mcl y) k from rfl] at h
  have hk := lk_ok (mcl y) k
  rcases hx4 : lk (mcl y) k with ⟨x1, x2, x3, x4⟩
  rw [hx4] at h hk
  dsimp only at h hk
  split at h
  · obtain ⟨hw, -⟩ := hk (by decide)
    split at h
    · rename_i q r
      split at h
      · rename_i hcr
        refine W.objInit hx hb hown (hts _ (g_of hw rfl)) (hts _ ow_inst) (hts _ ow_code) rfl (by rw [hml]; exact X3.1.1) rfl hd (by omega) ?_ ?_
        · have e1 := lv_room (m := m) (pc := pc) (ls := ls) (rest := (Sum.inr (Sum.inr (some q)) :: r : List mVal).map (conc ω)) (st := r.map (conc ω)) (by rw [mcats_eq]; exact hcr)
          omega
        · exact go _ _ _ _ _ _ _ _ _ h ⟨X1, X2, X3, X4, X5.2⟩ hc hs
      · cases h
    · cases h
  · split at h
    · rename_i hcat
      split at h
      · rename_i q r hdrop
        obtain ⟨hw, hsd⟩ := hk (by decide)
        simp only [lkSide, Bool.and_eq_true, decide_eq_true_eq] at hsd
        obtain ⟨⟨⟨hy, hpd⟩, hicl⟩, hrn⟩ := hsd
        have hkd := lk_kind (mcl y) k (Or.inr (Or.inr (by rw [hx4])))
        rw [hx4] at hkd
        dsimp only at hkd
        obtain ⟨d', o1, rfl, -, hek, h1, h2⟩ := ca_split h
        obtain ⟨f1, f2, f3, f4, f5, f6, -, f8, f9, f10⟩ := m_facts hy
        have hini : mini x2 ≠ 0 := by omega
        have hlen : (st.take x3).length = x3 := by
          rw [List.length_take]
          have : (st.drop x3).length = r.length + 1 := by rw [hdrop]; rfl
          rw [List.length_drop] at this
          omega
        have hst : stk (st.take x3) ∧ stk r := by
          have hall := stk_mem.mp X5
          refine ⟨stk_mem.mpr fun v hv => hall v (List.mem_of_mem_take hv), stk_mem.mpr fun v hv => hall v (List.mem_of_mem_drop (i := x3) (by rw [hdrop]; exact List.mem_cons_of_mem _ hv))⟩
        have hr := hst.2
        have hsa : stk (vr q :: (st.take x3).reverse) := ⟨trivial, stk_mem.mpr fun v hv => stk_mem.mp hst.1 v (List.mem_reverse.mp hv)⟩
        have hle1 := run_le _ _ _ _ _ _ _ _ h1
        have hle2 := run_le _ _ _ _ _ _ _ _ h2
        have hcr : mcats r ≤ 8 := by
          have : st.drop (x3 + 1) = r := by rw [← List.drop_drop, hdrop]; rfl
          rw [this] at hcat; exact hcat
        have M := hM d' x2 (vr q :: (st.take x3).reverse) σ o1 h1 hy hek hsa
        have hgood : ∀ w ∈ mcw x2 :: lw_g, w ∈ lw_g := by
          intro w hw'
          rcases List.mem_cons.mp hw' with rfl | z
          · exact f1
          · exact z
        have hcode : mcw x2 = Cond.code (mnm x2) (mb x2) (mnl x2) none := by unfold mcw; rw [hrn]
        rw [hcode] at M hgood
        have hstq : (F0 m pc ls (st.map (conc ω))).stack = (((st.take x3).reverse).map (conc ω)).reverse ++ .ref (wad ω q) :: r.map (conc ω) := by
          show st.map (conc ω) = _
          conv => lhs; rw [← List.take_append_drop x3 st, hdrop]
          rw [List.map_append, List.map_reverse, List.reverse_reverse]; rfl
        refine W_size hz hc h30 X1 X2 (fun hsz => ?_)
        by_cases e4 : x4 = 1
        · simp only [lkWord, if_pos e4] at hw
          refine go_call (o1 := o1) (rest := r.map (conc ω)) (va_runIN (As := ((st.take x3).reverse).map (conc ω)) (b := wad ω q) ⟨hx, hb, hml, hown, hts⟩ M
            ⟨va_cnB x3 hts (goodIn_g hgood) rfl rfl rfl (hE.2.2.2.2.2.1 _ (n_of hw rfl)) (hts _ f2) ⟨f5.1, f5.2, hpd⟩ ⟨by show d' + 1 + 1 ≤ _; omega, by show 8 + (mnl x2 + 11) + 41 * (d' + 1) ≤ _; omega⟩, f10 hini, hts _ (f8 (by rw [hkd]; decide))⟩
            ⟨PcS_blind, fun U hU hW => ⟨rfl, hE.to (locs := locs) (by rw [hU]; exact X2) hW, by rw [hU]; exact X1, by rw [hU]; exact hsz⟩⟩
            rfl (by rw [List.length_map, List.length_reverse]; exact hlen) (by rw [X3.1.1]) hstq (lv_room (by rw [mcats_eq]; exact hcr)) hd ⟨by omega, by omega⟩) X2 (fun H1 locs1 H1ok hvo hS1 => ?_)
          rw [← push_map]
          exact go _ _ _ _ _ _ _ _ _ h2 ⟨H1ok, hS1, X3, X4, stk_push hvo hr⟩ (by omega) (by omega)
        · simp only [lkWord, if_neg e4] at hw
          refine go_call (o1 := o1) (rest := r.map (conc ω)) (va_runI (As := ((st.take x3).reverse).map (conc ω)) (b := wad ω q) ⟨hx, hb, hml, hown, hts⟩ M
            (cwI x3 hts (goodIn_g hgood) rfl rfl rfl (hts _ f2) (hts _ (g_of hw rfl)) (hts _ (f8 (by rw [hkd]; decide))) (f10 hini) ⟨f5.1, f5.2, hpd⟩ ⟨by show d' + 1 + 1 ≤ _; omega, by show 8 + (mnl x2 + 11) + 41 * (d' + 1) ≤ _; omega⟩)
            ⟨PcS_blind, fun U hU hW => ⟨rfl, hE.to (locs := locs) (by rw [hU]; exact X2) hW, by rw [hU]; exact X1, by rw [hU]; exact hsz⟩⟩
            rfl (by rw [List.length_map, List.length_reverse]; exact hlen) (by rw [X3.1.1]) hstq (lv_room (by rw [mcats_eq]; exact hcr)) hd ⟨by omega, by omega⟩) X2 (fun H1 locs1 H1ok hvo hS1 => ?_)
          rw [← push_map]
          exact go _ _ _ _ _ _ _ _ _ h2 ⟨H1ok, hS1, X3, X4, stk_push hvo hr⟩ (by omega) (by omega)
      · cases h
    · cases h
  · cases h
theorem sm_invokestatic {k : Nat} (C : Cx ω p R s m args meth c y d) (X : Dy ω s y σ L st H locs ls) (hc : cells + n0 = σ.1.1) (hs : slots + s0 = σ.1.2.1) (go : Go ω l n d y o p e R s m args below meth c n0 s0 Q) (hz : s.heap.size + 3 = wh ω + n0) (h30 : 3 ≤ n0) (hoc : o.2.1.1 ≤ R.cells + n0) (hos : o.2.1.2.1 ≤ R.slots + s0) (hM : MetS ω l n) (hd : decode (mb y) pc = .ok (.invokestatic k, 3)) (h : stR n d y (.invokestatic k) pc L st σ = some o) : W p l e R s m args below meth c H locs cells slots Q (F0 m pc ls (st.map (conc ω))) := by
  obtain ⟨X1, X2, X3, X4, X5⟩ := X
  obtain ⟨hx, hb, hrt, hml, hown, hts, hlk, hin, hE, hfr, hlo⟩ := C
  delta stR stepI at h; dsimp only at h
  rw [show lkI (mcl y) (.invokestatic k) = lk (mcl y) k from rfl] at h
  have hk := lk_ok (mcl y) k
  rcases hx4 : lk (mcl y) k with ⟨x1, x2, x3, x4⟩
  rw [hx4] at h hk
  dsimp only at h hk
  split at h
  · split at h
    · rename_i hcnd
      obtain ⟨hcr, hle3⟩ := hcnd
      obtain ⟨hw, hsd⟩ := hk (by decide)
      simp only [lkSide, Bool.and_eq_true, decide_eq_true_eq] at hsd
      obtain ⟨⟨hy, hpd⟩, hi0⟩ := hsd
      have hkd := lk_kind (mcl y) k (Or.inr (Or.inl (by rw [hx4])))
      rw [hx4] at hkd
      dsimp only at hkd
      obtain ⟨d', o1, rfl, -, hek, h1, h2⟩ := ca_split h
      obtain ⟨f1, f2, f3, f4, f5, f6, f7, -, f9, f10⟩ := m_facts hy
      have hlen : (st.take x3).length = x3 := by rw [List.length_take]; omega
      have hst : stk (st.take x3) ∧ stk (st.drop x3) := by
        have hall := stk_mem.mp X5
        exact ⟨stk_mem.mpr fun v hv => hall v (List.mem_of_mem_take hv), stk_mem.mpr fun v hv => hall v (List.mem_of_mem_drop hv)⟩
      have hr := hst.2
      have hsa : stk (st.take x3).reverse := stk_mem.mpr fun v hv => stk_mem.mp hst.1 v (List.mem_reverse.mp hv)
      have hle1 := run_le _ _ _ _ _ _ _ _ h1
      have hle2 := run_le _ _ _ _ _ _ _ _ h2
      have M := hM d' x2 (st.take x3).reverse σ o1 h1 hy hek hsa
      have hgood : ∀ w ∈ mcw x2 :: lw_g, w ∈ lw_g := by
        intro w hw'
        rcases List.mem_cons.mp hw' with rfl | z
        · exact f1
        · exact z
      have hstq : (F0 m pc ls (st.map (conc ω))).stack = (((st.take x3).reverse).map (conc ω)).reverse ++ (st.drop x3).map (conc ω) := by
        show st.map (conc ω) = _
        conv => lhs; rw [← List.take_append_drop x3 st]
        rw [List.map_append, List.map_reverse, List.reverse_reverse]
      refine W_size hz hc h30 X1 X2 (fun hsz => ?_)
      by_cases e4 : x4 = 1
      · simp only [lkWord, if_pos e4] at hw
        refine go_call (o1 := o1) (rest := (st.drop x3).map (conc ω)) (va_runSN (As := ((st.take x3).reverse).map (conc ω)) ⟨hx, hb, hml, hown, hts⟩ M
          ⟨va_cnB x3 hts (goodIn_g hgood) rfl rfl rfl (hE.2.2.2.2.2.1 _ (n_of hw rfl)) (hts _ f2) ⟨f5.1, f5.2, hpd⟩ ⟨by show d' + 1 + 1 ≤ _; omega, by show 8 + (mnl x2 + 11) + 41 * (d' + 1) ≤ _; omega⟩, hts _ (f7 hkd), trivial⟩
          ⟨PcS_blind, fun U hU hW => ⟨rfl, hE.to (locs := locs) (by rw [hU]; exact X2) hW, by rw [hU]; exact X1, by rw [hU]; exact hsz⟩⟩
          rfl (by rw [List.length_map, List.length_reverse]; exact hlen) (by rw [X3.1.1]) hstq (lv_room (by rw [mcats_eq]; exact hcr)) hd ⟨by omega, by omega⟩) X2 (fun H1 locs1 H1ok hvo hS1 => ?_)
        rw [← push_map]
        exact go _ _ _ _ _ _ _ _ _ h2 ⟨H1ok, hS1, X3, X4, stk_push hvo hr⟩ (by omega) (by omega)
      · simp only [lkWord, if_neg e4] at hw
        have hgoodS : ∀ w ∈ va_wsS (cnm (mcl y)) k (mnm x2) (mcw x2 :: lw_g), w ∈ lw_g := by
          intro w hw'
          unfold va_wsS at hw'
          rcases List.mem_append.mp hw' with z | z
          · rcases List.mem_cons.mp z with rfl | z
            · exact g_of hw rfl
            · rcases List.mem_cons.mp z with rfl | z
              · exact f7 hkd
              · rcases List.mem_cons.mp z with rfl | z
                · exact f2
                · cases z
          · exact hgood w z
        refine go_call (o1 := o1) (rest := (st.drop x3).map (conc ω)) (va_runS (As := ((st.take x3).reverse).map (conc ω)) ⟨hx, hb, hml, hown, hts⟩ M
          (va_cwS x3 hts (goodIn_g hgoodS) rfl rfl rfl ⟨f5.1, f5.2, hpd⟩ ⟨by show d' + 1 + 1 ≤ _; omega, by show 8 + (mnl x2 + 11) + 41 * (d' + 1) ≤ _; omega⟩)
          ⟨PcS_blind, fun U hU hW => ⟨rfl, hE.to (locs := locs) (by rw [hU]; exact X2) hW, by rw [hU]; exact X1, by rw [hU]; exact hsz⟩⟩
          rfl (by rw [List.length_map, List.length_reverse]; exact hlen) (by rw [X3.1.1]) hstq (lv_room (by rw [mcats_eq]; exact hcr)) hd ⟨by omega, by omega⟩) X2 (fun H1 locs1 H1ok hvo hS1 => ?_)
        rw [← push_map]
        exact go _ _ _ _ _ _ _ _ _ h2 ⟨H1ok, hS1, X3, X4, stk_push hvo hr⟩ (by omega) (by omega)
    · cases h
  · obtain ⟨hw, -⟩ := hk (by decide)
    split at h
    · rename_i a r
      obtain ⟨ha, hr⟩ := X5
      split at h
      · rename_i hcr
        have hle := run_le _ _ _ _ _ _ _ _ h
        refine va_mabs hx hb (by rw [X3.1.1]; exact hml) hown (hts _ (g_of hw rfl)) (hts _ mw_abs_st) (hts _ mw_ini) (hts _ mw_abs_code) (by omega) (by rw [mcats_eq]; omega) (by omega) (by omega) hd ?_
        rw [show (if 0 ≤ oi a then oi a else 0 - oi a) = oi (if 0 ≤ a then a else wr (0 - a)) by rw [oi_0, oi_sub]; simp only [oi_le iR_0 ha]; split <;> rfl]
        exact go _ _ _ _ _ _ _ _ _ h ⟨X1, X2, X3, X4, ⟨by show iR (if 0 ≤ a then a else wr (0 - a)); split; exact ha; exact wr_R _, hr⟩⟩ hc hs
      · cases h
    · cases h
  · obtain ⟨hw, -⟩ := hk (by decide)
    split at h
    · rename_i b a r
      obtain ⟨hb', ha, hr⟩ := X5
      split at h
      · rename_i hcr
        have hle := run_le _ _ _ _ _ _ _ _ h
        refine va_mmax hx hb (by rw [X3.1.1]; exact hml) hown (hts _ (g_of hw rfl)) (hts _ mw_max_st) (hts _ mw_ini) (hts _ mw_max_code) (by omega) (by rw [mcats_eq]; omega) (by omega) (by omega) hd ?_
        rw [show (if oi a < oi b then oi b else oi a) = oi (if a < b then b else a) by simp only [oi_lt ha hb']; split <;> rfl]
        exact go _ _ _ _ _ _ _ _ _ h ⟨X1, X2, X3, X4, ⟨by show iR (if a < b then b else a); split; exact hb'; exact ha, hr⟩⟩ hc hs
      · cases h
    · cases h
  · obtain ⟨hw, -⟩ := hk (by decide)
    split at h
    · rename_i b a r
      obtain ⟨hb', ha, hr⟩ := X5
      split at h
      · rename_i hcr
        have hle := run_le _ _ _ _ _ _ _ _ h
        refine va_mmin hx hb (by rw [X3.1.1]; exact hml) hown (hts _ (g_of hw rfl)) (hts _ mw_min_st) (hts _ mw_ini) (hts _ mw_min_code) (by omega) (by rw [mcats_eq]; omega) (by omega) (by omega) hd ?_
        rw [show (if oi b < oi a then oi b else oi a) = oi (if b < a then b else a) by simp only [oi_lt hb' ha]; split <;> rfl]
        exact go _ _ _ _ _ _ _ _ _ h ⟨X1, X2, X3, X4, ⟨by show iR (if b < a then b else a); split; exact hb'; exact ha, hr⟩⟩ hc hs
      · cases h
    · cases h
  · obtain ⟨hw, -⟩ := hk (by decide)
    split at h
    · rename_i nn dp c1 sp c0 r
      obtain ⟨hnn, hdp, -, hsp, -, hr⟩ := X5
      split at h
      · rename_i hcnd
        obtain ⟨hcr, h30c, h31c, hT⟩ := hcnd
        split at h
        · rename_i hbd
          split at h
          · rename_i htag
            rw [htag] at hT
            obtain ⟨h31, hn1, hat1⟩ := arr_at X1.2 htag (by decide)
            obtain ⟨h30', hn0, hat0⟩ := arr_at X1.2 hT (by decide)
            rw [avals_i (by decide)] at hat0 hat1
            refine va_copyi (D := wD ω) (cl := cl13) (tys := tys5 ω) (ty := .int) hx hb (by rw [X3.1.1]; exact hml) hown (hts _ (g_of hw rfl)) (hts _ sw_nat) (hts _ sw_st) (hts _ sw_ini) hE.1 X1.1 wsO_D X2 (c0 - 3) (c1 - 3) 0 0 hat0 hat1 rfl rfl rfl (by rw [oi_0, oi_lt hsp iR_0]; omega) (by rw [oi_0, oi_lt hdp iR_0]; omega) (by rw [oi_0, oi_lt hnn iR_0]; omega) (by rw [oi_nat hsp, oi_nat hnn]; omega) (by rw [oi_nat hdp, oi_nat hnn]; omega) (fun _ _ => rfl) (by omega) (by rw [mcats_eq]; show mcats r + (7 + 11) ≤ _; omega) hd (fun H1 locs1 hP1 hD1 hS1 => ?_)
            rw [oi_nat hsp, oi_nat hdp, oi_nat hnn] at hP1
            exact go _ _ _ _ _ _ _ _ _ h ⟨Hok_cI X1.2 h31 hn1 htag hP1, hS1, X3, X4, hr⟩ hc hs
          · rename_i htag
            rw [htag] at hT
            obtain ⟨h31, hn1, hat1⟩ := arr_at X1.2 htag (by decide)
            obtain ⟨h30', hn0, hat0⟩ := arr_at X1.2 hT (by decide)
            rw [avals_l] at hat0 hat1
            refine va_copyl (D := wD ω) (cl := cl13) (tys := tys5 ω) (ty := .long) hx hb (by rw [X3.1.1]; exact hml) hown (hts _ (g_of hw rfl)) (hts _ sw_nat) (hts _ sw_st) (hts _ sw_ini) hE.1 X1.1 wsO_D X2 (c0 - 3) (c1 - 3) 3 3 hat0 hat1 rfl rfl rfl (by rw [oi_0, oi_lt hsp iR_0]; omega) (by rw [oi_0, oi_lt hdp iR_0]; omega) (by rw [oi_0, oi_lt hnn iR_0]; omega) (by rw [oi_nat hsp, oi_nat hnn]; omega) (by rw [oi_nat hdp, oi_nat hnn]; omega) (fun _ _ => rfl) (by omega) (by rw [mcats_eq]; show mcats r + (7 + 11) ≤ _; omega) hd (fun H1 locs1 hP1 hD1 hS1 => ?_)
            rw [oi_nat hsp, oi_nat hdp, oi_nat hnn] at hP1
            exact go _ _ _ _ _ _ _ _ _ h ⟨Hok_cJ X1.2 h31 hn1 htag hP1, hS1, X3, X4, hr⟩ hc hs
          · cases h
        · cases h
      · cases h
    · cases h
  · cases h
end SIM
def retK (y pc : Nat) : Option mVal → Prop
  | none => decode (mb y) pc = .ok (.return_, 1) ∧ mrt y = 0
  | some (.inl a) => decode (mb y) pc = .ok (.ireturn, 1) ∧ (mrt y = 1 ∨ (mrt y = 2 ∧ (a = 0 ∨ a = 1)))
  | some (.inr (.inl _)) => decode (mb y) pc = .ok (.lreturn, 1) ∧ mrt y = 3
  | _ => False
def Hend (ω : mWo) (l : Launch) (o : mOut) (p : Program) (e : Env) (R : Room) (s : State) (m : MethodId) (args : Array Value) (below : List Frame) (meth : Method) (c : Code) (y n0 s0 : Nat) (Q : State → Prop) : Prop :=
  ∀ (pc : Nat) (ls : Array Slot) (H : Heap) (locs : List Loc) (cells slots : Nat), cells + n0 = o.2.1.1 → slots + s0 = o.2.1.2.1 → Hok ω o.2 H → va_S (wA ω) s.heap H locs → ovok o.1 → retK y pc o.1 →
    W p l e R s m args below meth c H locs cells slots Q (F0 m pc ls (o.1.toList.map (conc ω)))
section SIM
variable {ω : mWo} {l : Launch} {n d y pc : Nat} {o : mOut} {p : Program} {e : Env} {R : Room} {s : State} {m : MethodId} {args : Array Value} {below : List Frame} {meth : Method} {c : Code} {n0 s0 cells slots : Nat} {Q : State → Prop} {L : mLoc} {st : List mVal} {σ : mSg} {H : Heap} {locs : List Loc} {ls : Array Slot}
theorem sm_ireturn (C : Cx ω p R s m args meth c y d) (X : Dy ω s y σ L st H locs ls) (hc : cells + n0 = σ.1.1) (hs : slots + s0 = σ.1.2.1) (go : Go ω l n d y o p e R s m args below meth c n0 s0 Q) (hend : Hend ω l o p e R s m args below meth c y n0 s0 Q) (hd : decode (mb y) pc = .ok (.ireturn, 1)) (h : stR n d y (.ireturn) pc L st σ = some o) : W p l e R s m args below meth c H locs cells slots Q (F0 m pc ls (st.map (conc ω))) := by
  obtain ⟨X1, X2, X3, X4, X5⟩ := X
  obtain ⟨hx, hb, hrt, hml, hown, hts, hlk, hin, hE, hfr, hlo⟩ := C
  delta stR stepI at h; dsimp only at h
  split at h
  · rename_i a
    split at h
    · rename_i e1
      cases h
      exact hend pc ls H locs cells slots hc hs X1 X2 X5.1 ⟨hd, Or.inl e1⟩
    · rename_i e1
      split at h
      · rename_i hz
        cases h
        exact hend pc ls H locs cells slots hc hs X1 X2 X5.1 ⟨hd, Or.inr ⟨e1, hz⟩⟩
      · cases h
    · cases h
  · cases h
theorem sm_lreturn (C : Cx ω p R s m args meth c y d) (X : Dy ω s y σ L st H locs ls) (hc : cells + n0 = σ.1.1) (hs : slots + s0 = σ.1.2.1) (go : Go ω l n d y o p e R s m args below meth c n0 s0 Q) (hend : Hend ω l o p e R s m args below meth c y n0 s0 Q) (hd : decode (mb y) pc = .ok (.lreturn, 1)) (h : stR n d y (.lreturn) pc L st σ = some o) : W p l e R s m args below meth c H locs cells slots Q (F0 m pc ls (st.map (conc ω))) := by
  obtain ⟨X1, X2, X3, X4, X5⟩ := X
  obtain ⟨hx, hb, hrt, hml, hown, hts, hlk, hin, hE, hfr, hlo⟩ := C
  delta stR stepI at h; dsimp only at h
  split at h
  · rename_i a
    split at h
    · rename_i e1
      cases h
      exact hend pc ls H locs cells slots hc hs X1 X2 X5.1 ⟨hd, e1⟩
    · cases h
  · cases h
theorem sm_return_ (C : Cx ω p R s m args meth c y d) (X : Dy ω s y σ L st H locs ls) (hc : cells + n0 = σ.1.1) (hs : slots + s0 = σ.1.2.1) (go : Go ω l n d y o p e R s m args below meth c n0 s0 Q) (hend : Hend ω l o p e R s m args below meth c y n0 s0 Q) (hd : decode (mb y) pc = .ok (.return_, 1)) (h : stR n d y (.return_) pc L st σ = some o) : W p l e R s m args below meth c H locs cells slots Q (F0 m pc ls (st.map (conc ω))) := by
  obtain ⟨X1, X2, X3, X4, X5⟩ := X
  obtain ⟨hx, hb, hrt, hml, hown, hts, hlk, hin, hE, hfr, hlo⟩ := C
  delta stR stepI at h; dsimp only at h
  split at h
  · split at h
    · rename_i e1
      cases h
      exact hend pc ls H locs cells slots hc hs X1 X2 trivial ⟨hd, e1⟩
    · cases h
  · cases h
end SIM
