/-! THE CLAIM OUT OF ONE WALK OF THE LAW'S BODY. Your part is whole_start (and what it stands on); all else here is the same for every law, but numbers. -/
def R_law : String := "FortyDesksLaw"
def lw_P (b : Addr) (xs : List Int32) (args : Array Value) (s : State) : Prop := args = #[.ref b] ∧ s.IntsAt b xs ∧ xs.length ≤ 384 ∧ (Jvm.Cond.and given_1 narrow_1).before args s = true
def lw_Q (_ : Array Value) (s : State) (o : Outcome) (t : State) : Prop := o = .returned (some (.int 1)) ∧ Framed s o t [] 600000 7302250
def lw_Z (below : List Frame) (a : Array Value) (s : State) : State → Prop := fun t => ∃ o, t.status = .running ∧ Ended t below o ∧ lw_Q a s o t
/-- the law's own end, with 1 on the stack, nothing written that was there before, its room as the claim has it -/
theorem lw_ret {p : Program} {l : Launch} {e : Env} {s : State} {m : MethodId} {below : List Frame} {meth : Method} {c : Code} {b : Nat} (hx : p.tables.exec = Jvm.exec) (hb : c.code = code) (hr : meth.sig.returnType = ret) (hlocks : meth.locks = false) {pc : Nat} {H : Heap} {ls : Array Slot} (hdg : decode code pc = .ok (.ireturn, 1)) : W p l e room_1 s m #[Value.ref b] below meth c H [] 600000 7302250 (lw_Z below #[Value.ref b] s) (F0 m pc ls [.int 1]) := by
  intro T hT X
  obtain ⟨fs, hret, hrun, hended, hW, hframe⟩ := X.leave (v := some (.int 1)) (hlocks := hlocks) (fun h => by rw [hr] at h; cases h)
  have hmeth' : T.vm.method? m = some meth := X.method'
  refine ⟨T.setFrames fs, ?_, .returned (some (.int 1)), hrun, hended, rfl, ⟨_, rfl⟩, hW, hframe⟩
  jvm_step X.here [X.here.top, hx, hb, hdg, hmeth', hr, ret, narrow_b1]
  (try refine ⟨rfl, ?_⟩); (try refine ⟨rfl, ?_⟩)
  first | (intro acts; rw [hret _ acts rfl rfl rfl]) | rw [hret _ _ rfl rfl rfl]
  exact Steps.refl _
/-- what holds at the law's entry: the machine, the code, the tables' words (any of lw_tbl by 'hts w (by decide +kernel)'), the script of L ints xs at the cell b, what the Statement gives of the start (any of its parts by flat_of_before) -/
def lw_At (p : Program) (s : State) (m : MethodId) (meth : Method) (c : Code) (b L : Nat) (xs : Nat → Int32) : Prop :=
  p.tables.exec = Jvm.exec ∧ c.code = code ∧ meth.sig.returnType = ret ∧ c.maxLocals = 4 ∧ s.vm.findClass R_law = some m.cls ∧ (∀ w ∈ lw_tbl, w.before #[Value.ref b] s = true) ∧ va_X b L xs s s.heap ∧ b < s.heap.size ∧ meth.locks = false ∧ (Jvm.Cond.and given_1 narrow_1).before #[Value.ref b] s = true
def ownQ : List Int := [1, 10, 11, 2, 20, 0, 0, 0, 0, 30, 0, 0, 0, 41, 40, 0, 0, 0, 0, 50, 0, 0, 60, 61, 70, 0, 0, 0, 81, 80, 0, 0]
def aboveQ : List Int := [-1, 0, 0, 2, 1, 4, 0, 6]
/-- the abstract heap at the law's entry -/
def sg0 (L : Nat) (xs : Nat → Int32) : mSg := ((3, 0, (fun c => if c = 0 then (30, L) else if c = 1 then (30, 32) else (30, 8)), fun _ _ => none), (fun c k => if c = 0 then (xs k).toInt else if c = 1 then ownQ.getD k 0 else if c = 2 then aboveQ.getD k 0 else 0), fun _ _ => 0)
/-- WHAT IS LEFT: a statement on the small machine alone -/
def LawPure : Prop := ∀ (L : Nat) (xs : Nat → Int32), L ≤ 384 → ∃ σ : mSg, Sem 2047 235 0 [some (vr 0), none, none, none] [] (sg0 L xs) = some (some (vi 1), σ) ∧ σ.1.1 ≤ 600000 ∧ σ.1.2.1 ≤ 7302250
theorem stat_arr {args : Array Value} {s : State} {t : Term} {N : Nat} {v : Nat → Int32} (hN : N < 2147483648) (harr : (Cond.arrayOf t .int).before args s = true) (hlen : (Cond.eq (.length t) (.int (Int32.ofNat N))).before args s = true)
    (hel : ∀ k, k < N → (Cond.eq (.elem t (.int (Int32.ofNat k))) (.int (v k))).before args s = true) : ∃ a, t.eval args s none [] s = some (.ref a) ∧ va_X a N v s s.heap ∧ a < s.heap.size := by
  obtain ⟨y, hy1, hy2⟩ := Cond.eq_one (show (Cond.eq (.length t) (.int (Int32.ofNat N))).holds args s none s [] = true from hlen)
  obtain ⟨a, cell, ht, hat, hv⟩ := Term.length_spec hy1
  have hsz : cell.slots.size < 2 ^ 31 := by
    simp only [Term.eval, ht, hat, Option.bind_eq_bind, Option.bind_some] at hy1
    by_cases hlt : cell.slots.size < 2147483648
    · exact hlt
    · simp [hlt] at hy1
  have hs : cell.slots.size = N := by
    have e1 : some (Value.int (Int32.ofNat N)) = some y := hy2
    rw [hv] at e1
    have e2 : Int32.ofNat N = Int32.ofNat cell.slots.size := Value.int.inj (Option.some.inj e1)
    have e3 : (Int32.ofNat N).toNatClampNeg = (Int32.ofNat cell.slots.size).toNatClampNeg := by rw [e2]
    rwa [Int32.toNatClampNeg_ofNat_of_lt hN, Int32.toNatClampNeg_ofNat_of_lt hsz, eq_comm] at e3
  obtain ⟨hc, hkn, -, -⟩ := State.arrayAt?_spec hat
  refine ⟨a, ht, ⟨cell, hc, (Cond.arrayOf_spec harr ht hc).1, hkn, hs, fun j hj => ?_⟩, (Array.getElem?_eq_some_iff.mp hc).1⟩
  obtain ⟨z, hz1, hz2⟩ := Cond.eq_one (show (Cond.eq (.elem t (.int (Int32.ofNat j))) (.int (v j))).holds args s none s [] = true from hel j hj)
  obtain ⟨a', j', cell', ht', hi', hat', -, hsl⟩ := Term.elem_spec hz1
  cases (Option.some.inj (ht.symm.trans ht'))
  cases hat.symm.trans hat'
  have e1 : some (Value.int (Int32.ofNat j)) = some (Value.int j') := hi'
  cases e1
  rw [Int32.toNatClampNeg_ofNat_of_lt (by omega)] at hsl
  rw [hsl]
  have e2 : some (Value.int (v j)) = some z := hz2
  rw [e2]
set_option maxRecDepth 100000 in
theorem own_flat : ∀ k ∈ List.range 32, Cond.eq (.elem (.static "FortyDesks$Acts" "OWN" "[I") (.int (Int32.ofNat k))) (.int (oi (ownQ.getD k 0))) ∈ flatC (Jvm.Cond.and given_1 narrow_1) := by decide +kernel
set_option maxRecDepth 100000 in
theorem above_flat : ∀ k ∈ List.range 8, Cond.eq (.elem (.static "FortyDesks$Acts" "ABOVE" "[I") (.int (Int32.ofNat k))) (.int (oi (aboveQ.getD k 0))) ∈ flatC (Jvm.Cond.and given_1 narrow_1) := by decide +kernel
theorem own_R (k : Nat) : iR (ownQ.getD k 0) := by
  by_cases h : k < 32
  · have : ∀ j ∈ List.range 32, iR (ownQ.getD j 0) := by decide +kernel
    exact this k (List.mem_range.mpr h)
  · rw [List.getD_eq_getElem?_getD, List.getElem?_eq_none (by show 32 ≤ k; omega)]; exact iR_0
theorem above_R (k : Nat) : iR (aboveQ.getD k 0) := by
  by_cases h : k < 8
  · have : ∀ j ∈ List.range 8, iR (aboveQ.getD j 0) := by decide +kernel
    exact this k (List.mem_range.mpr h)
  · rw [List.getD_eq_getElem?_getD, List.getElem?_eq_none (by show 8 ≤ k; omega)]; exact iR_0
set_option maxHeartbeats 4000000 in
theorem law_world {s : State} {b L : Nat} {xs : Nat → Int32} (hL : L ≤ 384) (hts : ∀ w ∈ lw_tbl, w.before #[Value.ref b] s = true) (hX : va_X b L xs s s.heap) (hbl : b < s.heap.size) (hgv : (Jvm.Cond.and given_1 narrow_1).before #[Value.ref b] s = true) :
    ∃ ω : mWo, wh ω = s.heap.size ∧ wo ω 0 = b ∧ En ω s ∧ Sok ω (sg0 L xs) := by
  have htg : ∀ w ∈ lw_g, w.before #[Value.ref b] s = true := fun w hw => hts w (List.mem_filter.mp hw).1
  obtain ⟨c0, i0, hK0⟩ := u_known (C := cnm 0) (T := fT 0) (N := fN 0) (n := fN 0) htg (fW_ok 0 (by decide)) (htg _ (g_of (List.mem_of_getElem? (insQ_ok 0 (by decide)).1) rfl))
  obtain ⟨c1, i1, hK1⟩ := u_known (C := cnm 1) (T := fT 1) (N := fN 1) (n := fN 1) htg (fW_ok 1 (by decide)) (htg _ (g_of (List.mem_of_getElem? (insQ_ok 1 (by decide)).1) rfl))
  obtain ⟨c2, i2, hK2⟩ := u_known (C := cnm 2) (T := fT 2) (N := fN 2) (n := fN 2) htg (fW_ok 2 (by decide)) (htg _ (g_of (List.mem_of_getElem? (insQ_ok 2 (by decide)).1) rfl))
  obtain ⟨c3, i3, hK3⟩ := u_known (C := cnm 3) (T := fT 3) (N := fN 3) (n := fN 3) htg (fW_ok 3 (by decide)) (htg _ (g_of (List.mem_of_getElem? (insQ_ok 3 (by decide)).1) rfl))
  obtain ⟨c4, i4, hK4⟩ := u_known (C := cnm 4) (T := fT 4) (N := fN 4) (n := fN 4) htg (fW_ok 4 (by decide)) (htg _ (g_of (List.mem_of_getElem? (insQ_ok 4 (by decide)).1) rfl))
  obtain ⟨c5, i5, hK5⟩ := u_known (C := cnm 5) (T := fT 5) (N := fN 5) (n := fN 5) htg (fW_ok 5 (by decide)) (htg _ (g_of (List.mem_of_getElem? (insQ_ok 5 (by decide)).1) rfl))
  obtain ⟨c6, i6, hK6⟩ := u_known (C := cnm 6) (T := fT 6) (N := fN 6) (n := fN 6) htg (fW_ok 6 (by decide)) (htg _ (g_of (List.mem_of_getElem? (insQ_ok 6 (by decide)).1) rfl))
  obtain ⟨c7, i7, hK7⟩ := u_known (C := cnm 7) (T := fT 7) (N := fN 7) (n := fN 7) htg (fW_ok 7 (by decide)) (htg _ (g_of (List.mem_of_getElem? (insQ_ok 7 (by decide)).1) rfl))
  obtain ⟨c8, i8, hK8⟩ := u_known (C := cnm 8) (T := fT 8) (N := fN 8) (n := fN 8) htg (fW_ok 8 (by decide)) (htg _ (g_of (List.mem_of_getElem? (insQ_ok 8 (by decide)).1) rfl))
  obtain ⟨c9, i9, hK9⟩ := u_known (C := cnm 9) (T := fT 9) (N := fN 9) (n := fN 9) htg (fW_ok 9 (by decide)) (htg _ (g_of (List.mem_of_getElem? (insQ_ok 9 (by decide)).1) rfl))
  obtain ⟨c10, i10, hK10⟩ := u_known (C := cnm 10) (T := fT 10) (N := fN 10) (n := fN 10) htg (fW_ok 10 (by decide)) (htg _ (g_of (List.mem_of_getElem? (insQ_ok 10 (by decide)).1) rfl))
  obtain ⟨c11, i11, hK11⟩ := u_known (C := cnm 11) (T := fT 11) (N := fN 11) (n := fN 11) htg (fW_ok 11 (by decide)) (htg _ (g_of (List.mem_of_getElem? (insQ_ok 11 (by decide)).1) rfl))
  obtain ⟨c12, i12, hK12⟩ := u_known (C := cnm 12) (T := fT 12) (N := fN 12) (n := fN 12) htg (fW_ok 12 (by decide)) (htg _ (g_of (List.mem_of_getElem? (insQ_ok 12 (by decide)).1) rfl))
  obtain ⟨aI, kI, pI, I1, I2, I3⟩ := Cond.arrayClass_spec (htg _ ac_int)
  obtain ⟨aS, kS, pS, S1, S2, S3⟩ := Cond.arrayClass_spec (htg _ ac_short)
  obtain ⟨aB, kB, pB, B1, B2, B3⟩ := Cond.arrayClass_spec (htg _ ac_byte)
  obtain ⟨aL, kL, pL, L1, L2, L3⟩ := Cond.arrayClass_spec (htg _ ac_long)
  have hAO : va_AO "FortyDesks$Shelf" s := va_AO.of (hts _ (List.mem_of_getElem? (i := 426) (by decide +kernel)))
  obtain ⟨pQ, aQ, kQ, Q1, Q2, Q3, Q4, Q5⟩ := Cond.arrayOver_spec hAO
  have hfl := flat_of_before _ hgv
  obtain ⟨o1, ho1, hX1, hl1⟩ := stat_arr (t := .static "FortyDesks$Acts" "OWN" "[I") (N := 32) (v := fun k => oi (ownQ.getD k 0)) (by decide) (hfl _ (by decide +kernel)) (hfl _ (by decide +kernel)) (fun k hk => hfl _ (own_flat k (List.mem_range.mpr hk)))
  obtain ⟨o2, ho2, hX2, hl2⟩ := stat_arr (t := .static "FortyDesks$Acts" "ABOVE" "[I") (N := 8) (v := fun k => oi (aboveQ.getD k 0)) (by decide) (hfl _ (by decide +kernel)) (hfl _ (by decide +kernel)) (fun k hk => hfl _ (above_flat k (List.mem_range.mpr hk)))
  have hini : (Cond.initialized "FortyDesks$Acts").before #[Value.ref b] s = true := htg _ (g_of (List.mem_of_getElem? (i := 90) (by decide +kernel)) rfl)
  let ω : mWo := ((fun k => if k = 0 then c0 else if k = 1 then c1 else if k = 2 then c2 else if k = 3 then c3 else if k = 4 then c4 else if k = 5 then c5 else if k = 6 then c6 else if k = 7 then c7 else if k = 8 then c8 else if k = 9 then c9 else if k = 10 then c10 else if k = 11 then c11 else c12, fun k => if k = 0 then i0 else if k = 1 then i1 else if k = 2 then i2 else if k = 3 then i3 else if k = 4 then i4 else if k = 5 then i5 else if k = 6 then i6 else if k = 7 then i7 else if k = 8 then i8 else if k = 9 then i9 else if k = 10 then i10 else if k = 11 then i11 else i12), (fun t => if t = 20 then aI else if t = 21 then aS else if t = 22 then aB else if t = 23 then aL else aQ), s.heap.size, (fun c => if c = 0 then b else if c = 1 then o1 else o2), (fun c => if c = 0 then L else if c = 1 then 32 else 8), (fun c => if c = 0 then xs else if c = 1 then (fun k => oi (ownQ.getD k 0)) else (fun k => oi (aboveQ.getD k 0))))
  refine ⟨ω, rfl, rfl, ⟨⟨?_, ?_⟩, ?_, Nat.le_refl _, ?_, ?_, ?_, hAO⟩, ?_⟩
  · intro k q hq
    match k, hq with
    | 0, hq => cases hq; exact hK0
    | 1, hq => cases hq; exact hK1
    | 2, hq => cases hq; exact hK2
    | 3, hq => cases hq; exact hK3
    | 4, hq => cases hq; exact hK4
    | 5, hq => cases hq; exact hK5
    | 6, hq => cases hq; exact hK6
    | 7, hq => cases hq; exact hK7
    | 8, hq => cases hq; exact hK8
    | 9, hq => cases hq; exact hK9
    | 10, hq => cases hq; exact hK10
    | 11, hq => cases hq; exact hK11
    | 12, hq => cases hq; exact hK12
    | k + 13, hq => simp [cl13] at hq
  · intro k q hq
    match k, hq with
    | 0, hq => cases hq; exact ⟨fun n z => ⟨fun k h => (by cases h), kI, I2, pI, I3⟩, I1⟩
    | 1, hq => cases hq; exact ⟨fun n z => ⟨fun k h => (by cases h), kS, S2, pS, S3⟩, S1⟩
    | 2, hq => cases hq; exact ⟨fun n z => ⟨fun k h => (by cases h), kB, B2, pB, B3⟩, B1⟩
    | 3, hq => cases hq; exact ⟨fun n z => ⟨fun k h => (by cases h), kL, L2, pL, L3⟩, L1⟩
    | 4, hq => cases hq; exact ⟨fun n z => ⟨fun k h => (by cases h), kQ, Q3, pQ, Q4⟩, ⟨kQ, pQ, Q3, Q4, Q1, Q5⟩⟩
    | k + 5, hq => simp [tys5] at hq
  · intro c hc
    match c, hc with
    | 0, _ => exact ⟨hX, hbl⟩
    | 1, _ => exact ⟨hX1, hl1⟩
    | 2, _ => exact ⟨hX2, hl2⟩
    | c + 3, h => exact absurd h (by omega)
  · exact va_Zref (hts _ (List.mem_of_getElem? (i := 930) (by decide +kernel))) hini ho1 (fun a ha z => absurd ha (Nat.not_lt.mpr z))
  · exact va_Zref (hts _ (List.mem_of_getElem? (i := 932) (by decide +kernel))) hini ho2 (fun a ha z => absurd ha (Nat.not_lt.mpr z))
  · intro w hw
    have h1 := (List.mem_filter.mp hw).1
    have h2 := (List.mem_filter.mp hw).2
    have h3 := hts w h1
    cases w <;> first | (simp [isNest] at h2; done) | exact va_Nw.of rfl h3
  · refine ⟨Nat.le_refl _, fun c k => ?_, fun c k => show jR 0 from ⟨by decide, by decide⟩, fun c hc => ⟨?_, fun k hk => ?_⟩, fun c hc => ?_, fun c h3 hn => ?_⟩
    · show iR (if c = 0 then (xs k).toInt else if c = 1 then ownQ.getD k 0 else if c = 2 then aboveQ.getD k 0 else 0)
      split
      · exact i32_R _
      · split
        · exact own_R k
        · split
          · exact above_R k
          · exact iR_0
    · match c, hc with
      | 0, _ => rfl
      | 1, _ => rfl
      | 2, _ => rfl
      | c + 3, h => exact absurd h (by omega)
    · match c, hc with
      | 0, _ => rfl
      | 1, _ => exact (oi_i (own_R k)).symm
      | 2, _ => exact (oi_i (above_R k)).symm
      | c + 3, h => exact absurd h (by omega)
    · show (if c = 0 then L else if c = 1 then 32 else 8) < 2147483648
      split
      · omega
      · split <;> decide
    · exact absurd hn (by show ¬ c < 3; omega)
theorem law235 : mb 235 = code ∧ mret 235 = ret ∧ mnl 235 = 4 ∧ cnm (mcl 235) = R_law ∧ mini 235 = 0 ∧ mlg 235 = false ∧ mrt 235 = 2 := ⟨rfl, rfl, rfl, rfl, rfl, rfl, rfl⟩
theorem whole_of (hp : LawPure) {p : Program} {e : Env} {s : State} {m : MethodId} {below : List Frame} {meth : Method} {c : Code} (l : Launch) {b L : Nat} {xs : Nat → Int32} (hL : L ≤ 384) (C0 : lw_At p s m meth c b L xs) : W p l e room_1 s m #[Value.ref b] below meth c s.heap [] 0 0 (lw_Z below #[Value.ref b] s) (entryFrame m ([Value.ref b] : List Value).toArray 4) := by
  obtain ⟨hx, hb, hr, hml, hown, hts, hX, hbl, hlocks, hgv⟩ := C0
  obtain ⟨ω, hw, hw0, hE, hS0⟩ := law_world hL hts hX hbl hgv
  obtain ⟨σ, hrun, hn1, hn2⟩ := hp L xs hL
  obtain ⟨n, hrun⟩ := Sem_iff.mp hrun
  have htg : ∀ w ∈ lw_g, w.before #[Value.ref b] s = true := fun w hw => hts w (List.mem_filter.mp hw).1
  rw [lg_entry_eq]
  have hl := lv_entry ([.ref b]) (n := 4) (Nat.le_of_ble_eq_true rfl)
  have hcb : conc ω (vr 0) = .ref b := by show Value.ref (wad ω 0) = _; unfold wad; rw [if_pos (by decide), hw0]
  refine body_all ω l n 2047 235 0 _ [] (sg0 L xs) _ hrun p e room_1 s m #[Value.ref b] below meth c s.heap [] 0 0 _ _ 3 0 ⟨hx, hb, hr, hml, hown, htg, hlocks, fun z => absurd law235.2.2.2.2.1 z, hE, by decide, by decide⟩ ⟨⟨fun k q h => ?_, hS0⟩, va_S.rf, ⟨⟨hl.1, hl.2.1, fun q hq => by cases hq⟩, rfl, fun k v h => ?_⟩, ⟨fun k v h => ?_, fun _ k v h => ?_⟩, trivial⟩ rfl rfl (by rw [hw]) (by decide) (by show σ.1.1 ≤ 600000 + 3; omega) (by show σ.1.2.1 ≤ 7302250 + 0; omega) ?_
  · have : wsO ω (sg0 L xs) = [] := rfl
    rw [this] at h; cases h
  · match k, h with
    | 0, h =>
      cases h
      rw [hcb]
      exact hl.2.2 _ List.mem_cons_self
    | 1, h => cases h
    | 2, h => cases h
    | 3, h => cases h
    | k + 4, h => cases h
  · match k, h with
    | 0, h => cases h; trivial
    | 1, h => cases h
    | 2, h => cases h
    | 3, h => cases h
    | k + 4, h => cases h
  · match k, h with
    | 0, h => cases h; rfl
    | 1, h => cases h
    | 2, h => cases h
    | 3, h => cases h
    | k + 4, h => cases h
  · intro pc ls H locs cells slots e1 e2 hHo hS hvo hrk
    refine W.widen (k := 600000) (n := 7302250) (by have e1' : cells + 3 = σ.1.1 := e1; omega) (by have e2' : slots + 0 = σ.1.2.1 := e2; omega) ?_
    refine va_forget (fun q hq => by have := hS.2.2 q hq; unfold wA at this; rw [hw] at this; exact this) ?_
    exact lw_ret hx hb hr hlocks hrk.1
