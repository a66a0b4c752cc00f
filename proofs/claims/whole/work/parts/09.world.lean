/-! the relation between the abstract heap and the machine's -/
abbrev cl13 : List vw_C := [(RX0, TX0, 5), (RX1, TX1, 8), (RX2, TX2, 6), (RX3, TX3, 10), (RX4, TX4, 3), (RX5, TX5, 10), (RX6, TX6, 8), (RX7, TX7, 4), (RX8, TX8, 7), (RX9, TX9, 7), (RX10, TX10, 4), (RX11, TX11, 11), (RX12, TX12, 56)]
theorem cl13_at : ∀ ci, ci < 13 → cl13[ci]? = some (cnm ci, fT ci, fN ci)
  | 0, _ => rfl
  | 1, _ => rfl
  | 2, _ => rfl
  | 3, _ => rfl
  | 4, _ => rfl
  | 5, _ => rfl
  | 6, _ => rfl
  | 7, _ => rfl
  | 8, _ => rfl
  | 9, _ => rfl
  | 10, _ => rfl
  | 11, _ => rfl
  | 12, _ => rfl
  | _ + 13, h => absurd h (by omega)
theorem fTy_ok : ∀ ci, ci < 13 → ∀ k, k < fN ci → parseFieldDescriptor (fT ci k).2.2.1 = some (fTy ci k)
  | 0, _ => tyX0_ok
  | 1, _ => tyX1_ok
  | 2, _ => tyX2_ok
  | 3, _ => tyX3_ok
  | 4, _ => tyX4_ok
  | 5, _ => tyX5_ok
  | 6, _ => tyX6_ok
  | 7, _ => tyX7_ok
  | 8, _ => tyX8_ok
  | 9, _ => tyX9_ok
  | 10, _ => tyX10_ok
  | 11, _ => tyX11_ok
  | 12, _ => tyX12_ok
  | _ + 13, h => absurd h (by omega)
theorem fNm_ok : ∀ ci, ci < 13 → ∀ a, a < fN ci → ∀ b, b < fN ci → a ≠ b → (fT ci a).2.1 ≠ (fT ci b).2.1
  | 0, _ => nmX0
  | 1, _ => nmX1
  | 2, _ => nmX2
  | 3, _ => nmX3
  | 4, _ => nmX4
  | 5, _ => nmX5
  | 6, _ => nmX6
  | 7, _ => nmX7
  | 8, _ => nmX8
  | 9, _ => nmX9
  | 10, _ => nmX10
  | 11, _ => nmX11
  | 12, _ => nmX12
  | _ + 13, h => absurd h (by omega)
def lwLay : List Cond := lw_tbl.filter (fun w => match w with | .lays _ _ _ _ => true | .laysFinal _ _ _ _ => true | _ => false)
set_option maxRecDepth 100000 in
theorem fW_ok' : ∀ ci ∈ List.range 13, ∀ w ∈ u_ws (cnm ci) (fT ci) (fN ci), w ∈ lwLay := by decide +kernel
def lw_g : List Cond := lw_tbl.filter goodWord
def isNest : Cond → Bool
  | .methodLinkNest _ _ _ _ => true
  | _ => false
def lw_n : List Cond := lw_tbl.filter isNest
theorem goodIn_g {ws : List Cond} (h : ∀ w ∈ ws, w ∈ lw_g) : GoodIn lw_g ws := fun w hw => ⟨h w hw, good_of_word (List.mem_filter.mp (h w hw)).2⟩
theorem g_of {w : Cond} (h : w ∈ lw_tbl) (hg : goodWord w = true) : w ∈ lw_g := List.mem_filter.mpr ⟨h, hg⟩
theorem n_of {w : Cond} (h : w ∈ lw_tbl) (hg : isNest w = true) : w ∈ lw_n := List.mem_filter.mpr ⟨h, hg⟩
theorem lay_g (w : Cond) (h : (match w with | .lays _ _ _ _ => true | .laysFinal _ _ _ _ => true | _ => false) = true) : goodWord w = true := by
  cases w <;> first | rfl | (simp at h; done)
theorem fW_ok (ci : Nat) (h : ci < 13) : ∀ w ∈ u_ws (cnm ci) (fT ci) (fN ci), w ∈ lw_g := fun w hw => g_of (List.mem_filter.mp (fW_ok' ci (List.mem_range.mpr h) w hw)).1 (lay_g w (List.mem_filter.mp (fW_ok' ci (List.mem_range.mpr h) w hw)).2)
def NwAll (s : State) : Prop := (∀ w ∈ lw_n, va_Nw w s) ∧ va_AO "FortyDesks$Shelf" s
theorem NwAll.warm {s U : State} (hW : s.WarmedH U.vm) (h : NwAll s) : NwAll U := by
  refine ⟨fun w hw => ?_, va_AO.moved hW.alike h.2⟩
  have h1 := h.1 w hw
  have h2 := (List.mem_filter.mp hw).2
  cases w <;> first | (simp [isNest] at h2; done) | exact va_Nw.warmM hW h1
theorem NwAll.same {s U : State} (hv : s.vm = U.vm) (h : NwAll s) : NwAll U := by
  refine ⟨fun w hw => ?_, va_AO.moved (hv ▸ Vm.Alike.refl s.vm) h.2⟩
  have h1 := h.1 w hw
  have h2 := (List.mem_filter.mp hw).2
  cases w <;> first | (simp [isNest] at h2; done) | exact va_Nw.same rfl hv h1
/-- fixed through the whole law: class numbers and slots, array classes by tag, the first new address, addresses, lengths and contents of the old arrays -/
abbrev mWo : Type := va_G × (Nat → ClassId) × Nat × (Nat → Nat) × (Nat → Nat) × (Nat → Nat → Int32)
def wD (ω : mWo) : va_G := ω.1
def wC (ω : mWo) : Nat → ClassId := ω.2.1
def wh (ω : mWo) : Nat := ω.2.2.1
def wo (ω : mWo) : Nat → Nat := ω.2.2.2.1
def wn (ω : mWo) : Nat → Nat := ω.2.2.2.2.1
def wx (ω : mWo) : Nat → Nat → Int32 := ω.2.2.2.2.2
def wA (ω : mWo) : Nat → Prop := fun q => wh ω ≤ q
def wad (ω : mWo) (c : Nat) : Nat := if c < 3 then wo ω c else wh ω + (c - 3)
def conc (ω : mWo) : mVal → Value
  | .inl a => .int (oi a)
  | .inr (.inl a) => .long (ol a)
  | .inr (.inr none) => .null
  | .inr (.inr (some c)) => .ref (wad ω c)
def vok : mVal → Prop
  | .inl a => iR a
  | .inr (.inl a) => jR a
  | _ => True
def fval (ω : mWo) (σ : mSg) (c k : Nat) (ty : FieldType) : Value := if lkRef ty = true then va_rf ((gR σ c k).map (wad ω)) else .int (oi (gI σ c k))
def fvals (ω : mWo) (σ : mSg) (c ci : Nat) : List Value := (List.range (fN ci)).map (fun k => fval ω σ c k (fTy ci k))
def avals (ω : mWo) (σ : mSg) (c t : Nat) : (Nat → Int32) ⊕ (Nat → Int64) ⊕ (Nat → UInt32) ⊕ (Nat → UInt64) ⊕ (Nat → Option Nat) :=
  if t = 23 then .inr (.inl (fun k => ol (gJ σ c k))) else if t = 24 then .inr (.inr (.inr (.inr (fun k => (gR σ c k).map (wad ω))))) else .inl (fun k => oi (gI σ c k))
def tent (ω : mWo) (σ : mSg) (c : Nat) (t : Nat × Nat) : va_E := if t.1 < 13 then .inr (t.1, fvals ω σ c t.1) else .inl (wC ω t.1, t.2, avals ω σ c t.1)
def wsO (ω : mWo) (σ : mSg) : va_W := (List.range (σ.1.1 - 3)).map (fun j => (wh ω + j, tent ω σ (j + 3) (σ.1.2.2.1 (j + 3))))
def tys5 (ω : mWo) : List (ClassId × FieldType) := [(wC ω 20, .int), (wC ω 21, .short), (wC ω 22, .byte), (wC ω 23, .long), (wC ω 24, .object "FortyDesks$Shelf")]
/-- what holds at a method's entry, whatever it is -/
def En (ω : mWo) (s : State) : Prop := va_K (wD ω) cl13 (tys5 ω) s ∧ (∀ c, c < 3 → va_X (wo ω c) (wn ω c) (wx ω c) s s.heap ∧ wo ω c < wh ω) ∧ wh ω ≤ s.heap.size ∧ va_Z "FortyDesks$Acts" "OWN" "[I" (.ref (wo ω 1)) (wA ω) s s.heap ∧ va_Z "FortyDesks$Acts" "ABOVE" "[I" (.ref (wo ω 2)) (wA ω) s s.heap ∧ NwAll s
/-- what holds of the abstract heap -/
def Sok (ω : mWo) (σ : mSg) : Prop := 3 ≤ σ.1.1 ∧ (∀ c k, iR (gI σ c k)) ∧ (∀ c k, jR (gJ σ c k)) ∧ (∀ c, c < 3 → σ.1.2.2.1 c = (30, wn ω c) ∧ ∀ k, k < wn ω c → gI σ c k = (wx ω c k).toInt) ∧ (∀ c, c < 3 → wn ω c < 2147483648) ∧
  (∀ c, 3 ≤ c → c < σ.1.1 → ((σ.1.2.2.1 c).1 < 13 ∨ (20 ≤ (σ.1.2.2.1 c).1 ∧ (σ.1.2.2.1 c).1 ≤ 24)) ∧ (σ.1.2.2.1 c).2 < 2147483648)
def Hok (ω : mWo) (σ : mSg) (H : Heap) : Prop := va_P (wD ω) cl13 (wsO ω σ) H ∧ Sok ω σ
theorem wsO_at {ω : mWo} {σ : mSg} {c : Nat} (h3 : 3 ≤ c) (hn : c < σ.1.1) : (wsO ω σ)[c - 3]? = some (wad ω c, tent ω σ c (σ.1.2.2.1 c)) := by
  unfold wsO
  rw [List.getElem?_map, List.getElem?_range (by omega)]
  simp only [Option.map_some]
  rw [show c - 3 + 3 = c by omega]
  congr 2
  unfold wad; rw [if_neg (by omega)]
theorem wsO_D {ω : mWo} {σ : mSg} : va_D (wA ω) (wsO ω σ) := by
  have key : ∀ (i : Nat) (p : Nat × va_E), (wsO ω σ)[i]? = some p → p.1 = wh ω + i := by
    intro i p h
    unfold wsO at h
    rw [List.getElem?_map] at h
    cases hr : (List.range (σ.1.1 - 3))[i]? with
    | none => rw [hr] at h; cases h
    | some j =>
      rw [hr] at h
      obtain ⟨hlt, hj⟩ := List.getElem?_eq_some_iff.mp hr
      rw [List.getElem_range] at hj
      subst hj
      simp only [Option.map_some, Option.some.injEq] at h
      rw [← h]
  refine ⟨fun i j p q hp hq e => ?_, fun k q h => ?_⟩
  · have h1 := key i p hp; have h2 := key j q hq; omega
  · show wh ω ≤ q.1
    rw [key k q h]; omega
theorem wsO_len {ω : mWo} {σ : mSg} : (wsO ω σ).length = σ.1.1 - 3 := by unfold wsO; simp
/-- an object -/
theorem obj_at {ω : mWo} {σ : mSg} {c ci : Nat} (hO : Sok ω σ) (hc : (mtg σ c).1 = ci) (hi : ci < 13) : 3 ≤ c ∧ c < σ.1.1 ∧ (wsO ω σ)[c - 3]? = some (wad ω c, .inr (ci, fvals ω σ c ci)) := by
  unfold mtg at hc
  by_cases hn : c < σ.1.1
  · rw [if_pos hn] at hc
    have h3 : 3 ≤ c := by
      rcases Nat.lt_or_ge c 3 with h | h
      · rw [(hO.2.2.2.1 c h).1] at hc
        simp only at hc
        omega
      · exact h
    refine ⟨h3, hn, ?_⟩
    rw [wsO_at h3 hn]
    unfold tent
    rw [if_pos (by omega), hc]
  · rw [if_neg hn] at hc; simp only at hc; omega
/-- a new array -/
theorem arr_at {ω : mWo} {σ : mSg} {c t : Nat} (hO : Sok ω σ) (hc : (mtg σ c).1 = t) (ht : 20 ≤ t ∧ t ≤ 24) : 3 ≤ c ∧ c < σ.1.1 ∧ (wsO ω σ)[c - 3]? = some (wad ω c, .inl (wC ω t, (mtg σ c).2, avals ω σ c t)) := by
  unfold mtg at hc ⊢
  by_cases hn : c < σ.1.1
  · rw [if_pos hn] at hc ⊢
    have h3 : 3 ≤ c := by
      rcases Nat.lt_or_ge c 3 with h | h
      · rw [(hO.2.2.2.1 c h).1] at hc
        simp only at hc
        omega
      · exact h
    refine ⟨h3, hn, ?_⟩
    rw [wsO_at h3 hn]
    unfold tent
    rw [if_neg (by omega), hc]
  · rw [if_neg hn] at hc; simp only at hc; omega
theorem old_at {ω : mWo} {σ : mSg} {c : Nat} (hO : Sok ω σ) (hc : (mtg σ c).1 = 30) : c < 3 ∧ (mtg σ c).2 = wn ω c ∧ ∀ k, k < wn ω c → gI σ c k = (wx ω c k).toInt := by
  unfold mtg at hc ⊢
  by_cases hn : c < σ.1.1
  · rw [if_pos hn] at hc ⊢
    have h3 : c < 3 := by
      rcases Nat.lt_or_ge c 3 with h | h
      · exact h
      · have := (hO.2.2.2.2.2 c h hn).1; omega
    exact ⟨h3, by rw [(hO.2.2.2.1 c h3).1], (hO.2.2.2.1 c h3).2⟩
  · rw [if_neg hn] at hc; simp only at hc; omega
/-- a change of one cell -/
theorem wsO_set {ω : mWo} {σ σ' : mSg} {c : Nat} {e : va_E} (h3 : 3 ≤ c) (hn : c < σ.1.1) (h1 : σ'.1.1 = σ.1.1) (hT : σ'.1.2.2.1 = σ.1.2.2.1)
    (he : tent ω σ' c (σ.1.2.2.1 c) = e) (hr : ∀ c', c' ≠ c → tent ω σ' c' (σ.1.2.2.1 c') = tent ω σ c' (σ.1.2.2.1 c')) : (wsO ω σ).set (c - 3) (wad ω c, e) = wsO ω σ' := by
  apply List.ext_getElem?
  intro j
  by_cases hj : j = c - 3
  · subst hj
    rw [List.getElem?_set_self (by rw [wsO_len]; omega)]
    rw [wsO_at h3 (by rw [h1]; exact hn), hT, he]
  · rw [List.getElem?_set_ne (fun h => hj h.symm)]
    by_cases hl : j < σ.1.1 - 3
    · have a1 := @wsO_at ω σ (j + 3) (by omega) (by omega)
      have a2 := @wsO_at ω σ' (j + 3) (by omega) (by omega)
      rw [show j + 3 - 3 = j by omega] at a1 a2
      rw [a1, a2, hT, hr (j + 3) (by omega)]
    · rw [List.getElem?_eq_none (by rw [wsO_len]; omega), List.getElem?_eq_none (by rw [wsO_len, h1]; omega)]
theorem gI_sI (σ : mSg) (c k : Nat) (v : Int) (c' k' : Nat) : gI (sI σ c k v) c' k' = if c' = c ∧ k' = k then v else gI σ c' k' := rfl
theorem gJ_sJ (σ : mSg) (c k : Nat) (v : Int) (c' k' : Nat) : gJ (sJ σ c k v) c' k' = if c' = c ∧ k' = k then v else gJ σ c' k' := rfl
theorem gR_sR (σ : mSg) (c k : Nat) (v : Nat) (c' k' : Nat) : gR (sR σ c k v) c' k' = if c' = c ∧ k' = k then some v else gR σ c' k' := rfl
theorem gI_sJ (σ : mSg) (c k : Nat) (v : Int) (c' k' : Nat) : gI (sJ σ c k v) c' k' = gI σ c' k' := rfl
theorem gJ_sI (σ : mSg) (c k : Nat) (v : Int) (c' k' : Nat) : gJ (sI σ c k v) c' k' = gJ σ c' k' := rfl
theorem gR_sI (σ : mSg) (c k : Nat) (v : Int) (c' k' : Nat) : gR (sI σ c k v) c' k' = gR σ c' k' := rfl
theorem gR_sJ (σ : mSg) (c k : Nat) (v : Int) (c' k' : Nat) : gR (sJ σ c k v) c' k' = gR σ c' k' := rfl
theorem gI_sR (σ : mSg) (c k v : Nat) (c' k' : Nat) : gI (sR σ c k v) c' k' = gI σ c' k' := rfl
theorem gJ_sR (σ : mSg) (c k v : Nat) (c' k' : Nat) : gJ (sR σ c k v) c' k' = gJ σ c' k' := rfl
/-- what a cell holds hangs on its own places alone -/
theorem tent_ext {ω : mWo} {σ σ' : mSg} {c : Nat} {t : Nat × Nat} (h1 : ∀ k, gI σ' c k = gI σ c k) (h2 : ∀ k, gJ σ' c k = gJ σ c k) (h3 : ∀ k, gR σ' c k = gR σ c k) : tent ω σ' c t = tent ω σ c t := by
  unfold tent fvals avals fval
  simp only [h1, h2, h3]
theorem Sok_sI {ω : mWo} {σ : mSg} {c k : Nat} {v : Int} (h : Sok ω σ) (h3 : 3 ≤ c) (hv : iR v) : Sok ω (sI σ c k v) := by
  obtain ⟨a, b, d, e, f, g⟩ := h
  refine ⟨a, fun c' k' => ?_, d, fun c' hc => ⟨(e c' hc).1, fun k' hk => ?_⟩, f, g⟩
  · rw [gI_sI]; split
    · exact hv
    · exact b c' k'
  · rw [gI_sI, if_neg (by omega)]; exact (e c' hc).2 k' hk
theorem Sok_sJ {ω : mWo} {σ : mSg} {c k : Nat} {v : Int} (h : Sok ω σ) (hv : jR v) : Sok ω (sJ σ c k v) := by
  obtain ⟨a, b, d, e, f, g⟩ := h
  refine ⟨a, b, fun c' k' => ?_, e, f, g⟩
  rw [gJ_sJ]; split
  · exact hv
  · exact d c' k'
theorem Sok_sR {ω : mWo} {σ : mSg} {c k v : Nat} (h : Sok ω σ) : Sok ω (sR σ c k v) := h
theorem cpI_g (σ : mSg) (c0 c1 sp dp n c k : Nat) : gI (cpI σ c0 c1 sp dp n) c k = if c = c1 ∧ dp ≤ k ∧ k < dp + n then gI σ c0 (sp + (k - dp)) else gI σ c k := rfl
theorem cpJ_g (σ : mSg) (c0 c1 sp dp n c k : Nat) : gJ (cpJ σ c0 c1 sp dp n) c k = if c = c1 ∧ dp ≤ k ∧ k < dp + n then gJ σ c0 (sp + (k - dp)) else gJ σ c k := rfl
theorem Sok_cpI {ω : mWo} {σ : mSg} {c0 c1 sp dp n : Nat} (h : Sok ω σ) (h3 : 3 ≤ c1) : Sok ω (cpI σ c0 c1 sp dp n) := by
  obtain ⟨a, b, d, e, f, g⟩ := h
  refine ⟨a, fun c' k' => ?_, d, fun c' hc => ⟨(e c' hc).1, fun k' hk => ?_⟩, f, g⟩
  · rw [cpI_g]; split
    · exact b _ _
    · exact b c' k'
  · rw [cpI_g, if_neg (by omega)]; exact (e c' hc).2 k' hk
theorem Sok_cpJ {ω : mWo} {σ : mSg} {c0 c1 sp dp n : Nat} (h : Sok ω σ) : Sok ω (cpJ σ c0 c1 sp dp n) := by
  obtain ⟨a, b, d, e, f, g⟩ := h
  refine ⟨a, b, fun c' k' => ?_, e, f, g⟩
  rw [cpJ_g]; split
  · exact d _ _
  · exact d c' k'
/-- the locals -/
def Lrel (ω : mWo) (ls : Array Slot) (nL : Nat) (L : mLoc) : Prop := lv_has ls nL [] ∧ L.length = nL ∧ ∀ (k : Nat) (v : mVal), L[k]? = some (some v) → ls[k]? = some (Slot.val (conc ω v))
def lvs (ω : mWo) (L : mLoc) : List (Nat × Value) := (List.range L.length).filterMap (fun k => match L[k]? with
  | some (some v) => some (k, conc ω v)
  | _ => none)
theorem lvs_mem {ω : mWo} {L : mLoc} {k : Nat} {w : Value} : (k, w) ∈ lvs ω L ↔ ∃ v, L[k]? = some (some v) ∧ w = conc ω v := by
  unfold lvs
  rw [List.mem_filterMap]
  constructor
  · rintro ⟨j, -, h⟩
    cases hj : L[j]? with
    | none => rw [hj] at h; cases h
    | some u =>
      cases u with
      | none => rw [hj] at h; cases h
      | some v =>
        rw [hj] at h
        simp only [Option.some.injEq, Prod.mk.injEq] at h
        obtain ⟨rfl, rfl⟩ := h
        exact ⟨v, hj, rfl⟩
  · rintro ⟨v, h, rfl⟩
    exact ⟨k, List.mem_range.mpr (List.getElem?_eq_some_iff.mp h).1, by rw [h]⟩
theorem Lrel.lv {ω : mWo} {ls : Array Slot} {nL : Nat} {L : mLoc} (h : Lrel ω ls nL L) : lv_has ls nL (lvs ω L) := by
  refine ⟨h.1.1, h.1.2.1, fun q hq => ?_⟩
  obtain ⟨k, w⟩ := q
  obtain ⟨v, h1, rfl⟩ := lvs_mem.mp hq
  exact h.2.2 k v h1
def noL (L : mLoc) : Prop := ∀ (k : Nat) (v : mVal), L[k]? = some (some v) → mnol v = true
def Lok (lg : Bool) (L : mLoc) : Prop := (∀ (k : Nat) (v : mVal), L[k]? = some (some v) → vok v) ∧ (lg = false → noL L)
theorem conc_cat (ω : mWo) (v : mVal) : (conc ω v).category = mcat v := by
  rcases v with a | a | (_ | c) <;> rfl
theorem mcat_nol {v : mVal} (h : mnol v = true) : mcat v = 1 := by
  rcases v with a | a | (_ | c) <;> first | rfl | cases h
theorem sto1_get {lg : Bool} {L : mLoc} {i k : Nat} {v u : mVal} (hi : i < L.length) (h : (sto1 lg L i v)[k]? = some (some u)) : (k = i ∧ u = v) ∨ (k ≠ i ∧ L[k]? = some (some u) ∧ (lg = true → ¬ (k + 1 = i ∧ mcat u = 2))) := by
  by_cases e : k = i
  · subst e
    refine Or.inl ⟨rfl, ?_⟩
    unfold sto1 at h
    split at h
    · rw [List.getElem?_set_self hi] at h; exact (Option.some.inj (Option.some.inj h)).symm
    · split at h
      · rw [List.getElem?_set_self hi] at h; exact (Option.some.inj (Option.some.inj h)).symm
      · split at h <;> (rw [List.getElem?_set_self (by simpa using hi)] at h; exact (Option.some.inj (Option.some.inj h)).symm)
  · refine Or.inr ⟨e, ?_⟩
    unfold sto1 at h
    split at h
    · rw [List.getElem?_set_ne (fun z => e z.symm)] at h; exact ⟨h, fun z => by cases z⟩
    · split at h
      · rw [List.getElem?_set_ne (fun z => e z.symm)] at h; exact ⟨h, fun _ z => by omega⟩
      · rename_i j
        split at h
        · rename_i a hj
          rw [List.getElem?_set_ne (fun z => e z.symm)] at h
          by_cases e2 : k = j
          · subst e2
            rw [List.getElem?_set_self (by omega)] at h; cases h
          · rw [List.getElem?_set_ne (fun z => e2 z.symm)] at h
            exact ⟨h, fun _ z => e2 (by omega)⟩
        · rename_i hj
          rw [List.getElem?_set_ne (fun z => e z.symm)] at h
          refine ⟨h, fun _ z => ?_⟩
          obtain ⟨z1, z2⟩ := z
          have : k = j := by omega
          subst this
          rcases u with a | a | (_ | c)
          · cases z2
          · exact hj a h
          · cases z2
          · cases z2
theorem sto1_len {lg : Bool} {L : mLoc} {i : Nat} {v : mVal} : (sto1 lg L i v).length = L.length := by
  unfold sto1
  repeat' split
  all_goals simp
theorem Lrel.sto1 {ω : mWo} {ls ls' : Array Slot} {nL i : Nat} {L : mLoc} {lg : Bool} {v : mVal} (h : Lrel ω ls nL L) (hk : Lok lg L) (hi : i < L.length) (h' : lv_has ls' nL ((i, conc ω v) :: (lvs ω L).filter (fun q => !(q.1 == i) && !(q.1 + 1 == i && q.2.category == 2)))) : Lrel ω ls' nL (sto1 lg L i v) := by
  refine ⟨⟨h'.1, h'.2.1, fun q hq => by cases hq⟩, by rw [sto1_len]; exact h.2.1, fun k u hu => ?_⟩
  rcases sto1_get hi hu with ⟨rfl, rfl⟩ | ⟨e, h1, h2⟩
  · exact h'.2.2 _ List.mem_cons_self
  · refine h'.2.2 (k, conc ω u) (List.mem_cons_of_mem _ (List.mem_filter.mpr ⟨lvs_mem.mpr ⟨u, h1, rfl⟩, ?_⟩))
    simp only [conc_cat]
    have h3 : ¬ (k + 1 = i ∧ mcat u = 2) := by
      cases lg with
      | true => exact h2 rfl
      | false =>
        intro z
        have := mcat_nol (hk.2 rfl k u h1)
        omega
    simp only [Bool.and_eq_true, Bool.not_eq_true', beq_eq_false_iff_ne, ne_eq, Bool.and_eq_false_iff]
    refine ⟨e, ?_⟩
    rcases Decidable.em (k + 1 = i) with z | z
    · exact Or.inr fun z2 => h3 ⟨z, z2⟩
    · exact Or.inl z
theorem Lok.sto1 {lg : Bool} {L : mLoc} {i : Nat} {v : mVal} (hk : Lok lg L) (hi : i < L.length) (hv : vok v) (hn : mnol v = true) : Lok lg (sto1 lg L i v) := by
  refine ⟨fun k u hu => ?_, fun e k u hu => ?_⟩
  · rcases sto1_get hi hu with ⟨rfl, rfl⟩ | ⟨e, h1, -⟩
    · exact hv
    · exact hk.1 k u h1
  · rcases sto1_get hi hu with ⟨rfl, rfl⟩ | ⟨-, h1, -⟩
    · exact hn
    · exact hk.2 e k u h1
theorem sto2_get {L : mLoc} {i k : Nat} {v u : mVal} (hi : i + 1 < L.length) (h : (sto2 L i v)[k]? = some (some u)) : (k = i ∧ u = v) ∨ (k ≠ i ∧ k ≠ i + 1 ∧ L[k]? = some (some u) ∧ ¬ (k + 1 = i ∧ mcat u = 2)) := by
  by_cases e : k = i
  · subst e
    refine Or.inl ⟨rfl, ?_⟩
    unfold sto2 at h
    split at h
    · rw [List.getElem?_set_self (by simp; omega)] at h; exact (Option.some.inj (Option.some.inj h)).symm
    · split at h <;> (rw [List.getElem?_set_self (by simp; omega)] at h; exact (Option.some.inj (Option.some.inj h)).symm)
  · refine Or.inr ⟨e, ?_⟩
    unfold sto2 at h
    split at h
    · rw [List.getElem?_set_ne (fun z => e z.symm)] at h
      by_cases e1 : k = 1
      · subst e1; rw [List.getElem?_set_self (by omega)] at h; cases h
      · rw [List.getElem?_set_ne (fun z => e1 z.symm)] at h; exact ⟨by omega, h, fun z => by omega⟩
    · rename_i j
      split at h
      · rename_i a hj
        rw [List.getElem?_set_ne (fun z => e z.symm)] at h
        by_cases e1 : k = j + 2
        · subst e1; rw [List.getElem?_set_self (by simp; omega)] at h; cases h
        · rw [List.getElem?_set_ne (fun z => e1 z.symm)] at h
          by_cases e2 : k = j
          · subst e2
            rw [List.getElem?_set_self (by omega)] at h; cases h
          · rw [List.getElem?_set_ne (fun z => e2 z.symm)] at h
            exact ⟨e1, h, fun z => e2 (by omega)⟩
      · rename_i hj
        rw [List.getElem?_set_ne (fun z => e z.symm)] at h
        by_cases e1 : k = j + 2
        · subst e1; rw [List.getElem?_set_self (by omega)] at h; cases h
        · rw [List.getElem?_set_ne (fun z => e1 z.symm)] at h
          refine ⟨e1, h, fun z => ?_⟩
          obtain ⟨z1, z2⟩ := z
          have : k = j := by omega
          subst this
          rcases u with a | a | (_ | c)
          · cases z2
          · exact hj a h
          · cases z2
          · cases z2
theorem sto2_len {L : mLoc} {i : Nat} {v : mVal} : (sto2 L i v).length = L.length := by
  unfold sto2
  repeat' split
  all_goals simp
theorem Lrel.sto2 {ω : mWo} {ls ls' : Array Slot} {nL i : Nat} {L : mLoc} {v : mVal} (h : Lrel ω ls nL L) (hi : i + 1 < L.length) (h' : lv_has ls' nL ((i, conc ω v) :: (lvs ω L).filter (fun q => !(q.1 == i) && (!(q.1 == i + 1) && !(q.1 + 1 == i && q.2.category == 2))))) : Lrel ω ls' nL (sto2 L i v) := by
  refine ⟨⟨h'.1, h'.2.1, fun q hq => by cases hq⟩, by rw [sto2_len]; exact h.2.1, fun k u hu => ?_⟩
  rcases sto2_get hi hu with ⟨rfl, rfl⟩ | ⟨e, e1, h1, h2⟩
  · exact h'.2.2 _ List.mem_cons_self
  · refine h'.2.2 (k, conc ω u) (List.mem_cons_of_mem _ (List.mem_filter.mpr ⟨lvs_mem.mpr ⟨u, h1, rfl⟩, ?_⟩))
    simp only [conc_cat, Bool.and_eq_true, Bool.not_eq_true', beq_eq_false_iff_ne, ne_eq, Bool.and_eq_false_iff]
    refine ⟨e, e1, ?_⟩
    rcases Decidable.em (k + 1 = i) with z | z
    · exact Or.inr fun z2 => h2 ⟨z, z2⟩
    · exact Or.inl z
theorem Lok.sto2 {L : mLoc} {i : Nat} {v : mVal} (hk : Lok true L) (hi : i + 1 < L.length) (hv : vok v) : Lok true (sto2 L i v) := by
  refine ⟨fun k u hu => ?_, fun e => by cases e⟩
  rcases sto2_get hi hu with ⟨rfl, rfl⟩ | ⟨e, -, h1, -⟩
  · exact hv
  · exact hk.1 k u h1
/-- the stack's ranges -/
def stk : List mVal → Prop
  | [] => True
  | v :: r => vok v ∧ stk r
def Cx (ω : mWo) (p : Program) (R : Room) (s : State) (m : MethodId) (args : Array Value) (meth : Method) (c : Code) (y d : Nat) : Prop :=
  p.tables.exec = Jvm.exec ∧ c.code = mb y ∧ meth.sig.returnType = mret y ∧ c.maxLocals = mnl y ∧ s.vm.findClass (cnm (mcl y)) = some m.cls ∧ (∀ w ∈ lw_g, w.before args s = true) ∧ meth.locks = false ∧ (mini y ≠ 0 → meth.name = "<init>") ∧ En ω s ∧ d + 1 ≤ R.frames ∧ 41 * (d + 1) ≤ R.locals
def Dy (ω : mWo) (s : State) (y : Nat) (σ : mSg) (L : mLoc) (st : List mVal) (H : Heap) (locs : List Loc) (ls : Array Slot) : Prop :=
  Hok ω σ H ∧ va_S (wA ω) s.heap H locs ∧ Lrel ω ls (mnl y) L ∧ Lok (mlg y) L ∧ stk st
def Go (ω : mWo) (l : Launch) (n d y : Nat) (o : mOut) (p : Program) (e : Env) (R : Room) (s : State) (m : MethodId) (args : Array Value) (below : List Frame) (meth : Method) (c : Code) (n0 s0 : Nat) (Q : State → Prop) : Prop :=
  ∀ (pc : Nat) (L : mLoc) (st : List mVal) (σ : mSg) (H : Heap) (locs : List Loc) (cells slots : Nat) (ls : Array Slot), run n d y pc L st σ = some o → Dy ω s y σ L st H locs ls → cells + n0 = σ.1.1 → slots + s0 = σ.1.2.1 →
    W p l e R s m args below meth c H locs cells slots Q (F0 m pc ls (st.map (conc ω)))
def caR (n d y : Nat) (y' : Nat) (as : List mVal) (pc' : Nat) (L' : mLoc) (st' : List mVal) (σ' : mSg) : Option mOut := match d with
  | 0 => none
  | d' + 1 => if y' < 235 ∧ menokN (mnl y') (mlg y') as = true then (run n d' y' 0 (mentN (mnl y') as) [] σ').bind (fun o => run n d y pc' L' (mpush o.1 st') o.2) else none
def stR (n d y : Nat) (i : Instr) (pc : Nat) (L : mLoc) (st : List mVal) (σ : mSg) : Option mOut :=
  stepI none (fun pc L st σ => run n d y pc L st σ) (caR n d y) (fun v σ => some (v, σ)) (mrt y) (mini y) (mlg y) (lkI (mcl y) i) i pc L st σ
theorem oi_rem {a b : Int} (ha : iR a) (hb : iR b) : oi a - oi a / oi b * oi b = oi (a.tmod b) := by
  rw [oi_div ha hb, oi_mul, oi_sub]
  rw [← Int32.toInt_inj, oi_wr, oi_i (mod_R ha hb)]
  have h1 : wr (wr (a - wr (wr (a.tdiv b) * b))) = wr (a.tmod b) := by
    have e : a.tmod b = a - a.tdiv b * b := by rw [Int.tmod_def, Int.mul_comm]
    rw [e]
    unfold wr
    simp
  rw [h1, wr_of (mod_R ha hb)]
