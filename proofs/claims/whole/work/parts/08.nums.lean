/-! numbers: Int32, Int64 and Int -/
abbrev iR (a : Int) : Prop := -2147483648 ≤ a ∧ a < 2147483648
abbrev jR (a : Int) : Prop := -9223372036854775808 ≤ a ∧ a < 9223372036854775808
theorem wr_of {a : Int} (h : iR a) : wr a = a := by unfold wr; obtain ⟨h1, h2⟩ := h; rw [Int.bmod_def]; split <;> omega
theorem wl_of {a : Int} (h : jR a) : wl a = a := by unfold wl; obtain ⟨h1, h2⟩ := h; rw [Int.bmod_def]; split <;> omega
theorem wr_R (a : Int) : iR (wr a) := by unfold wr iR; rw [Int.bmod_def]; constructor <;> split <;> omega
theorem wl_R (a : Int) : jR (wl a) := by unfold wl jR; rw [Int.bmod_def]; constructor <;> split <;> omega
theorem i32_R (x : Int32) : iR x.toInt := ⟨by have := x.le_toInt; omega, by have := x.toInt_lt; omega⟩
theorem i64_R (x : Int64) : jR x.toInt := ⟨by have := x.le_toInt; omega, by have := x.toInt_lt; omega⟩
theorem oi_wr (a : Int) : (oi a).toInt = wr a := by unfold oi; rw [Int32.toInt_ofInt]; rfl
theorem ol_wl (a : Int) : (ol a).toInt = wl a := by unfold ol; rw [Int64.toInt_ofInt]; rfl
theorem oi_i {a : Int} (h : iR a) : (oi a).toInt = a := by rw [oi_wr, wr_of h]
theorem ol_i {a : Int} (h : jR a) : (ol a).toInt = a := by rw [ol_wl, wl_of h]
theorem oi_t (x : Int32) : oi x.toInt = x := by rw [← Int32.toInt_inj, oi_i (i32_R x)]
theorem ol_t (x : Int64) : ol x.toInt = x := by rw [← Int64.toInt_inj, ol_i (i64_R x)]
theorem wr_bb (a : Int) : (wr a) = a.bmod (2 ^ 32) := rfl
theorem oi_add (a b : Int) : oi a + oi b = oi (wr (a + b)) := by
  rw [← Int32.toInt_inj, Int32.toInt_add, oi_wr, oi_wr, oi_wr]; unfold wr; simp
theorem oi_sub (a b : Int) : oi a - oi b = oi (wr (a - b)) := by
  rw [← Int32.toInt_inj, Int32.toInt_sub, oi_wr, oi_wr, oi_wr]; unfold wr; simp
theorem oi_mul (a b : Int) : oi a * oi b = oi (wr (a * b)) := by
  rw [← Int32.toInt_inj, Int32.toInt_mul, oi_wr, oi_wr, oi_wr]; unfold wr; simp
theorem oi_neg (a : Int) : - oi a = oi (wr (- a)) := by
  rw [← Int32.toInt_inj, Int32.toInt_neg, oi_wr, oi_wr]; unfold wr; simp
theorem oi_div {a b : Int} (ha : iR a) (hb : iR b) : oi a / oi b = oi (wr (a.tdiv b)) := by
  rw [← Int32.toInt_inj, Int32.toInt_div, oi_i ha, oi_i hb, oi_wr]; unfold wr; simp
theorem oi_mod {a b : Int} (ha : iR a) (hb : iR b) : oi a % oi b = oi (a.tmod b) := by
  rw [← Int32.toInt_inj, Int32.toInt_mod, oi_i ha, oi_i hb, oi_i]
  rw [← oi_i ha, ← oi_i hb, ← Int32.toInt_mod]; exact i32_R _
theorem mod_R {a b : Int} (ha : iR a) (hb : iR b) : iR (a.tmod b) := by
  rw [← oi_i ha, ← oi_i hb, ← Int32.toInt_mod]; exact i32_R _
theorem oi_ne {b : Int} (hb : iR b) (h : b ≠ 0) : ¬ oi b = 0 := by
  rw [← Int32.toInt_inj, oi_i hb]; exact h
theorem oi_lt {a b : Int} (ha : iR a) (hb : iR b) : oi a < oi b ↔ a < b := by rw [Int32.lt_iff_toInt_lt, oi_i ha, oi_i hb]
theorem oi_le {a b : Int} (ha : iR a) (hb : iR b) : oi a ≤ oi b ↔ a ≤ b := by rw [Int32.le_iff_toInt_le, oi_i ha, oi_i hb]
theorem oi_eq {a b : Int} (ha : iR a) (hb : iR b) : oi a = oi b ↔ a = b := by rw [← Int32.toInt_inj, oi_i ha, oi_i hb]
theorem oi_0 : (0 : Int32) = oi 0 := by decide +kernel
theorem iR_0 : iR 0 := by decide
theorem oi_nat {a : Int} (ha : iR a) : (oi a).toNatClampNeg = a.toNat := by
  show (oi a).toInt.toNat = _; rw [oi_i ha]
theorem oi_in {a : Int} {n : Nat} (ha : iR a) (h : 0 ≤ a ∧ a < n) : vp_in (oi a) n := by
  unfold vp_in
  rw [oi_nat ha, oi_0, oi_lt ha iR_0]
  omega
theorem oi_i2l {a : Int} (ha : iR a) : (oi a).toInt64 = ol a := by
  rw [← Int64.toInt_inj, Int32.toInt_toInt64, oi_i ha, ol_i]; exact ⟨by omega, by omega⟩
theorem ol_l2i (a : Int) : (ol a).toInt32 = oi (wr a) := by
  rw [← Int32.toInt_inj, Int64.toInt_toInt32, ol_wl, oi_wr]; unfold wr wl
  rw [Int.bmod_bmod_of_dvd (by decide)]; simp
theorem oi_i2b {a : Int} (ha : iR a) : (oi a).toInt8.toInt32 = oi (i2b a) := by
  rw [← Int32.toInt_inj, Int8.toInt_toInt32, Int32.toInt_toInt8, oi_i ha, oi_wr]; unfold i2b wr
  have h1 := @Int.le_bmod a 256 (by decide); have h2 := @Int.bmod_lt a 256 (by decide)
  show Int.bmod a 256 = _
  rw [show Int.bmod (Int.bmod a 256) 4294967296 = wr (Int.bmod a 256) from rfl, wr_of ⟨by omega, by omega⟩]
theorem i2b_R (a : Int) : iR (i2b a) := by
  unfold i2b
  have h1 := @Int.le_bmod a 256 (by decide); have h2 := @Int.bmod_lt a 256 (by decide)
  exact ⟨by omega, by omega⟩
theorem oi_i2s {a : Int} (ha : iR a) : (oi a).toInt16.toInt32 = oi (i2s a) := by
  rw [← Int32.toInt_inj, Int16.toInt_toInt32, Int32.toInt_toInt16, oi_i ha, oi_wr]; unfold i2s wr
  have h1 := @Int.le_bmod a 65536 (by decide); have h2 := @Int.bmod_lt a 65536 (by decide)
  show Int.bmod a 65536 = _
  rw [show Int.bmod (Int.bmod a 65536) 4294967296 = wr (Int.bmod a 65536) from rfl, wr_of ⟨by omega, by omega⟩]
theorem i2s_R (a : Int) : iR (i2s a) := by
  unfold i2s
  have h1 := @Int.le_bmod a 65536 (by decide); have h2 := @Int.bmod_lt a 65536 (by decide)
  exact ⟨by omega, by omega⟩
theorem oi_nars (a : Int) (ha : iR a) : vp_nar .short (oi a) = oi (i2s a) := by
  rw [← oi_i2s ha]; rfl
theorem oi_narb (a : Int) (ha : iR a) : vp_nar .byte (oi a) = oi (i2b a) := by
  rw [← oi_i2b ha]; rfl
theorem ol_add (a b : Int) : ol a + ol b = ol (wl (a + b)) := by
  rw [← Int64.toInt_inj, Int64.toInt_add, ol_wl, ol_wl, ol_wl]; unfold wl; simp
theorem ol_mul (a b : Int) : ol a * ol b = ol (wl (a * b)) := by
  rw [← Int64.toInt_inj, Int64.toInt_mul, ol_wl, ol_wl, ol_wl]; unfold wl; simp
theorem oi_cmp {a b : Int} (ha : jR a) (hb : jR b) : lg_cmp (ol a) (ol b) = oi (lcmpI a b) := by
  unfold lg_cmp lcmpI
  simp only [gt_iff_lt, Int64.lt_iff_toInt_lt, ← Int64.toInt_inj, ol_i ha, ol_i hb]
  repeat' split
  all_goals first | rfl | omega
theorem lcmp_R (a b : Int) : iR (lcmpI a b) := by unfold lcmpI iR; repeat' split
                                                  all_goals omega
theorem oi_bp {n : Int} (h : -128 ≤ n ∧ n < 128) : (Int8.ofInt n).toInt32 = oi n := by
  rw [← Int32.toInt_inj, Int8.toInt_toInt32, oi_i ⟨by omega, by omega⟩, Int8.toInt_ofInt_of_le (by omega) (by omega)]
theorem oi_sp {n : Int} (h : -32768 ≤ n ∧ n < 32768) : (Int16.ofInt n).toInt32 = oi n := by
  rw [← Int32.toInt_inj, Int16.toInt_toInt32, oi_i ⟨by omega, by omega⟩, Int16.toInt_ofInt_of_le (by omega) (by omega)]
theorem oi_of (n : Nat) : Int32.ofNat n = oi (n : Int) := rfl
