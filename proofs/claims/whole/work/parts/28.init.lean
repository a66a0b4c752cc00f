theorem semK_ofi {d y y' pc : Nat} {as st : List mVal} {L : mLoc} {σ σ' : mSg} {r : Option mVal} (h : semC d y' as σ = some (r, σ')) : semK d y y' as pc L st σ = Sem d y pc L (mpush r st) σ' := by
  unfold semK; rw [h]; rfl
def z0 (L : Nat) (xs : Nat → Int32) : mSg := nwc (sg0 L xs) 11 11
set_option maxRecDepth 1000000 in
set_option maxHeartbeats 4000000 in
theorem i_1 (d : Nat) (L : Nat) (xs : Nat → Int32) : Sem d 235 0 [some (vr 0), none, none, none] [] (sg0 L xs) = semK d 235 92 [vr 3] 7 [some (vr 0), none, none, none] [vr 3] (z0 L xs) :=
  blk (rt := 2) (ini := 0) (lg := false) (is := [(.new 7, (30, 11, 11, 0)), (.dup, (0, 0, 0, 0)), (.invokespecial 9, (12, 92, 0, 0))]) (by decide +kernel) d _ _ _
def z1 (L : Nat) (xs : Nat → Int32) : mSg := nwc (z0 L xs) 3 10
set_option maxRecDepth 1000000 in
set_option maxHeartbeats 4000000 in
theorem i_2 (d : Nat) (L : Nat) (xs : Nat → Int32) : Sem d 92 0 [some (vr 3), none] [] (z0 L xs) = semK d 92 20 [vr 4] 12 [some (vr 3), none] [vr 4, vr 3] (z1 L xs) :=
  blk (rt := 0) (ini := 12) (lg := false) (is := [(.aload_n 0, (0, 0, 0, 0)), (.invokespecial 1, (16, 0, 0, 0)), (.aload_n 0, (0, 0, 0, 0)), (.new 7, (30, 3, 10, 0)), (.dup, (0, 0, 0, 0)), (.invokespecial 9, (12, 20, 0, 1))]) (by decide +kernel) d _ _ _
def z2 (L : Nat) (xs : Nat → Int32) : mSg := sR (nwc (sR (nwc (sR (nwc (sR (nwc (sI (sI (z1 L xs) 4 0 (12 : Int)) 4 1 (12 : Int)) 20 10) 4 2 5) 20 10) 4 3 6) 20 10) 4 5 7) 20 10) 4 6 8
set_option maxRecDepth 1000000 in
set_option maxHeartbeats 4000000 in
theorem i_3 (d : Nat) (L : Nat) (xs : Nat → Int32) : Sem d 20 0 [some (vr 4)] [] (z1 L xs) = Sem d 20 48 [some (vr 4)] [] (z2 L xs) :=
  blk (rt := 0) (ini := 4) (lg := false) (is := [(.aload_n 0, (0, 0, 0, 0)), (.invokespecial 3, (16, 0, 0, 0)), (.aload_n 0, (0, 0, 0, 0)), (.bipush 12, (0, 0, 0, 0)), (.putfield 9, (1, 3, 0, 0)), (.aload_n 0, (0, 0, 0, 0)), (.bipush 12, (0, 0, 0, 0)), (.putfield 15, (1, 3, 1, 0)), (.aload_n 0, (0, 0, 0, 0)), (.bipush 10, (0, 0, 0, 0)), (.newarray .int, (0, 0, 0, 0)), (.putfield 18, (3, 3, 2, 1)), (.aload_n 0, (0, 0, 0, 0)), (.bipush 10, (0, 0, 0, 0)), (.newarray .int, (0, 0, 0, 0)), (.putfield 22, (3, 3, 3, 1)), (.aload_n 0, (0, 0, 0, 0)), (.bipush 10, (0, 0, 0, 0)), (.newarray .int, (0, 0, 0, 0)), (.putfield 25, (3, 3, 5, 1)), (.aload_n 0, (0, 0, 0, 0)), (.bipush 10, (0, 0, 0, 0)), (.newarray .int, (0, 0, 0, 0)), (.putfield 28, (3, 3, 6, 1))]) (by decide +kernel) d _ _ _
def z3 (L : Nat) (xs : Nat → Int32) : mSg := sR (nwc (z2 L xs) 20 10) 4 7 9
set_option maxRecDepth 1000000 in
set_option maxHeartbeats 4000000 in
theorem i_4 (d : Nat) (L : Nat) (xs : Nat → Int32) : Sem d 20 48 [some (vr 4)] [] (z2 L xs) = some (none, z3 L xs) :=
  blk (rt := 0) (ini := 4) (lg := false) (is := [(.aload_n 0, (0, 0, 0, 0)), (.bipush 10, (0, 0, 0, 0)), (.newarray .int, (0, 0, 0, 0)), (.putfield 31, (3, 3, 7, 1)), (.return_, (0, 0, 0, 0))]) (by decide +kernel) d _ _ _
theorem j_5 (d : Nat) (L : Nat) (xs : Nat → Int32) (hd : 1 ≤ d) : semC d 20 [vr 4] (z1 L xs) = some (none, z3 L xs) := by
  obtain ⟨d, rfl⟩ : ∃ e, d = e + 1 := ⟨d - 1, by omega⟩
  rw [semC_in (n := 1) (lg := false) d _ _ (by decide +kernel) rfl]
  show Sem d 20 0 [some (vr 4)] [] (z1 L xs) = _
  rw [i_3]
  rw [i_4]
def z4 (L : Nat) (xs : Nat → Int32) : mSg := nwc (sR (z3 L xs) 3 0 4) 9 7
set_option maxRecDepth 1000000 in
set_option maxHeartbeats 4000000 in
theorem i_6 (d : Nat) (L : Nat) (xs : Nat → Int32) : Sem d 92 12 [some (vr 3), none] [vr 4, vr 3] (z3 L xs) = semK d 92 79 [vr 10] 23 [some (vr 3), none] [vr 10, vr 3] (z4 L xs) :=
  blk (rt := 0) (ini := 12) (lg := false) (is := [(.putfield 10, (3, 11, 0, 1)), (.aload_n 0, (0, 0, 0, 0)), (.new 16, (30, 9, 7, 0)), (.dup, (0, 0, 0, 0)), (.invokespecial 18, (12, 79, 0, 1))]) (by decide +kernel) d _ _ _
def z5 (L : Nat) (xs : Nat → Int32) : mSg := sR (nwc (sR (nwc (sR (nwc (sR (nwc (sR (nwc (z4 L xs) 20 10) 10 0 11) 20 10) 10 1 12) 20 10) 10 2 13) 20 10) 10 3 14) 20 10) 10 4 15
set_option maxRecDepth 1000000 in
set_option maxHeartbeats 4000000 in
theorem i_7 (d : Nat) (L : Nat) (xs : Nat → Int32) : Sem d 79 0 [some (vr 10)] [] (z4 L xs) = Sem d 79 47 [some (vr 10)] [vi (10 : Int), vr 10] (z5 L xs) :=
  blk (rt := 0) (ini := 10) (lg := false) (is := [(.aload_n 0, (0, 0, 0, 0)), (.invokespecial 3, (16, 0, 0, 0)), (.aload_n 0, (0, 0, 0, 0)), (.bipush 10, (0, 0, 0, 0)), (.newarray .int, (0, 0, 0, 0)), (.putfield 9, (3, 9, 0, 1)), (.aload_n 0, (0, 0, 0, 0)), (.bipush 10, (0, 0, 0, 0)), (.newarray .int, (0, 0, 0, 0)), (.putfield 15, (3, 9, 1, 1)), (.aload_n 0, (0, 0, 0, 0)), (.bipush 10, (0, 0, 0, 0)), (.newarray .int, (0, 0, 0, 0)), (.putfield 18, (3, 9, 2, 1)), (.aload_n 0, (0, 0, 0, 0)), (.bipush 10, (0, 0, 0, 0)), (.newarray .int, (0, 0, 0, 0)), (.putfield 21, (3, 9, 3, 1)), (.aload_n 0, (0, 0, 0, 0)), (.bipush 10, (0, 0, 0, 0)), (.newarray .int, (0, 0, 0, 0)), (.putfield 24, (3, 9, 4, 1)), (.aload_n 0, (0, 0, 0, 0)), (.bipush 10, (0, 0, 0, 0))]) (by decide +kernel) d _ _ _
def z6 (L : Nat) (xs : Nat → Int32) : mSg := sR (nwc (z5 L xs) 20 10) 10 5 16
set_option maxRecDepth 1000000 in
set_option maxHeartbeats 4000000 in
theorem i_8 (d : Nat) (L : Nat) (xs : Nat → Int32) : Sem d 79 47 [some (vr 10)] [vi (10 : Int), vr 10] (z5 L xs) = some (none, z6 L xs) :=
  blk (rt := 0) (ini := 10) (lg := false) (is := [(.newarray .int, (0, 0, 0, 0)), (.putfield 27, (3, 9, 5, 1)), (.return_, (0, 0, 0, 0))]) (by decide +kernel) d _ _ _
theorem j_9 (d : Nat) (L : Nat) (xs : Nat → Int32) (hd : 1 ≤ d) : semC d 79 [vr 10] (z4 L xs) = some (none, z6 L xs) := by
  obtain ⟨d, rfl⟩ : ∃ e, d = e + 1 := ⟨d - 1, by omega⟩
  rw [semC_in (n := 1) (lg := false) d _ _ (by decide +kernel) rfl]
  show Sem d 79 0 [some (vr 10)] [] (z4 L xs) = _
  rw [i_7]
  rw [i_8]
def z7 (L : Nat) (xs : Nat → Int32) : mSg := nwc (sR (z6 L xs) 3 1 10) 5 10
set_option maxRecDepth 1000000 in
set_option maxHeartbeats 4000000 in
theorem i_10 (d : Nat) (L : Nat) (xs : Nat → Int32) : Sem d 92 23 [some (vr 3), none] [vr 10, vr 3] (z6 L xs) = semK d 92 34 [vr 17] 34 [some (vr 3), none] [vr 17, vr 3] (z7 L xs) :=
  blk (rt := 0) (ini := 12) (lg := false) (is := [(.putfield 19, (3, 11, 1, 1)), (.aload_n 0, (0, 0, 0, 0)), (.new 23, (30, 5, 10, 0)), (.dup, (0, 0, 0, 0)), (.invokespecial 25, (12, 34, 0, 1))]) (by decide +kernel) d _ _ _
def z8 (L : Nat) (xs : Nat → Int32) : mSg := sR (nwc (sR (nwc (sR (nwc (sR (nwc (sR (nwc (z7 L xs) 20 120) 17 0 18) 20 121) 17 3 19) 20 121) 17 4 20) 20 121) 17 7 21) 20 4) 17 8 22
set_option maxRecDepth 1000000 in
set_option maxHeartbeats 4000000 in
theorem i_11 (d : Nat) (L : Nat) (xs : Nat → Int32) : Sem d 34 0 [some (vr 17)] [] (z7 L xs) = some (none, z8 L xs) :=
  blk (rt := 0) (ini := 6) (lg := false) (is := [(.aload_n 0, (0, 0, 0, 0)), (.invokespecial 3, (16, 0, 0, 0)), (.aload_n 0, (0, 0, 0, 0)), (.bipush 120, (0, 0, 0, 0)), (.newarray .int, (0, 0, 0, 0)), (.putfield 11, (3, 5, 0, 1)), (.aload_n 0, (0, 0, 0, 0)), (.bipush 121, (0, 0, 0, 0)), (.newarray .int, (0, 0, 0, 0)), (.putfield 15, (3, 5, 3, 0)), (.aload_n 0, (0, 0, 0, 0)), (.bipush 121, (0, 0, 0, 0)), (.newarray .int, (0, 0, 0, 0)), (.putfield 18, (3, 5, 4, 0)), (.aload_n 0, (0, 0, 0, 0)), (.bipush 121, (0, 0, 0, 0)), (.newarray .int, (0, 0, 0, 0)), (.putfield 21, (3, 5, 7, 1)), (.aload_n 0, (0, 0, 0, 0)), (.iconst 4, (0, 0, 0, 0)), (.newarray .int, (0, 0, 0, 0)), (.putfield 24, (3, 5, 8, 1)), (.return_, (0, 0, 0, 0))]) (by decide +kernel) d _ _ _
theorem j_12 (d : Nat) (L : Nat) (xs : Nat → Int32) (hd : 1 ≤ d) : semC d 34 [vr 17] (z7 L xs) = some (none, z8 L xs) := by
  obtain ⟨d, rfl⟩ : ∃ e, d = e + 1 := ⟨d - 1, by omega⟩
  rw [semC_in (n := 1) (lg := false) d _ _ (by decide +kernel) rfl]
  show Sem d 34 0 [some (vr 17)] [] (z7 L xs) = _
  rw [i_11]
def z9 (L : Nat) (xs : Nat → Int32) : mSg := nwc (sR (z8 L xs) 3 2 17) 8 7
set_option maxRecDepth 1000000 in
set_option maxHeartbeats 4000000 in
theorem i_13 (d : Nat) (L : Nat) (xs : Nat → Int32) : Sem d 92 34 [some (vr 3), none] [vr 17, vr 3] (z8 L xs) = semK d 92 69 [vr 23, vr 4, vr 10, vr 17] 57 [some (vr 3), none] [vr 23, vr 3] (z9 L xs) :=
  blk (rt := 0) (ini := 12) (lg := false) (is := [(.putfield 26, (3, 11, 2, 1)), (.aload_n 0, (0, 0, 0, 0)), (.new 30, (30, 8, 7, 0)), (.dup, (0, 0, 0, 0)), (.aload_n 0, (0, 0, 0, 0)), (.getfield 10, (3, 11, 0, 1)), (.aload_n 0, (0, 0, 0, 0)), (.getfield 19, (3, 11, 1, 1)), (.aload_n 0, (0, 0, 0, 0)), (.getfield 26, (3, 11, 2, 1)), (.invokespecial 32, (12, 69, 3, 0))]) (by decide +kernel) d _ _ _
def z10 (L : Nat) (xs : Nat → Int32) : mSg := sR (sR (sR (sR (nwc (sI (z9 L xs) 23 3 (10 : Int)) 20 4500) 23 6 24) 23 0 4) 23 1 10) 23 2 17
set_option maxRecDepth 1000000 in
set_option maxHeartbeats 4000000 in
theorem i_14 (d : Nat) (L : Nat) (xs : Nat → Int32) : Sem d 69 0 [some (vr 23), some (vr 4), some (vr 10), some (vr 17)] [] (z9 L xs) = some (none, z10 L xs) :=
  blk (rt := 0) (ini := 9) (lg := false) (is := [(.aload_n 0, (0, 0, 0, 0)), (.invokespecial 3, (16, 0, 0, 0)), (.aload_n 0, (0, 0, 0, 0)), (.bipush 10, (0, 0, 0, 0)), (.putfield 9, (1, 8, 3, 0)), (.aload_n 0, (0, 0, 0, 0)), (.sipush 4500, (0, 0, 0, 0)), (.newarray .int, (0, 0, 0, 0)), (.putfield 15, (3, 8, 6, 1)), (.aload_n 0, (0, 0, 0, 0)), (.aload_n 1, (0, 0, 0, 0)), (.putfield 19, (3, 8, 0, 1)), (.aload_n 0, (0, 0, 0, 0)), (.aload_n 2, (0, 0, 0, 0)), (.putfield 23, (3, 8, 1, 1)), (.aload_n 0, (0, 0, 0, 0)), (.aload_n 3, (0, 0, 0, 0)), (.putfield 27, (3, 8, 2, 1)), (.return_, (0, 0, 0, 0))]) (by decide +kernel) d _ _ _
theorem j_15 (d : Nat) (L : Nat) (xs : Nat → Int32) (hd : 1 ≤ d) : semC d 69 [vr 23, vr 4, vr 10, vr 17] (z9 L xs) = some (none, z10 L xs) := by
  obtain ⟨d, rfl⟩ : ∃ e, d = e + 1 := ⟨d - 1, by omega⟩
  rw [semC_in (n := 4) (lg := false) d _ _ (by decide +kernel) rfl]
  show Sem d 69 0 [some (vr 23), some (vr 4), some (vr 10), some (vr 17)] [] (z9 L xs) = _
  rw [i_14]
def z11 (L : Nat) (xs : Nat → Int32) : mSg := nwc (sR (z10 L xs) 3 3 23) 10 4
set_option maxRecDepth 1000000 in
set_option maxHeartbeats 4000000 in
theorem i_16 (d : Nat) (L : Nat) (xs : Nat → Int32) : Sem d 92 57 [some (vr 3), none] [vr 23, vr 3] (z10 L xs) = semK d 92 87 [vr 25, vr 10, vr 23] 76 [some (vr 3), none] [vr 25, vr 3] (z11 L xs) :=
  blk (rt := 0) (ini := 12) (lg := false) (is := [(.putfield 35, (3, 11, 3, 1)), (.aload_n 0, (0, 0, 0, 0)), (.new 39, (30, 10, 4, 0)), (.dup, (0, 0, 0, 0)), (.aload_n 0, (0, 0, 0, 0)), (.getfield 19, (3, 11, 1, 1)), (.aload_n 0, (0, 0, 0, 0)), (.getfield 35, (3, 11, 3, 1)), (.invokespecial 41, (12, 87, 2, 0))]) (by decide +kernel) d _ _ _
def z12 (L : Nat) (xs : Nat → Int32) : mSg := sR (sR (sR (nwc (sR (nwc (z11 L xs) 20 10) 25 2 26) 20 10) 25 3 27) 25 0 10) 25 1 23
set_option maxRecDepth 1000000 in
set_option maxHeartbeats 4000000 in
theorem i_17 (d : Nat) (L : Nat) (xs : Nat → Int32) : Sem d 87 0 [some (vr 25), some (vr 10), some (vr 23)] [] (z11 L xs) = some (none, z12 L xs) :=
  blk (rt := 0) (ini := 11) (lg := false) (is := [(.aload_n 0, (0, 0, 0, 0)), (.invokespecial 3, (16, 0, 0, 0)), (.aload_n 0, (0, 0, 0, 0)), (.bipush 10, (0, 0, 0, 0)), (.newarray .int, (0, 0, 0, 0)), (.putfield 9, (3, 10, 2, 1)), (.aload_n 0, (0, 0, 0, 0)), (.bipush 10, (0, 0, 0, 0)), (.newarray .int, (0, 0, 0, 0)), (.putfield 15, (3, 10, 3, 1)), (.aload_n 0, (0, 0, 0, 0)), (.aload_n 1, (0, 0, 0, 0)), (.putfield 18, (3, 10, 0, 1)), (.aload_n 0, (0, 0, 0, 0)), (.aload_n 2, (0, 0, 0, 0)), (.putfield 22, (3, 10, 1, 1)), (.return_, (0, 0, 0, 0))]) (by decide +kernel) d _ _ _
theorem j_18 (d : Nat) (L : Nat) (xs : Nat → Int32) (hd : 1 ≤ d) : semC d 87 [vr 25, vr 10, vr 23] (z11 L xs) = some (none, z12 L xs) := by
  obtain ⟨d, rfl⟩ : ∃ e, d = e + 1 := ⟨d - 1, by omega⟩
  rw [semC_in (n := 3) (lg := false) d _ _ (by decide +kernel) rfl]
  show Sem d 87 0 [some (vr 25), some (vr 10), some (vr 23)] [] (z11 L xs) = _
  rw [i_17]
def z13 (L : Nat) (xs : Nat → Int32) : mSg := nwc (sR (z12 L xs) 3 4 25) 6 8
set_option maxRecDepth 1000000 in
set_option maxHeartbeats 4000000 in
theorem i_19 (d : Nat) (L : Nat) (xs : Nat → Int32) : Sem d 92 76 [some (vr 3), none] [vr 25, vr 3] (z12 L xs) = semK d 92 49 [vr 28, vr 4, vr 10, vr 23] 99 [some (vr 3), none] [vr 28, vr 3] (z13 L xs) :=
  blk (rt := 0) (ini := 12) (lg := false) (is := [(.putfield 44, (3, 11, 4, 1)), (.aload_n 0, (0, 0, 0, 0)), (.new 48, (30, 6, 8, 0)), (.dup, (0, 0, 0, 0)), (.aload_n 0, (0, 0, 0, 0)), (.getfield 10, (3, 11, 0, 1)), (.aload_n 0, (0, 0, 0, 0)), (.getfield 19, (3, 11, 1, 1)), (.aload_n 0, (0, 0, 0, 0)), (.getfield 35, (3, 11, 3, 1)), (.invokespecial 50, (12, 49, 3, 0))]) (by decide +kernel) d _ _ _
def z14 (L : Nat) (xs : Nat → Int32) : mSg := sR (sR (sR (sR (nwc (sR (nwc (sR (nwc (z13 L xs) 20 10) 28 3 29) 20 10) 28 6 30) 20 10) 28 7 31) 28 0 4) 28 1 10) 28 2 23
set_option maxRecDepth 1000000 in
set_option maxHeartbeats 4000000 in
theorem i_20 (d : Nat) (L : Nat) (xs : Nat → Int32) : Sem d 49 0 [some (vr 28), some (vr 4), some (vr 10), some (vr 23)] [] (z13 L xs) = some (none, z14 L xs) :=
  blk (rt := 0) (ini := 7) (lg := false) (is := [(.aload_n 0, (0, 0, 0, 0)), (.invokespecial 3, (16, 0, 0, 0)), (.aload_n 0, (0, 0, 0, 0)), (.bipush 10, (0, 0, 0, 0)), (.newarray .int, (0, 0, 0, 0)), (.putfield 9, (3, 6, 3, 1)), (.aload_n 0, (0, 0, 0, 0)), (.bipush 10, (0, 0, 0, 0)), (.newarray .int, (0, 0, 0, 0)), (.putfield 15, (3, 6, 6, 1)), (.aload_n 0, (0, 0, 0, 0)), (.bipush 10, (0, 0, 0, 0)), (.newarray .int, (0, 0, 0, 0)), (.putfield 18, (3, 6, 7, 1)), (.aload_n 0, (0, 0, 0, 0)), (.aload_n 1, (0, 0, 0, 0)), (.putfield 21, (3, 6, 0, 1)), (.aload_n 0, (0, 0, 0, 0)), (.aload_n 2, (0, 0, 0, 0)), (.putfield 25, (3, 6, 1, 1)), (.aload_n 0, (0, 0, 0, 0)), (.aload_n 3, (0, 0, 0, 0)), (.putfield 29, (3, 6, 2, 1)), (.return_, (0, 0, 0, 0))]) (by decide +kernel) d _ _ _
theorem j_21 (d : Nat) (L : Nat) (xs : Nat → Int32) (hd : 1 ≤ d) : semC d 49 [vr 28, vr 4, vr 10, vr 23] (z13 L xs) = some (none, z14 L xs) := by
  obtain ⟨d, rfl⟩ : ∃ e, d = e + 1 := ⟨d - 1, by omega⟩
  rw [semC_in (n := 4) (lg := false) d _ _ (by decide +kernel) rfl]
  show Sem d 49 0 [some (vr 28), some (vr 4), some (vr 10), some (vr 23)] [] (z13 L xs) = _
  rw [i_20]
def z15 (L : Nat) (xs : Nat → Int32) : mSg := nwc (sR (z14 L xs) 3 5 28) 2 6
set_option maxRecDepth 1000000 in
set_option maxHeartbeats 4000000 in
theorem i_22 (d : Nat) (L : Nat) (xs : Nat → Int32) : Sem d 92 99 [some (vr 3), none] [vr 28, vr 3] (z14 L xs) = semK d 92 16 [vr 32, vr 10, vr 23] 118 [some (vr 3), none] [vr 32, vr 3] (z15 L xs) :=
  blk (rt := 0) (ini := 12) (lg := false) (is := [(.putfield 53, (3, 11, 5, 1)), (.aload_n 0, (0, 0, 0, 0)), (.new 57, (30, 2, 6, 0)), (.dup, (0, 0, 0, 0)), (.aload_n 0, (0, 0, 0, 0)), (.getfield 19, (3, 11, 1, 1)), (.aload_n 0, (0, 0, 0, 0)), (.getfield 35, (3, 11, 3, 1)), (.invokespecial 59, (12, 16, 2, 0))]) (by decide +kernel) d _ _ _
def z16 (L : Nat) (xs : Nat → Int32) : mSg := sR (sR (sR (nwc (sR (nwc (z15 L xs) 20 10) 32 3 33) 20 10) 32 4 34) 32 0 10) 32 1 23
set_option maxRecDepth 1000000 in
set_option maxHeartbeats 4000000 in
theorem i_23 (d : Nat) (L : Nat) (xs : Nat → Int32) : Sem d 16 0 [some (vr 32), some (vr 10), some (vr 23)] [] (z15 L xs) = some (none, z16 L xs) :=
  blk (rt := 0) (ini := 3) (lg := false) (is := [(.aload_n 0, (0, 0, 0, 0)), (.invokespecial 3, (16, 0, 0, 0)), (.aload_n 0, (0, 0, 0, 0)), (.bipush 10, (0, 0, 0, 0)), (.newarray .int, (0, 0, 0, 0)), (.putfield 9, (3, 2, 3, 1)), (.aload_n 0, (0, 0, 0, 0)), (.bipush 10, (0, 0, 0, 0)), (.newarray .int, (0, 0, 0, 0)), (.putfield 15, (3, 2, 4, 1)), (.aload_n 0, (0, 0, 0, 0)), (.aload_n 1, (0, 0, 0, 0)), (.putfield 18, (3, 2, 0, 1)), (.aload_n 0, (0, 0, 0, 0)), (.aload_n 2, (0, 0, 0, 0)), (.putfield 22, (3, 2, 1, 1)), (.return_, (0, 0, 0, 0))]) (by decide +kernel) d _ _ _
theorem j_24 (d : Nat) (L : Nat) (xs : Nat → Int32) (hd : 1 ≤ d) : semC d 16 [vr 32, vr 10, vr 23] (z15 L xs) = some (none, z16 L xs) := by
  obtain ⟨d, rfl⟩ : ∃ e, d = e + 1 := ⟨d - 1, by omega⟩
  rw [semC_in (n := 3) (lg := false) d _ _ (by decide +kernel) rfl]
  show Sem d 16 0 [some (vr 32), some (vr 10), some (vr 23)] [] (z15 L xs) = _
  rw [i_23]
def z17 (L : Nat) (xs : Nat → Int32) : mSg := nwc (sR (z16 L xs) 3 6 32) 4 3
set_option maxRecDepth 1000000 in
set_option maxHeartbeats 4000000 in
theorem i_25 (d : Nat) (L : Nat) (xs : Nat → Int32) : Sem d 92 118 [some (vr 3), none] [vr 32, vr 3] (z16 L xs) = semK d 92 29 [vr 35, vr 4, vr 10] 137 [some (vr 3), none] [vr 35, vr 3] (z17 L xs) :=
  blk (rt := 0) (ini := 12) (lg := false) (is := [(.putfield 60, (3, 11, 6, 1)), (.aload_n 0, (0, 0, 0, 0)), (.new 64, (30, 4, 3, 0)), (.dup, (0, 0, 0, 0)), (.aload_n 0, (0, 0, 0, 0)), (.getfield 10, (3, 11, 0, 1)), (.aload_n 0, (0, 0, 0, 0)), (.getfield 19, (3, 11, 1, 1)), (.invokespecial 66, (12, 29, 2, 0))]) (by decide +kernel) d _ _ _
def z18 (L : Nat) (xs : Nat → Int32) : mSg := sR (sR (sR (nwc (z17 L xs) 20 10) 35 2 36) 35 0 4) 35 1 10
set_option maxRecDepth 1000000 in
set_option maxHeartbeats 4000000 in
theorem i_26 (d : Nat) (L : Nat) (xs : Nat → Int32) : Sem d 29 0 [some (vr 35), some (vr 4), some (vr 10)] [] (z17 L xs) = some (none, z18 L xs) :=
  blk (rt := 0) (ini := 5) (lg := false) (is := [(.aload_n 0, (0, 0, 0, 0)), (.invokespecial 3, (16, 0, 0, 0)), (.aload_n 0, (0, 0, 0, 0)), (.bipush 10, (0, 0, 0, 0)), (.newarray .int, (0, 0, 0, 0)), (.putfield 9, (3, 4, 2, 1)), (.aload_n 0, (0, 0, 0, 0)), (.aload_n 1, (0, 0, 0, 0)), (.putfield 15, (3, 4, 0, 1)), (.aload_n 0, (0, 0, 0, 0)), (.aload_n 2, (0, 0, 0, 0)), (.putfield 19, (3, 4, 1, 1)), (.return_, (0, 0, 0, 0))]) (by decide +kernel) d _ _ _
theorem j_27 (d : Nat) (L : Nat) (xs : Nat → Int32) (hd : 1 ≤ d) : semC d 29 [vr 35, vr 4, vr 10] (z17 L xs) = some (none, z18 L xs) := by
  obtain ⟨d, rfl⟩ : ∃ e, d = e + 1 := ⟨d - 1, by omega⟩
  rw [semC_in (n := 3) (lg := false) d _ _ (by decide +kernel) rfl]
  show Sem d 29 0 [some (vr 35), some (vr 4), some (vr 10)] [] (z17 L xs) = _
  rw [i_26]
def z19 (L : Nat) (xs : Nat → Int32) : mSg := nwc (sR (z18 L xs) 3 7 35) 1 8
set_option maxRecDepth 1000000 in
set_option maxHeartbeats 4000000 in
theorem i_28 (d : Nat) (L : Nat) (xs : Nat → Int32) : Sem d 92 137 [some (vr 3), none] [vr 35, vr 3] (z18 L xs) = semK d 92 9 [vr 37, vr 4, vr 10] 156 [some (vr 3), none] [vr 37, vr 3] (z19 L xs) :=
  blk (rt := 0) (ini := 12) (lg := false) (is := [(.putfield 69, (3, 11, 7, 1)), (.aload_n 0, (0, 0, 0, 0)), (.new 73, (30, 1, 8, 0)), (.dup, (0, 0, 0, 0)), (.aload_n 0, (0, 0, 0, 0)), (.getfield 10, (3, 11, 0, 1)), (.aload_n 0, (0, 0, 0, 0)), (.getfield 19, (3, 11, 1, 1)), (.invokespecial 75, (12, 9, 2, 0))]) (by decide +kernel) d _ _ _
def z20 (L : Nat) (xs : Nat → Int32) : mSg := sR (sR (sR (nwc (sR (nwc (sR (nwc (sR (nwc (z19 L xs) 20 40) 37 2 38) 20 40) 37 3 39) 20 40) 37 4 40) 20 40) 37 5 41) 37 0 4) 37 1 10
set_option maxRecDepth 1000000 in
set_option maxHeartbeats 4000000 in
theorem i_29 (d : Nat) (L : Nat) (xs : Nat → Int32) : Sem d 9 0 [some (vr 37), some (vr 4), some (vr 10)] [] (z19 L xs) = Sem d 9 46 [some (vr 37), some (vr 4), some (vr 10)] [] (z20 L xs) :=
  blk (rt := 0) (ini := 2) (lg := false) (is := [(.aload_n 0, (0, 0, 0, 0)), (.invokespecial 3, (16, 0, 0, 0)), (.aload_n 0, (0, 0, 0, 0)), (.bipush 40, (0, 0, 0, 0)), (.newarray .int, (0, 0, 0, 0)), (.putfield 11, (3, 1, 2, 1)), (.aload_n 0, (0, 0, 0, 0)), (.bipush 40, (0, 0, 0, 0)), (.newarray .int, (0, 0, 0, 0)), (.putfield 15, (3, 1, 3, 1)), (.aload_n 0, (0, 0, 0, 0)), (.bipush 40, (0, 0, 0, 0)), (.newarray .int, (0, 0, 0, 0)), (.putfield 18, (3, 1, 4, 1)), (.aload_n 0, (0, 0, 0, 0)), (.bipush 40, (0, 0, 0, 0)), (.newarray .int, (0, 0, 0, 0)), (.putfield 21, (3, 1, 5, 1)), (.aload_n 0, (0, 0, 0, 0)), (.aload_n 1, (0, 0, 0, 0)), (.putfield 24, (3, 1, 0, 1)), (.aload_n 0, (0, 0, 0, 0)), (.aload_n 2, (0, 0, 0, 0)), (.putfield 28, (3, 1, 1, 1))]) (by decide +kernel) d _ _ _
set_option maxRecDepth 1000000 in
set_option maxHeartbeats 4000000 in
theorem i_30 (d : Nat) (L : Nat) (xs : Nat → Int32) : Sem d 9 46 [some (vr 37), some (vr 4), some (vr 10)] [] (z20 L xs) = some (none, z20 L xs) :=
  blk (rt := 0) (ini := 2) (lg := false) (is := [(.return_, (0, 0, 0, 0))]) (by decide +kernel) d _ _ _
theorem j_31 (d : Nat) (L : Nat) (xs : Nat → Int32) (hd : 1 ≤ d) : semC d 9 [vr 37, vr 4, vr 10] (z19 L xs) = some (none, z20 L xs) := by
  obtain ⟨d, rfl⟩ : ∃ e, d = e + 1 := ⟨d - 1, by omega⟩
  rw [semC_in (n := 3) (lg := false) d _ _ (by decide +kernel) rfl]
  show Sem d 9 0 [some (vr 37), some (vr 4), some (vr 10)] [] (z19 L xs) = _
  rw [i_29]
  rw [i_30]
def z21 (L : Nat) (xs : Nat → Int32) : mSg := nwc (sR (z20 L xs) 3 8 37) 0 5
set_option maxRecDepth 1000000 in
set_option maxHeartbeats 4000000 in
theorem i_32 (d : Nat) (L : Nat) (xs : Nat → Int32) : Sem d 92 156 [some (vr 3), none] [vr 37, vr 3] (z20 L xs) = semK d 92 0 [vr 42] 167 [some (vr 3), none] [vr 42, vr 3] (z21 L xs) :=
  blk (rt := 0) (ini := 12) (lg := false) (is := [(.putfield 76, (3, 11, 8, 1)), (.aload_n 0, (0, 0, 0, 0)), (.new 80, (30, 0, 5, 0)), (.dup, (0, 0, 0, 0)), (.invokespecial 82, (12, 0, 0, 1))]) (by decide +kernel) d _ _ _
def z22 (L : Nat) (xs : Nat → Int32) : mSg := sR (nwc (sR (nwc (z21 L xs) 20 50) 42 0 43) 20 24) 42 2 44
set_option maxRecDepth 1000000 in
set_option maxHeartbeats 4000000 in
theorem i_33 (d : Nat) (L : Nat) (xs : Nat → Int32) : Sem d 0 0 [some (vr 42)] [] (z21 L xs) = some (none, z22 L xs) :=
  blk (rt := 0) (ini := 1) (lg := false) (is := [(.aload_n 0, (0, 0, 0, 0)), (.invokespecial 3, (16, 0, 0, 0)), (.aload_n 0, (0, 0, 0, 0)), (.bipush 50, (0, 0, 0, 0)), (.newarray .int, (0, 0, 0, 0)), (.putfield 11, (3, 0, 0, 1)), (.aload_n 0, (0, 0, 0, 0)), (.bipush 24, (0, 0, 0, 0)), (.newarray .int, (0, 0, 0, 0)), (.putfield 15, (3, 0, 2, 1)), (.return_, (0, 0, 0, 0))]) (by decide +kernel) d _ _ _
theorem j_34 (d : Nat) (L : Nat) (xs : Nat → Int32) (hd : 1 ≤ d) : semC d 0 [vr 42] (z21 L xs) = some (none, z22 L xs) := by
  obtain ⟨d, rfl⟩ : ∃ e, d = e + 1 := ⟨d - 1, by omega⟩
  rw [semC_in (n := 1) (lg := false) d _ _ (by decide +kernel) rfl]
  show Sem d 0 0 [some (vr 42)] [] (z21 L xs) = _
  rw [i_33]
def z23 (L : Nat) (xs : Nat → Int32) : mSg := sR (nwc (sR (z22 L xs) 3 9 42) 24 6) 3 10 45
set_option maxRecDepth 1000000 in
set_option maxHeartbeats 4000000 in
theorem i_35 (d : Nat) (L : Nat) (xs : Nat → Int32) : Sem d 92 167 [some (vr 3), none] [vr 42, vr 3] (z22 L xs) = Sem d 92 190 [some (vr 3), some (vi (0 : Int))] [] (z23 L xs) :=
  blk (rt := 0) (ini := 12) (lg := false) (is := [(.putfield 83, (3, 11, 9, 1)), (.aload_n 0, (0, 0, 0, 0)), (.bipush 6, (0, 0, 0, 0)), (.anewarray 87, (30, 7, 4, 0)), (.putfield 89, (3, 11, 10, 1)), (.iconst 0, (0, 0, 0, 0)), (.istore_n 1, (0, 0, 0, 0)), (.iload_n 1, (0, 0, 0, 0)), (.aload_n 0, (0, 0, 0, 0)), (.getfield 89, (3, 11, 10, 1)), (.arraylength, (0, 0, 0, 0)), (.if_icmp .ge 22, (0, 0, 0, 0))]) (by decide +kernel) d _ _ _
def z24 (L : Nat) (xs : Nat → Int32) : mSg := nwc (z23 L xs) 7 4
set_option maxRecDepth 1000000 in
set_option maxHeartbeats 4000000 in
theorem i_36 (d : Nat) (L : Nat) (xs : Nat → Int32) : Sem d 92 190 [some (vr 3), some (vi (0 : Int))] [] (z23 L xs) = semK d 92 59 [vr 46] 202 [some (vr 3), some (vi (0 : Int))] [vr 46, vi (0 : Int), vr 45] (z24 L xs) :=
  blk (rt := 0) (ini := 12) (lg := false) (is := [(.aload_n 0, (0, 0, 0, 0)), (.getfield 89, (3, 11, 10, 1)), (.iload_n 1, (0, 0, 0, 0)), (.new 87, (30, 7, 4, 0)), (.dup, (0, 0, 0, 0)), (.invokespecial 93, (12, 59, 0, 1))]) (by decide +kernel) d _ _ _
def z25 (L : Nat) (xs : Nat → Int32) : mSg := sR (nwc (sI (z24 L xs) 46 0 (-1 : Int)) 23 60) 46 3 47
set_option maxRecDepth 1000000 in
set_option maxHeartbeats 4000000 in
theorem i_37 (d : Nat) (L : Nat) (xs : Nat → Int32) : Sem d 59 0 [some (vr 46)] [] (z24 L xs) = some (none, z25 L xs) :=
  blk (rt := 0) (ini := 8) (lg := false) (is := [(.aload_n 0, (0, 0, 0, 0)), (.invokespecial 1, (16, 0, 0, 0)), (.aload_n 0, (0, 0, 0, 0)), (.iconst (-1), (0, 0, 0, 0)), (.putfield 9, (1, 7, 0, 0)), (.aload_n 0, (0, 0, 0, 0)), (.bipush 60, (0, 0, 0, 0)), (.newarray .long, (0, 0, 0, 0)), (.putfield 13, (3, 7, 3, 1)), (.return_, (0, 0, 0, 0))]) (by decide +kernel) d _ _ _
theorem j_38 (d : Nat) (L : Nat) (xs : Nat → Int32) (hd : 1 ≤ d) : semC d 59 [vr 46] (z24 L xs) = some (none, z25 L xs) := by
  obtain ⟨d, rfl⟩ : ∃ e, d = e + 1 := ⟨d - 1, by omega⟩
  rw [semC_in (n := 1) (lg := false) d _ _ (by decide +kernel) rfl]
  show Sem d 59 0 [some (vr 46)] [] (z24 L xs) = _
  rw [i_37]
def z26 (L : Nat) (xs : Nat → Int32) : mSg := sR (z25 L xs) 45 0 46
set_option maxRecDepth 1000000 in
set_option maxHeartbeats 4000000 in
theorem i_39 (d : Nat) (L : Nat) (xs : Nat → Int32) : Sem d 92 202 [some (vr 3), some (vi (0 : Int))] [vr 46, vi (0 : Int), vr 45] (z25 L xs) = Sem d 92 181 [some (vr 3), some (vi (1 : Int))] [] (z26 L xs) :=
  blk (rt := 0) (ini := 12) (lg := false) (is := [(.aastore, (0, 0, 0, 0)), (.iinc 1 1, (0, 0, 0, 0)), (.goto (-25), (0, 0, 0, 0))]) (by decide +kernel) d _ _ _
set_option maxRecDepth 1000000 in
set_option maxHeartbeats 4000000 in
theorem i_40 (d : Nat) (L : Nat) (xs : Nat → Int32) : Sem d 92 181 [some (vr 3), some (vi (1 : Int))] [] (z26 L xs) = Sem d 92 190 [some (vr 3), some (vi (1 : Int))] [] (z26 L xs) :=
  blk (rt := 0) (ini := 12) (lg := false) (is := [(.iload_n 1, (0, 0, 0, 0)), (.aload_n 0, (0, 0, 0, 0)), (.getfield 89, (3, 11, 10, 1)), (.arraylength, (0, 0, 0, 0)), (.if_icmp .ge 22, (0, 0, 0, 0))]) (by decide +kernel) d _ _ _
def z27 (L : Nat) (xs : Nat → Int32) : mSg := nwc (z26 L xs) 7 4
set_option maxRecDepth 1000000 in
set_option maxHeartbeats 4000000 in
theorem i_41 (d : Nat) (L : Nat) (xs : Nat → Int32) : Sem d 92 190 [some (vr 3), some (vi (1 : Int))] [] (z26 L xs) = semK d 92 59 [vr 48] 202 [some (vr 3), some (vi (1 : Int))] [vr 48, vi (1 : Int), vr 45] (z27 L xs) :=
  blk (rt := 0) (ini := 12) (lg := false) (is := [(.aload_n 0, (0, 0, 0, 0)), (.getfield 89, (3, 11, 10, 1)), (.iload_n 1, (0, 0, 0, 0)), (.new 87, (30, 7, 4, 0)), (.dup, (0, 0, 0, 0)), (.invokespecial 93, (12, 59, 0, 1))]) (by decide +kernel) d _ _ _
def z28 (L : Nat) (xs : Nat → Int32) : mSg := sR (nwc (sI (z27 L xs) 48 0 (-1 : Int)) 23 60) 48 3 49
set_option maxRecDepth 1000000 in
set_option maxHeartbeats 4000000 in
theorem i_42 (d : Nat) (L : Nat) (xs : Nat → Int32) : Sem d 59 0 [some (vr 48)] [] (z27 L xs) = some (none, z28 L xs) :=
  blk (rt := 0) (ini := 8) (lg := false) (is := [(.aload_n 0, (0, 0, 0, 0)), (.invokespecial 1, (16, 0, 0, 0)), (.aload_n 0, (0, 0, 0, 0)), (.iconst (-1), (0, 0, 0, 0)), (.putfield 9, (1, 7, 0, 0)), (.aload_n 0, (0, 0, 0, 0)), (.bipush 60, (0, 0, 0, 0)), (.newarray .long, (0, 0, 0, 0)), (.putfield 13, (3, 7, 3, 1)), (.return_, (0, 0, 0, 0))]) (by decide +kernel) d _ _ _
theorem j_43 (d : Nat) (L : Nat) (xs : Nat → Int32) (hd : 1 ≤ d) : semC d 59 [vr 48] (z27 L xs) = some (none, z28 L xs) := by
  obtain ⟨d, rfl⟩ : ∃ e, d = e + 1 := ⟨d - 1, by omega⟩
  rw [semC_in (n := 1) (lg := false) d _ _ (by decide +kernel) rfl]
  show Sem d 59 0 [some (vr 48)] [] (z27 L xs) = _
  rw [i_42]
def z29 (L : Nat) (xs : Nat → Int32) : mSg := sR (z28 L xs) 45 1 48
set_option maxRecDepth 1000000 in
set_option maxHeartbeats 4000000 in
theorem i_44 (d : Nat) (L : Nat) (xs : Nat → Int32) : Sem d 92 202 [some (vr 3), some (vi (1 : Int))] [vr 48, vi (1 : Int), vr 45] (z28 L xs) = Sem d 92 181 [some (vr 3), some (vi (2 : Int))] [] (z29 L xs) :=
  blk (rt := 0) (ini := 12) (lg := false) (is := [(.aastore, (0, 0, 0, 0)), (.iinc 1 1, (0, 0, 0, 0)), (.goto (-25), (0, 0, 0, 0))]) (by decide +kernel) d _ _ _
set_option maxRecDepth 1000000 in
set_option maxHeartbeats 4000000 in
theorem i_45 (d : Nat) (L : Nat) (xs : Nat → Int32) : Sem d 92 181 [some (vr 3), some (vi (2 : Int))] [] (z29 L xs) = Sem d 92 190 [some (vr 3), some (vi (2 : Int))] [] (z29 L xs) :=
  blk (rt := 0) (ini := 12) (lg := false) (is := [(.iload_n 1, (0, 0, 0, 0)), (.aload_n 0, (0, 0, 0, 0)), (.getfield 89, (3, 11, 10, 1)), (.arraylength, (0, 0, 0, 0)), (.if_icmp .ge 22, (0, 0, 0, 0))]) (by decide +kernel) d _ _ _
def z30 (L : Nat) (xs : Nat → Int32) : mSg := nwc (z29 L xs) 7 4
set_option maxRecDepth 1000000 in
set_option maxHeartbeats 4000000 in
theorem i_46 (d : Nat) (L : Nat) (xs : Nat → Int32) : Sem d 92 190 [some (vr 3), some (vi (2 : Int))] [] (z29 L xs) = semK d 92 59 [vr 50] 202 [some (vr 3), some (vi (2 : Int))] [vr 50, vi (2 : Int), vr 45] (z30 L xs) :=
  blk (rt := 0) (ini := 12) (lg := false) (is := [(.aload_n 0, (0, 0, 0, 0)), (.getfield 89, (3, 11, 10, 1)), (.iload_n 1, (0, 0, 0, 0)), (.new 87, (30, 7, 4, 0)), (.dup, (0, 0, 0, 0)), (.invokespecial 93, (12, 59, 0, 1))]) (by decide +kernel) d _ _ _
def z31 (L : Nat) (xs : Nat → Int32) : mSg := sR (nwc (sI (z30 L xs) 50 0 (-1 : Int)) 23 60) 50 3 51
set_option maxRecDepth 1000000 in
set_option maxHeartbeats 4000000 in
theorem i_47 (d : Nat) (L : Nat) (xs : Nat → Int32) : Sem d 59 0 [some (vr 50)] [] (z30 L xs) = some (none, z31 L xs) :=
  blk (rt := 0) (ini := 8) (lg := false) (is := [(.aload_n 0, (0, 0, 0, 0)), (.invokespecial 1, (16, 0, 0, 0)), (.aload_n 0, (0, 0, 0, 0)), (.iconst (-1), (0, 0, 0, 0)), (.putfield 9, (1, 7, 0, 0)), (.aload_n 0, (0, 0, 0, 0)), (.bipush 60, (0, 0, 0, 0)), (.newarray .long, (0, 0, 0, 0)), (.putfield 13, (3, 7, 3, 1)), (.return_, (0, 0, 0, 0))]) (by decide +kernel) d _ _ _
theorem j_48 (d : Nat) (L : Nat) (xs : Nat → Int32) (hd : 1 ≤ d) : semC d 59 [vr 50] (z30 L xs) = some (none, z31 L xs) := by
  obtain ⟨d, rfl⟩ : ∃ e, d = e + 1 := ⟨d - 1, by omega⟩
  rw [semC_in (n := 1) (lg := false) d _ _ (by decide +kernel) rfl]
  show Sem d 59 0 [some (vr 50)] [] (z30 L xs) = _
  rw [i_47]
def z32 (L : Nat) (xs : Nat → Int32) : mSg := sR (z31 L xs) 45 2 50
set_option maxRecDepth 1000000 in
set_option maxHeartbeats 4000000 in
theorem i_49 (d : Nat) (L : Nat) (xs : Nat → Int32) : Sem d 92 202 [some (vr 3), some (vi (2 : Int))] [vr 50, vi (2 : Int), vr 45] (z31 L xs) = Sem d 92 181 [some (vr 3), some (vi (3 : Int))] [] (z32 L xs) :=
  blk (rt := 0) (ini := 12) (lg := false) (is := [(.aastore, (0, 0, 0, 0)), (.iinc 1 1, (0, 0, 0, 0)), (.goto (-25), (0, 0, 0, 0))]) (by decide +kernel) d _ _ _
set_option maxRecDepth 1000000 in
set_option maxHeartbeats 4000000 in
theorem i_50 (d : Nat) (L : Nat) (xs : Nat → Int32) : Sem d 92 181 [some (vr 3), some (vi (3 : Int))] [] (z32 L xs) = Sem d 92 190 [some (vr 3), some (vi (3 : Int))] [] (z32 L xs) :=
  blk (rt := 0) (ini := 12) (lg := false) (is := [(.iload_n 1, (0, 0, 0, 0)), (.aload_n 0, (0, 0, 0, 0)), (.getfield 89, (3, 11, 10, 1)), (.arraylength, (0, 0, 0, 0)), (.if_icmp .ge 22, (0, 0, 0, 0))]) (by decide +kernel) d _ _ _
def z33 (L : Nat) (xs : Nat → Int32) : mSg := nwc (z32 L xs) 7 4
set_option maxRecDepth 1000000 in
set_option maxHeartbeats 4000000 in
theorem i_51 (d : Nat) (L : Nat) (xs : Nat → Int32) : Sem d 92 190 [some (vr 3), some (vi (3 : Int))] [] (z32 L xs) = semK d 92 59 [vr 52] 202 [some (vr 3), some (vi (3 : Int))] [vr 52, vi (3 : Int), vr 45] (z33 L xs) :=
  blk (rt := 0) (ini := 12) (lg := false) (is := [(.aload_n 0, (0, 0, 0, 0)), (.getfield 89, (3, 11, 10, 1)), (.iload_n 1, (0, 0, 0, 0)), (.new 87, (30, 7, 4, 0)), (.dup, (0, 0, 0, 0)), (.invokespecial 93, (12, 59, 0, 1))]) (by decide +kernel) d _ _ _
def z34 (L : Nat) (xs : Nat → Int32) : mSg := sR (nwc (sI (z33 L xs) 52 0 (-1 : Int)) 23 60) 52 3 53
set_option maxRecDepth 1000000 in
set_option maxHeartbeats 4000000 in
theorem i_52 (d : Nat) (L : Nat) (xs : Nat → Int32) : Sem d 59 0 [some (vr 52)] [] (z33 L xs) = some (none, z34 L xs) :=
  blk (rt := 0) (ini := 8) (lg := false) (is := [(.aload_n 0, (0, 0, 0, 0)), (.invokespecial 1, (16, 0, 0, 0)), (.aload_n 0, (0, 0, 0, 0)), (.iconst (-1), (0, 0, 0, 0)), (.putfield 9, (1, 7, 0, 0)), (.aload_n 0, (0, 0, 0, 0)), (.bipush 60, (0, 0, 0, 0)), (.newarray .long, (0, 0, 0, 0)), (.putfield 13, (3, 7, 3, 1)), (.return_, (0, 0, 0, 0))]) (by decide +kernel) d _ _ _
theorem j_53 (d : Nat) (L : Nat) (xs : Nat → Int32) (hd : 1 ≤ d) : semC d 59 [vr 52] (z33 L xs) = some (none, z34 L xs) := by
  obtain ⟨d, rfl⟩ : ∃ e, d = e + 1 := ⟨d - 1, by omega⟩
  rw [semC_in (n := 1) (lg := false) d _ _ (by decide +kernel) rfl]
  show Sem d 59 0 [some (vr 52)] [] (z33 L xs) = _
  rw [i_52]
def z35 (L : Nat) (xs : Nat → Int32) : mSg := sR (z34 L xs) 45 3 52
set_option maxRecDepth 1000000 in
set_option maxHeartbeats 4000000 in
theorem i_54 (d : Nat) (L : Nat) (xs : Nat → Int32) : Sem d 92 202 [some (vr 3), some (vi (3 : Int))] [vr 52, vi (3 : Int), vr 45] (z34 L xs) = Sem d 92 181 [some (vr 3), some (vi (4 : Int))] [] (z35 L xs) :=
  blk (rt := 0) (ini := 12) (lg := false) (is := [(.aastore, (0, 0, 0, 0)), (.iinc 1 1, (0, 0, 0, 0)), (.goto (-25), (0, 0, 0, 0))]) (by decide +kernel) d _ _ _
set_option maxRecDepth 1000000 in
set_option maxHeartbeats 4000000 in
theorem i_55 (d : Nat) (L : Nat) (xs : Nat → Int32) : Sem d 92 181 [some (vr 3), some (vi (4 : Int))] [] (z35 L xs) = Sem d 92 190 [some (vr 3), some (vi (4 : Int))] [] (z35 L xs) :=
  blk (rt := 0) (ini := 12) (lg := false) (is := [(.iload_n 1, (0, 0, 0, 0)), (.aload_n 0, (0, 0, 0, 0)), (.getfield 89, (3, 11, 10, 1)), (.arraylength, (0, 0, 0, 0)), (.if_icmp .ge 22, (0, 0, 0, 0))]) (by decide +kernel) d _ _ _
def z36 (L : Nat) (xs : Nat → Int32) : mSg := nwc (z35 L xs) 7 4
set_option maxRecDepth 1000000 in
set_option maxHeartbeats 4000000 in
theorem i_56 (d : Nat) (L : Nat) (xs : Nat → Int32) : Sem d 92 190 [some (vr 3), some (vi (4 : Int))] [] (z35 L xs) = semK d 92 59 [vr 54] 202 [some (vr 3), some (vi (4 : Int))] [vr 54, vi (4 : Int), vr 45] (z36 L xs) :=
  blk (rt := 0) (ini := 12) (lg := false) (is := [(.aload_n 0, (0, 0, 0, 0)), (.getfield 89, (3, 11, 10, 1)), (.iload_n 1, (0, 0, 0, 0)), (.new 87, (30, 7, 4, 0)), (.dup, (0, 0, 0, 0)), (.invokespecial 93, (12, 59, 0, 1))]) (by decide +kernel) d _ _ _
def z37 (L : Nat) (xs : Nat → Int32) : mSg := sR (nwc (sI (z36 L xs) 54 0 (-1 : Int)) 23 60) 54 3 55
set_option maxRecDepth 1000000 in
set_option maxHeartbeats 4000000 in
theorem i_57 (d : Nat) (L : Nat) (xs : Nat → Int32) : Sem d 59 0 [some (vr 54)] [] (z36 L xs) = some (none, z37 L xs) :=
  blk (rt := 0) (ini := 8) (lg := false) (is := [(.aload_n 0, (0, 0, 0, 0)), (.invokespecial 1, (16, 0, 0, 0)), (.aload_n 0, (0, 0, 0, 0)), (.iconst (-1), (0, 0, 0, 0)), (.putfield 9, (1, 7, 0, 0)), (.aload_n 0, (0, 0, 0, 0)), (.bipush 60, (0, 0, 0, 0)), (.newarray .long, (0, 0, 0, 0)), (.putfield 13, (3, 7, 3, 1)), (.return_, (0, 0, 0, 0))]) (by decide +kernel) d _ _ _
theorem j_58 (d : Nat) (L : Nat) (xs : Nat → Int32) (hd : 1 ≤ d) : semC d 59 [vr 54] (z36 L xs) = some (none, z37 L xs) := by
  obtain ⟨d, rfl⟩ : ∃ e, d = e + 1 := ⟨d - 1, by omega⟩
  rw [semC_in (n := 1) (lg := false) d _ _ (by decide +kernel) rfl]
  show Sem d 59 0 [some (vr 54)] [] (z36 L xs) = _
  rw [i_57]
def z38 (L : Nat) (xs : Nat → Int32) : mSg := sR (z37 L xs) 45 4 54
set_option maxRecDepth 1000000 in
set_option maxHeartbeats 4000000 in
theorem i_59 (d : Nat) (L : Nat) (xs : Nat → Int32) : Sem d 92 202 [some (vr 3), some (vi (4 : Int))] [vr 54, vi (4 : Int), vr 45] (z37 L xs) = Sem d 92 181 [some (vr 3), some (vi (5 : Int))] [] (z38 L xs) :=
  blk (rt := 0) (ini := 12) (lg := false) (is := [(.aastore, (0, 0, 0, 0)), (.iinc 1 1, (0, 0, 0, 0)), (.goto (-25), (0, 0, 0, 0))]) (by decide +kernel) d _ _ _
set_option maxRecDepth 1000000 in
set_option maxHeartbeats 4000000 in
theorem i_60 (d : Nat) (L : Nat) (xs : Nat → Int32) : Sem d 92 181 [some (vr 3), some (vi (5 : Int))] [] (z38 L xs) = Sem d 92 190 [some (vr 3), some (vi (5 : Int))] [] (z38 L xs) :=
  blk (rt := 0) (ini := 12) (lg := false) (is := [(.iload_n 1, (0, 0, 0, 0)), (.aload_n 0, (0, 0, 0, 0)), (.getfield 89, (3, 11, 10, 1)), (.arraylength, (0, 0, 0, 0)), (.if_icmp .ge 22, (0, 0, 0, 0))]) (by decide +kernel) d _ _ _
def z39 (L : Nat) (xs : Nat → Int32) : mSg := nwc (z38 L xs) 7 4
set_option maxRecDepth 1000000 in
set_option maxHeartbeats 4000000 in
theorem i_61 (d : Nat) (L : Nat) (xs : Nat → Int32) : Sem d 92 190 [some (vr 3), some (vi (5 : Int))] [] (z38 L xs) = semK d 92 59 [vr 56] 202 [some (vr 3), some (vi (5 : Int))] [vr 56, vi (5 : Int), vr 45] (z39 L xs) :=
  blk (rt := 0) (ini := 12) (lg := false) (is := [(.aload_n 0, (0, 0, 0, 0)), (.getfield 89, (3, 11, 10, 1)), (.iload_n 1, (0, 0, 0, 0)), (.new 87, (30, 7, 4, 0)), (.dup, (0, 0, 0, 0)), (.invokespecial 93, (12, 59, 0, 1))]) (by decide +kernel) d _ _ _
def z40 (L : Nat) (xs : Nat → Int32) : mSg := sR (nwc (sI (z39 L xs) 56 0 (-1 : Int)) 23 60) 56 3 57
set_option maxRecDepth 1000000 in
set_option maxHeartbeats 4000000 in
theorem i_62 (d : Nat) (L : Nat) (xs : Nat → Int32) : Sem d 59 0 [some (vr 56)] [] (z39 L xs) = some (none, z40 L xs) :=
  blk (rt := 0) (ini := 8) (lg := false) (is := [(.aload_n 0, (0, 0, 0, 0)), (.invokespecial 1, (16, 0, 0, 0)), (.aload_n 0, (0, 0, 0, 0)), (.iconst (-1), (0, 0, 0, 0)), (.putfield 9, (1, 7, 0, 0)), (.aload_n 0, (0, 0, 0, 0)), (.bipush 60, (0, 0, 0, 0)), (.newarray .long, (0, 0, 0, 0)), (.putfield 13, (3, 7, 3, 1)), (.return_, (0, 0, 0, 0))]) (by decide +kernel) d _ _ _
theorem j_63 (d : Nat) (L : Nat) (xs : Nat → Int32) (hd : 1 ≤ d) : semC d 59 [vr 56] (z39 L xs) = some (none, z40 L xs) := by
  obtain ⟨d, rfl⟩ : ∃ e, d = e + 1 := ⟨d - 1, by omega⟩
  rw [semC_in (n := 1) (lg := false) d _ _ (by decide +kernel) rfl]
  show Sem d 59 0 [some (vr 56)] [] (z39 L xs) = _
  rw [i_62]
def z41 (L : Nat) (xs : Nat → Int32) : mSg := sR (z40 L xs) 45 5 56
set_option maxRecDepth 1000000 in
set_option maxHeartbeats 4000000 in
theorem i_64 (d : Nat) (L : Nat) (xs : Nat → Int32) : Sem d 92 202 [some (vr 3), some (vi (5 : Int))] [vr 56, vi (5 : Int), vr 45] (z40 L xs) = Sem d 92 181 [some (vr 3), some (vi (6 : Int))] [] (z41 L xs) :=
  blk (rt := 0) (ini := 12) (lg := false) (is := [(.aastore, (0, 0, 0, 0)), (.iinc 1 1, (0, 0, 0, 0)), (.goto (-25), (0, 0, 0, 0))]) (by decide +kernel) d _ _ _
set_option maxRecDepth 1000000 in
set_option maxHeartbeats 4000000 in
theorem i_65 (d : Nat) (L : Nat) (xs : Nat → Int32) : Sem d 92 181 [some (vr 3), some (vi (6 : Int))] [] (z41 L xs) = Sem d 92 209 [some (vr 3), some (vi (6 : Int))] [] (z41 L xs) :=
  blk (rt := 0) (ini := 12) (lg := false) (is := [(.iload_n 1, (0, 0, 0, 0)), (.aload_n 0, (0, 0, 0, 0)), (.getfield 89, (3, 11, 10, 1)), (.arraylength, (0, 0, 0, 0)), (.if_icmp .ge 22, (0, 0, 0, 0))]) (by decide +kernel) d _ _ _
set_option maxRecDepth 1000000 in
set_option maxHeartbeats 4000000 in
theorem i_66 (d : Nat) (L : Nat) (xs : Nat → Int32) : Sem d 92 209 [some (vr 3), some (vi (6 : Int))] [] (z41 L xs) = some (none, z41 L xs) :=
  blk (rt := 0) (ini := 12) (lg := false) (is := [(.return_, (0, 0, 0, 0))]) (by decide +kernel) d _ _ _
theorem j_67 (d : Nat) (L : Nat) (xs : Nat → Int32) (hd : 2 ≤ d) : semC d 92 [vr 3] (z0 L xs) = some (none, z41 L xs) := by
  obtain ⟨d, rfl⟩ : ∃ e, d = e + 1 := ⟨d - 1, by omega⟩
  rw [semC_in (n := 2) (lg := false) d _ _ (by decide +kernel) rfl]
  show Sem d 92 0 [some (vr 3), none] [] (z0 L xs) = _
  rw [i_2]
  rw [semK_ofi (j_5 _ L xs (by omega))]; simp only [mpush]
  rw [i_6]
  rw [semK_ofi (j_9 _ L xs (by omega))]; simp only [mpush]
  rw [i_10]
  rw [semK_ofi (j_12 _ L xs (by omega))]; simp only [mpush]
  rw [i_13]
  rw [semK_ofi (j_15 _ L xs (by omega))]; simp only [mpush]
  rw [i_16]
  rw [semK_ofi (j_18 _ L xs (by omega))]; simp only [mpush]
  rw [i_19]
  rw [semK_ofi (j_21 _ L xs (by omega))]; simp only [mpush]
  rw [i_22]
  rw [semK_ofi (j_24 _ L xs (by omega))]; simp only [mpush]
  rw [i_25]
  rw [semK_ofi (j_27 _ L xs (by omega))]; simp only [mpush]
  rw [i_28]
  rw [semK_ofi (j_31 _ L xs (by omega))]; simp only [mpush]
  rw [i_32]
  rw [semK_ofi (j_34 _ L xs (by omega))]; simp only [mpush]
  rw [i_35]
  rw [i_36]
  rw [semK_ofi (j_38 _ L xs (by omega))]; simp only [mpush]
  rw [i_39]
  rw [i_40]
  rw [i_41]
  rw [semK_ofi (j_43 _ L xs (by omega))]; simp only [mpush]
  rw [i_44]
  rw [i_45]
  rw [i_46]
  rw [semK_ofi (j_48 _ L xs (by omega))]; simp only [mpush]
  rw [i_49]
  rw [i_50]
  rw [i_51]
  rw [semK_ofi (j_53 _ L xs (by omega))]; simp only [mpush]
  rw [i_54]
  rw [i_55]
  rw [i_56]
  rw [semK_ofi (j_58 _ L xs (by omega))]; simp only [mpush]
  rw [i_59]
  rw [i_60]
  rw [i_61]
  rw [semK_ofi (j_63 _ L xs (by omega))]; simp only [mpush]
  rw [i_64]
  rw [i_65]
  rw [i_66]
def z42 (L : Nat) (xs : Nat → Int32) : mSg := nwc (z41 L xs) 12 56
set_option maxRecDepth 1000000 in
set_option maxHeartbeats 4000000 in
theorem i_68 (d : Nat) (L : Nat) (xs : Nat → Int32) : Sem d 235 7 [some (vr 0), none, none, none] [vr 3] (z41 L xs) = semK d 235 134 [vr 58] 15 [some (vr 0), some (vr 3), none, none] [vr 58] (z42 L xs) :=
  blk (rt := 2) (ini := 0) (lg := false) (is := [(.astore_n 1, (0, 0, 0, 0)), (.new 10, (30, 12, 56, 0)), (.dup, (0, 0, 0, 0)), (.invokespecial 12, (12, 134, 0, 0))]) (by decide +kernel) d _ _ _
def z43 (L : Nat) (xs : Nat → Int32) : mSg := sR (nwc (sR (nwc (sR (nwc (sR (nwc (sI (sI (z42 L xs) 58 1 (12 : Int)) 58 2 (12 : Int)) 20 10) 58 4 59) 20 10) 58 5 60) 20 10) 58 7 61) 20 10) 58 8 62
set_option maxRecDepth 1000000 in
set_option maxHeartbeats 4000000 in
theorem i_69 (d : Nat) (L : Nat) (xs : Nat → Int32) : Sem d 134 0 [some (vr 58)] [] (z42 L xs) = Sem d 134 48 [some (vr 58)] [] (z43 L xs) :=
  blk (rt := 0) (ini := 13) (lg := false) (is := [(.aload_n 0, (0, 0, 0, 0)), (.invokespecial 1, (16, 0, 0, 0)), (.aload_n 0, (0, 0, 0, 0)), (.bipush 12, (0, 0, 0, 0)), (.putfield 7, (1, 12, 1, 0)), (.aload_n 0, (0, 0, 0, 0)), (.bipush 12, (0, 0, 0, 0)), (.putfield 13, (1, 12, 2, 0)), (.aload_n 0, (0, 0, 0, 0)), (.bipush 10, (0, 0, 0, 0)), (.newarray .int, (0, 0, 0, 0)), (.putfield 16, (3, 12, 4, 1)), (.aload_n 0, (0, 0, 0, 0)), (.bipush 10, (0, 0, 0, 0)), (.newarray .int, (0, 0, 0, 0)), (.putfield 20, (3, 12, 5, 1)), (.aload_n 0, (0, 0, 0, 0)), (.bipush 10, (0, 0, 0, 0)), (.newarray .int, (0, 0, 0, 0)), (.putfield 23, (3, 12, 7, 1)), (.aload_n 0, (0, 0, 0, 0)), (.bipush 10, (0, 0, 0, 0)), (.newarray .int, (0, 0, 0, 0)), (.putfield 26, (3, 12, 8, 1))]) (by decide +kernel) d _ _ _
def z44 (L : Nat) (xs : Nat → Int32) : mSg := sR (nwc (sR (nwc (sR (nwc (sR (nwc (sR (nwc (sR (nwc (z43 L xs) 20 10) 58 9 63) 20 10) 58 11 64) 20 10) 58 12 65) 20 10) 58 13 66) 20 10) 58 14 67) 20 10) 58 15 68
set_option maxRecDepth 1000000 in
set_option maxHeartbeats 4000000 in
theorem i_70 (d : Nat) (L : Nat) (xs : Nat → Int32) : Sem d 134 48 [some (vr 58)] [] (z43 L xs) = Sem d 134 96 [some (vr 58)] [] (z44 L xs) :=
  blk (rt := 0) (ini := 13) (lg := false) (is := [(.aload_n 0, (0, 0, 0, 0)), (.bipush 10, (0, 0, 0, 0)), (.newarray .int, (0, 0, 0, 0)), (.putfield 29, (3, 12, 9, 1)), (.aload_n 0, (0, 0, 0, 0)), (.bipush 10, (0, 0, 0, 0)), (.newarray .int, (0, 0, 0, 0)), (.putfield 32, (3, 12, 11, 1)), (.aload_n 0, (0, 0, 0, 0)), (.bipush 10, (0, 0, 0, 0)), (.newarray .int, (0, 0, 0, 0)), (.putfield 35, (3, 12, 12, 1)), (.aload_n 0, (0, 0, 0, 0)), (.bipush 10, (0, 0, 0, 0)), (.newarray .int, (0, 0, 0, 0)), (.putfield 38, (3, 12, 13, 1)), (.aload_n 0, (0, 0, 0, 0)), (.bipush 10, (0, 0, 0, 0)), (.newarray .int, (0, 0, 0, 0)), (.putfield 41, (3, 12, 14, 1)), (.aload_n 0, (0, 0, 0, 0)), (.bipush 10, (0, 0, 0, 0)), (.newarray .int, (0, 0, 0, 0)), (.putfield 44, (3, 12, 15, 1))]) (by decide +kernel) d _ _ _
def z45 (L : Nat) (xs : Nat → Int32) : mSg := sR (nwc (sR (nwc (sR (nwc (sR (nwc (sI (sR (nwc (z44 L xs) 20 10) 58 16 69) 58 17 (10 : Int)) 20 40) 58 22 70) 20 40) 58 23 71) 20 40) 58 24 72) 20 40) 58 25 73
set_option maxRecDepth 1000000 in
set_option maxHeartbeats 4000000 in
theorem i_71 (d : Nat) (L : Nat) (xs : Nat → Int32) : Sem d 134 96 [some (vr 58)] [] (z44 L xs) = Sem d 134 143 [some (vr 58)] [vr 58] (z45 L xs) :=
  blk (rt := 0) (ini := 13) (lg := false) (is := [(.aload_n 0, (0, 0, 0, 0)), (.bipush 10, (0, 0, 0, 0)), (.newarray .int, (0, 0, 0, 0)), (.putfield 47, (3, 12, 16, 1)), (.aload_n 0, (0, 0, 0, 0)), (.bipush 10, (0, 0, 0, 0)), (.putfield 50, (1, 12, 17, 0)), (.aload_n 0, (0, 0, 0, 0)), (.bipush 40, (0, 0, 0, 0)), (.newarray .int, (0, 0, 0, 0)), (.putfield 53, (3, 12, 22, 1)), (.aload_n 0, (0, 0, 0, 0)), (.bipush 40, (0, 0, 0, 0)), (.newarray .int, (0, 0, 0, 0)), (.putfield 56, (3, 12, 23, 1)), (.aload_n 0, (0, 0, 0, 0)), (.bipush 40, (0, 0, 0, 0)), (.newarray .int, (0, 0, 0, 0)), (.putfield 59, (3, 12, 24, 1)), (.aload_n 0, (0, 0, 0, 0)), (.bipush 40, (0, 0, 0, 0)), (.newarray .int, (0, 0, 0, 0)), (.putfield 62, (3, 12, 25, 1)), (.aload_n 0, (0, 0, 0, 0))]) (by decide +kernel) d _ _ _
def z46 (L : Nat) (xs : Nat → Int32) : mSg := sR (nwc (sR (nwc (sR (nwc (sR (nwc (sR (nwc (sR (nwc (z45 L xs) 22 120) 58 26 74) 22 260) 58 32 75) 20 260) 58 33 76) 20 2) 58 34 77) 21 122) 58 35 78) 21 122) 58 36 79
set_option maxRecDepth 1000000 in
set_option maxHeartbeats 4000000 in
theorem i_72 (d : Nat) (L : Nat) (xs : Nat → Int32) : Sem d 134 143 [some (vr 58)] [vr 58] (z45 L xs) = Sem d 134 192 [some (vr 58)] [vr 58] (z46 L xs) :=
  blk (rt := 0) (ini := 13) (lg := false) (is := [(.bipush 120, (0, 0, 0, 0)), (.newarray .byte, (0, 0, 0, 0)), (.putfield 65, (3, 12, 26, 1)), (.aload_n 0, (0, 0, 0, 0)), (.sipush 260, (0, 0, 0, 0)), (.newarray .byte, (0, 0, 0, 0)), (.putfield 69, (3, 12, 32, 1)), (.aload_n 0, (0, 0, 0, 0)), (.sipush 260, (0, 0, 0, 0)), (.newarray .int, (0, 0, 0, 0)), (.putfield 72, (3, 12, 33, 1)), (.aload_n 0, (0, 0, 0, 0)), (.iconst 2, (0, 0, 0, 0)), (.newarray .int, (0, 0, 0, 0)), (.putfield 75, (3, 12, 34, 1)), (.aload_n 0, (0, 0, 0, 0)), (.bipush 122, (0, 0, 0, 0)), (.newarray .short, (0, 0, 0, 0)), (.putfield 78, (3, 12, 35, 1)), (.aload_n 0, (0, 0, 0, 0)), (.bipush 122, (0, 0, 0, 0)), (.newarray .short, (0, 0, 0, 0)), (.putfield 82, (3, 12, 36, 1)), (.aload_n 0, (0, 0, 0, 0))]) (by decide +kernel) d _ _ _
def z47 (L : Nat) (xs : Nat → Int32) : mSg := sR (nwc (sR (nwc (sR (nwc (sR (nwc (sR (nwc (sR (nwc (z46 L xs) 20 4) 58 37 80) 20 130) 58 38 81) 20 10) 58 40 82) 20 10) 58 41 83) 20 10) 58 42 84) 20 10) 58 43 85
set_option maxRecDepth 1000000 in
set_option maxHeartbeats 4000000 in
theorem i_73 (d : Nat) (L : Nat) (xs : Nat → Int32) : Sem d 134 192 [some (vr 58)] [vr 58] (z46 L xs) = Sem d 134 240 [some (vr 58)] [vr 58] (z47 L xs) :=
  blk (rt := 0) (ini := 13) (lg := false) (is := [(.iconst 4, (0, 0, 0, 0)), (.newarray .int, (0, 0, 0, 0)), (.putfield 85, (3, 12, 37, 1)), (.aload_n 0, (0, 0, 0, 0)), (.sipush 130, (0, 0, 0, 0)), (.newarray .int, (0, 0, 0, 0)), (.putfield 88, (3, 12, 38, 1)), (.aload_n 0, (0, 0, 0, 0)), (.bipush 10, (0, 0, 0, 0)), (.newarray .int, (0, 0, 0, 0)), (.putfield 91, (3, 12, 40, 1)), (.aload_n 0, (0, 0, 0, 0)), (.bipush 10, (0, 0, 0, 0)), (.newarray .int, (0, 0, 0, 0)), (.putfield 94, (3, 12, 41, 1)), (.aload_n 0, (0, 0, 0, 0)), (.bipush 10, (0, 0, 0, 0)), (.newarray .int, (0, 0, 0, 0)), (.putfield 97, (3, 12, 42, 1)), (.aload_n 0, (0, 0, 0, 0)), (.bipush 10, (0, 0, 0, 0)), (.newarray .int, (0, 0, 0, 0)), (.putfield 100, (3, 12, 43, 1)), (.aload_n 0, (0, 0, 0, 0))]) (by decide +kernel) d _ _ _
def z48 (L : Nat) (xs : Nat → Int32) : mSg := sR (nwc (sR (nwc (sR (nwc (sR (nwc (sR (nwc (sR (nwc (z47 L xs) 20 10) 58 44 86) 20 10) 58 45 87) 20 10) 58 46 88) 20 10) 58 47 89) 20 50) 58 49 90) 20 24) 58 51 91
set_option maxRecDepth 1000000 in
set_option maxHeartbeats 4000000 in
theorem i_74 (d : Nat) (L : Nat) (xs : Nat → Int32) : Sem d 134 240 [some (vr 58)] [vr 58] (z47 L xs) = Sem d 134 288 [some (vr 58)] [vr 58] (z48 L xs) :=
  blk (rt := 0) (ini := 13) (lg := false) (is := [(.bipush 10, (0, 0, 0, 0)), (.newarray .int, (0, 0, 0, 0)), (.putfield 103, (3, 12, 44, 1)), (.aload_n 0, (0, 0, 0, 0)), (.bipush 10, (0, 0, 0, 0)), (.newarray .int, (0, 0, 0, 0)), (.putfield 106, (3, 12, 45, 1)), (.aload_n 0, (0, 0, 0, 0)), (.bipush 10, (0, 0, 0, 0)), (.newarray .int, (0, 0, 0, 0)), (.putfield 109, (3, 12, 46, 1)), (.aload_n 0, (0, 0, 0, 0)), (.bipush 10, (0, 0, 0, 0)), (.newarray .int, (0, 0, 0, 0)), (.putfield 112, (3, 12, 47, 1)), (.aload_n 0, (0, 0, 0, 0)), (.bipush 50, (0, 0, 0, 0)), (.newarray .int, (0, 0, 0, 0)), (.putfield 115, (3, 12, 49, 1)), (.aload_n 0, (0, 0, 0, 0)), (.bipush 24, (0, 0, 0, 0)), (.newarray .int, (0, 0, 0, 0)), (.putfield 118, (3, 12, 51, 1)), (.aload_n 0, (0, 0, 0, 0))]) (by decide +kernel) d _ _ _
def z49 (L : Nat) (xs : Nat → Int32) : mSg := sI (sI (sI (sI (sI (nwc (z48 L xs) 20 6) 92 0 (-1 : Int)) 92 1 (-1 : Int)) 92 2 (-1 : Int)) 92 3 (-1 : Int)) 92 4 (-1 : Int)
set_option maxRecDepth 1000000 in
set_option maxHeartbeats 4000000 in
theorem i_75 (d : Nat) (L : Nat) (xs : Nat → Int32) : Sem d 134 288 [some (vr 58)] [vr 58] (z48 L xs) = Sem d 134 314 [some (vr 58)] [vi (5 : Int), vr 92, vr 92, vr 58] (z49 L xs) :=
  blk (rt := 0) (ini := 13) (lg := false) (is := [(.bipush 6, (0, 0, 0, 0)), (.newarray .int, (0, 0, 0, 0)), (.dup, (0, 0, 0, 0)), (.iconst 0, (0, 0, 0, 0)), (.iconst (-1), (0, 0, 0, 0)), (.iastore, (0, 0, 0, 0)), (.dup, (0, 0, 0, 0)), (.iconst 1, (0, 0, 0, 0)), (.iconst (-1), (0, 0, 0, 0)), (.iastore, (0, 0, 0, 0)), (.dup, (0, 0, 0, 0)), (.iconst 2, (0, 0, 0, 0)), (.iconst (-1), (0, 0, 0, 0)), (.iastore, (0, 0, 0, 0)), (.dup, (0, 0, 0, 0)), (.iconst 3, (0, 0, 0, 0)), (.iconst (-1), (0, 0, 0, 0)), (.iastore, (0, 0, 0, 0)), (.dup, (0, 0, 0, 0)), (.iconst 4, (0, 0, 0, 0)), (.iconst (-1), (0, 0, 0, 0)), (.iastore, (0, 0, 0, 0)), (.dup, (0, 0, 0, 0)), (.iconst 5, (0, 0, 0, 0))]) (by decide +kernel) d _ _ _
def z50 (L : Nat) (xs : Nat → Int32) : mSg := sR (nwc (sR (nwc (sR (nwc (sR (sI (z49 L xs) 92 5 (-1 : Int)) 58 52 92) 20 6) 58 53 93) 23 360) 58 54 94) 23 60) 58 55 95
set_option maxRecDepth 1000000 in
set_option maxHeartbeats 4000000 in
theorem i_76 (d : Nat) (L : Nat) (xs : Nat → Int32) : Sem d 134 314 [some (vr 58)] [vi (5 : Int), vr 92, vr 92, vr 58] (z49 L xs) = some (none, z50 L xs) :=
  blk (rt := 0) (ini := 13) (lg := false) (is := [(.iconst (-1), (0, 0, 0, 0)), (.iastore, (0, 0, 0, 0)), (.putfield 121, (3, 12, 52, 1)), (.aload_n 0, (0, 0, 0, 0)), (.bipush 6, (0, 0, 0, 0)), (.newarray .int, (0, 0, 0, 0)), (.putfield 124, (3, 12, 53, 1)), (.aload_n 0, (0, 0, 0, 0)), (.sipush 360, (0, 0, 0, 0)), (.newarray .long, (0, 0, 0, 0)), (.putfield 127, (3, 12, 54, 1)), (.aload_n 0, (0, 0, 0, 0)), (.bipush 60, (0, 0, 0, 0)), (.newarray .long, (0, 0, 0, 0)), (.putfield 131, (3, 12, 55, 1)), (.return_, (0, 0, 0, 0))]) (by decide +kernel) d _ _ _
theorem j_77 (d : Nat) (L : Nat) (xs : Nat → Int32) (hd : 1 ≤ d) : semC d 134 [vr 58] (z42 L xs) = some (none, z50 L xs) := by
  obtain ⟨d, rfl⟩ : ∃ e, d = e + 1 := ⟨d - 1, by omega⟩
  rw [semC_in (n := 1) (lg := false) d _ _ (by decide +kernel) rfl]
  show Sem d 134 0 [some (vr 58)] [] (z42 L xs) = _
  rw [i_69]
  rw [i_70]
  rw [i_71]
  rw [i_72]
  rw [i_73]
  rw [i_74]
  rw [i_75]
  rw [i_76]
set_option maxRecDepth 1000000 in
set_option maxHeartbeats 4000000 in
theorem i_78 (d : Nat) (L : Nat) (xs : Nat → Int32) : Sem d 235 15 [some (vr 0), some (vr 3), none, none] [vr 58] (z50 L xs) = Sem d 235 18 [some (vr 0), some (vr 3), some (vr 58), some (vi (0 : Int))] [] (z50 L xs) :=
  blk (rt := 2) (ini := 0) (lg := false) (is := [(.astore_n 2, (0, 0, 0, 0)), (.iconst 0, (0, 0, 0, 0)), (.istore_n 3, (0, 0, 0, 0))]) (by decide +kernel) d _ _ _
theorem law_head (d : Nat) (L : Nat) (xs : Nat → Int32) (hd : 2 ≤ d) : Sem d 235 0 [some (vr 0), none, none, none] [] (sg0 L xs) = Sem d 235 18 [some (vr 0), some (vr 3), some (vr 58), some (vi (0 : Int))] [] (z50 L xs) := by
  rw [i_1]
  rw [semK_ofi (j_67 _ L xs (by omega))]; simp only [mpush]
  rw [i_68]
  rw [semK_ofi (j_77 _ L xs (by omega))]; simp only [mpush]
  rw [i_78]
