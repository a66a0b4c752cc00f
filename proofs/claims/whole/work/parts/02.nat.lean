set_option maxHeartbeats 4000000 in
/-- NATURALITY -/
theorem stepI_nat {α β : Type} (h : α → β) (fl : α) (nx : Nat → mLoc → List mVal → mSg → α) (ca : Nat → List mVal → Nat → mLoc → List mVal → mSg → α) (re : Option mVal → mSg → α) (rt ini : Nat) (lg : Bool) (x : mAux) (i : Instr) (pc : Nat) (L : mLoc) (st : List mVal) (σ : mSg) :
    h (stepI fl nx ca re rt ini lg x i pc L st σ) = stepI (h fl) (fun a b c d => h (nx a b c d)) (fun a b c d e f => h (ca a b c d e f)) (fun a b => h (re a b)) rt ini lg x i pc L st σ := by
  cases i <;> (delta stepI; dsimp only) <;> try (with_reducible rfl)
  all_goals (repeat' split)
  all_goals try (with_reducible rfl)
  all_goals first | exact mtbK_nat h _ _ _ _ _ | exact mlkK_nat h _ _ _ _
