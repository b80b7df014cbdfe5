def R_law : String := "CityRoadLaw"
/-- what the law may change: what is made since its start -/
def laA (s : State) : Nat → Prop := fun q => s.heap.size ≤ q
theorem lcmp_self (x : Int64) : lg_cmp x x = 0 := by
  unfold lg_cmp
  rw [if_neg (by simp), if_pos rfl]
