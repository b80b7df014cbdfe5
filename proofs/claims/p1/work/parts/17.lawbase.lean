def R_law : String := "CityRoadLaw"
/-- what the law may change: what is made since its start -/
def laA (s : State) : Nat → Prop := fun q => s.heap.size ≤ q
theorem lcmp_self (x : Int64) : lg_cmp x x = 0 := by
  unfold lg_cmp
  rw [if_neg (by simp), if_pos rfl]
theorem def8tree (x : Int32) (h0 : ¬ x < 0) (h8 : ¬ 8 ≤ x) : def8v x = if x = 0 then 10 else (if x = 1 then 20 else (if x = 2 then 100 else (if x = 3 then 50 else (if x = 4 then 2 else (if x = 5 then 60 else (if x = 6 then 3 else 7)))))) := by
  obtain ⟨j, hj, rfl⟩ := natI (x := x) (n := 8) (by simp only [i32lt, Int32.reduceToInt] at h0; omega) (by simp only [i32le, Int32.reduceToInt] at h8; omega) (by decide)
  clear h0 h8
  match j, hj with
  | 0, _ => decide
  | 1, _ => decide
  | 2, _ => decide
  | 3, _ => decide
  | 4, _ => decide
  | 5, _ => decide
  | 6, _ => decide
  | 7, _ => decide
