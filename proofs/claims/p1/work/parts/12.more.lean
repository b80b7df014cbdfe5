theorem natI {x : Int32} {n : Nat} (h0 : 0 ≤ x.toInt) (h1 : x.toInt < (n : Int)) (hn : n ≤ 2 ^ 31) : ∃ j : Nat, j < n ∧ x = nI j := by
  refine ⟨x.toInt.toNat, by omega, ?_⟩
  rw [i32eq, nI_toInt (by omega)]
  omega
def def8v (x : Int32) : Int32 := [10, 20, 100, 50, 2, 60, 3, 7].getD x.toNatClampNeg 0
theorem updc (v : Int32) (k : Nat) : upd (fun _ => v) k v = fun _ => v := by
  funext j
  unfold upd
  by_cases h : j = k
  · rw [if_pos h]
  · rw [if_neg h]
theorem and0 (x : Int64) : 0 &&& x = 0 := by
  apply Int64.toBitVec_inj.mp
  simp
theorem and0r (x : Int64) : x &&& 0 = 0 := by
  apply Int64.toBitVec_inj.mp
  simp
/-- h over k CELLS of SORT 0 and HEIGHT 0 -/
def gh (z : Int64) : Nat → Int64
  | 0 => z
  | k + 1 => (31 * ((31 * gh z k) + 0)) + 0
def mh (z : Int64) : Nat → Int64
  | 0 => z
  | k + 1 => (31 * ((31 * mh z k) + (Int32.toInt64 0))) + (Int32.toInt64 0)
