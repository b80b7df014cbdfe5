-- sums, counting, pigeon holes
def sumN (f : Nat → Int) : Nat → Int
  | 0 => 0
  | n + 1 => sumN f n + f n
theorem sumN_cg {f g : Nat → Int} : ∀ {n : Nat}, (∀ j, j < n → f j = g j) → sumN f n = sumN g n := by
  intro n
  induction n with
  | zero => intro _; rfl
  | succ n ih =>
    intro h
    show sumN f n + f n = sumN g n + g n
    rw [ih (fun j hj => h j (by omega)), h n (by omega)]
theorem sumN_upd {f : Nat → Int} {i : Nat} {x : Int} : ∀ {n : Nat}, i < n → sumN (fun j => if j = i then x else f j) n = sumN f n - f i + x := by
  intro n
  induction n with
  | zero => intro h; omega
  | succ n ih =>
    intro h
    show sumN (fun j => if j = i then x else f j) n + (if n = i then x else f n) = sumN f n + f n - f i + x
    by_cases hi : n = i
    · rw [if_pos hi]
      have : sumN (fun j => if j = i then x else f j) n = sumN f n := sumN_cg (fun j hj => by rw [if_neg (by omega)])
      rw [this, hi]; omega
    · rw [if_neg hi, ih (by omega)]; omega
theorem sumN_out {f : Nat → Int} {i : Nat} {x : Int} {n : Nat} (h : n ≤ i) : sumN (fun j => if j = i then x else f j) n = sumN f n := sumN_cg (fun j hj => by rw [if_neg (by omega)])
theorem sumN_le {f g : Nat → Int} : ∀ {n : Nat}, (∀ j, j < n → f j ≤ g j) → sumN f n ≤ sumN g n := by
  intro n
  induction n with
  | zero => intro _; exact Int.le_refl _
  | succ n ih =>
    intro h
    show sumN f n + f n ≤ sumN g n + g n
    have := ih (fun j hj => h j (by omega))
    have := h n (by omega)
    omega
theorem sumN_const (b : Int) : ∀ n : Nat, sumN (fun _ => b) n = b * (n : Int) := by
  intro n
  induction n with
  | zero => simp [sumN]
  | succ n ih =>
    show sumN (fun _ => b) n + b = _
    rw [ih, Int.natCast_add, Int.mul_add]
    simp
theorem sumN_nn {f : Nat → Int} {n : Nat} (h : ∀ j, j < n → 0 ≤ f j) : 0 ≤ sumN f n := by
  have h1 := sumN_le (f := fun _ => 0) (g := f) h
  rw [sumN_const] at h1
  omega
theorem sumN_ub {f : Nat → Int} {n : Nat} {b : Int} (h : ∀ j, j < n → f j ≤ b) : sumN f n ≤ b * (n : Int) := by
  have h1 := sumN_le (f := f) (g := fun _ => b) h
  rw [sumN_const] at h1
  exact h1
theorem sumN_one {f : Nat → Int} {i : Nat} : ∀ {n : Nat}, (∀ j, j < n → 0 ≤ f j) → i < n → f i ≤ sumN f n := by
  intro n
  induction n with
  | zero => intro _ h; omega
  | succ n ih =>
    intro h hi
    show f i ≤ sumN f n + f n
    have hn := h n (by omega)
    by_cases e : i = n
    · subst e
      have := sumN_nn (f := f) (n := i) (fun j hj => h j (by omega))
      omega
    · have := ih (fun j hj => h j (by omega)) (by omega)
      omega
/-- of a sum that is full every part is full -/
theorem sumN_full {f : Nat → Int} {n : Nat} (h1 : ∀ j, j < n → f j ≤ 1) (h2 : sumN f n = (n : Int)) : ∀ j, j < n → f j = 1 := by
  intro j hj
  have h3 := sumN_one (f := fun j => 1 - f j) (i := j) (n := n) (fun k hk => by have := h1 k hk; omega) hj
  have h4 : ∀ m, sumN (fun j => 1 - f j) m = (m : Int) - sumN f m := by
    intro m
    induction m with
    | zero => simp [sumN]
    | succ m ih =>
      show sumN (fun j => 1 - f j) m + (1 - f m) = ((m + 1 : Nat) : Int) - (sumN f m + f m)
      rw [ih]; omega
  rw [h4, h2] at h3
  have := h1 j hj
  omega
theorem pigeon : ∀ (m n : Nat) (f : Nat → Nat), (∀ i, i < n → f i < m) → (∀ i j, i < n → j < n → f i = f j → i = j) → n ≤ m := by
  intro m
  induction m with
  | zero =>
    intro n f h _
    rcases Nat.eq_zero_or_pos n with q | q
    · omega
    · have := h 0 q; omega
  | succ m ih =>
    intro n f h hi
    cases n with
    | zero => omega
    | succ n =>
      have hw := h n (by omega)
      have key := ih n (fun i => if f i = m then f n else f i) (fun i hin => by
        show (if f i = m then f n else f i) < m
        have h1 := h i (by omega)
        split
        · rename_i e
          have : f n ≠ m := fun e2 => by have := hi i n (by omega) (by omega) (by omega); omega
          omega
        · omega) (fun i j hin hjn e => by
        have e : (if f i = m then f n else f i) = (if f j = m then f n else f j) := e
        by_cases h1 : f i = m <;> by_cases h2 : f j = m
        · exact hi i j (by omega) (by omega) (by omega)
        · rw [if_pos h1, if_neg h2] at e
          have := hi n j (by omega) (by omega) e
          omega
        · rw [if_neg h1, if_pos h2] at e
          have := hi i n (by omega) (by omega) e
          omega
        · rw [if_neg h1, if_neg h2] at e
          exact hi i j (by omega) (by omega) e)
      omega
