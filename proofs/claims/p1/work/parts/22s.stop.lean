theorem nI_neN {n : Nat} (k : Int32) (h : n < 2 ^ 31) (hk : k.toInt < 0) : ¬ nI n = k := by
  intro q
  have h1 := nI_toInt h
  rw [q] at h1
  omega
/-- whether a step that way may be gone from a CELL of a new object -/
def okw (w k : Nat) : Bool := match w with
  | 0 => decide (8 ≤ k)
  | 1 => decide (0 < k % 8)
  | 2 => decide (k % 8 < 7)
  | _ => decide (k < 56)
def partw (w : Nat) : Nat → Int64
  | 0 => 0
  | k + 1 => if okw w k = true then partw w k ||| jshl 1 (nI k) else partw w k
def opw (w k : Nat) : Nat → Int64 := fun j => if j < w then partw j 64 else if j = w then partw w k else 0
theorem opw00 : vp_updL (fun _ => 0) 0 0 = opw 0 0 := by
  funext j
  unfold vp_updL opw partw
  by_cases h : j = 0 <;> simp [h]
theorem opwN (w : Nat) : vp_updL (opw w 64) (w + 1) 0 = opw (w + 1) 0 := by
  funext j
  unfold vp_updL opw
  by_cases h : j = w + 1
  · rw [if_pos h, if_neg (by omega), if_pos h]; rfl
  · rw [if_neg h]
    by_cases h2 : j < w
    · rw [if_pos h2, if_pos (by omega)]
    · rw [if_neg h2]
      by_cases h3 : j = w
      · rw [if_pos h3, if_pos (by omega), h3]
      · rw [if_neg h3, if_neg (by omega), if_neg h]
theorem opwS (w k : Nat) (h : okw w k = true) : vp_updL (opw w k) w (opw w k w ||| jshl 1 (nI k)) = opw w (k + 1) := by
  funext j
  unfold vp_updL opw
  by_cases hj : j = w
  · rw [if_pos hj, if_neg (by omega), if_pos rfl, if_neg (by omega), if_pos hj]
    show _ = (if okw w k = true then partw w k ||| jshl 1 (nI k) else partw w k)
    rw [if_pos h]
  · rw [if_neg hj]
    by_cases h2 : j < w
    · rw [if_pos h2, if_pos h2]
    · rw [if_neg h2, if_neg h2, if_neg hj, if_neg hj]
theorem opwK (w k : Nat) (h : okw w k = false) : opw w k = opw w (k + 1) := by
  funext j
  unfold opw
  by_cases hj : j = w
  · rw [if_neg (by omega), if_pos hj, if_neg (by omega), if_pos hj]
    show _ = (if okw w k = true then partw w k ||| jshl 1 (nI k) else partw w k)
    rw [if_neg (by rw [h]; decide)]
  · rw [if_neg hj, if_neg hj]
theorem cell_cgJ {D : va_G} {cl : List vw_C} {ws : va_W} {H : Heap} (h : va_P D cl ws H) (i : Nat) {a n : Nat} {cA : ClassId} {f f' : Nat → Int64} (hi : ws[i]? = some (a, .inl (cA, n, .inr (.inl f)))) (hf : ∀ j, j < n → f j = f' j) : va_P D cl (ws.set i (a, .inl (cA, n, .inr (.inl f')))) H := by
  have hl := (List.getElem?_eq_some_iff.mp hi).1
  intro k q hk
  by_cases hki : k = i
  · subst hki
    rw [List.getElem?_set_self hl] at hk
    cases hk
    have h0 : H[a]? = some (vp_cell cA (n, .inr (.inl f))) := h k _ hi
    show H[a]? = some (vp_cell cA (n, .inr (.inl f')))
    rw [h0, vp_cell_l, vp_cell_l]
    congr 1
    unfold arrV
    congr 1
    apply Array.ext
    · simp
    · intro j h1 h2
      simp at h1
      simp [hf j h1]
  · rw [List.getElem?_set_ne (Ne.symm hki)] at hk
    exact h k q hk
def opF : Nat → Int64 := fun j => [(-256), (-72340172838076674), 9187201950435737471, 72057594037927935].getD j 0
def rstep (r : Int64) : Int64 := ((((r ||| (jushr (r &&& (-256)) 8)) ||| (jushr (r &&& (-72340172838076674)) 1)) ||| (jshl (r &&& 9187201950435737471) 1)) ||| (jshl (r &&& 72057594037927935) 8)) &&& (-1)
def rch (a : Nat) : Nat → Int64
  | 0 => jshl 1 (nI a)
  | k + 1 => rstep (rch a k)
def hasC (z : Int64) (b : Nat) : Prop := lg_cmp (jushr z (nI b) &&& 1) 1 = 0
theorem rf1 : ∀ a, a < 64 → ∀ k, k < 14 → lg_cmp (rch a (k + 1)) (rch a k) = 0 → rch a (k + 1) = -1 := by decide +kernel
theorem rf2 : ∀ a, a < 64 → rch a 14 = -1 := by decide +kernel
theorem rf3 : rstep (-1) = -1 := by decide +kernel
theorem rf4 : ∀ b, b < 64 → lg_cmp (jushr (-1) (nI b) &&& 1) 1 = 0 := by decide +kernel
theorem rf5 (a : Nat) (ha : a < 64) : ∀ n, rch a (14 + n) = -1
  | 0 => rf2 a ha
  | n + 1 => by
    show rstep (rch a (14 + n)) = -1
    rw [rf5 a ha n, rf3]
theorem rf_eq (a b k : Nat) (ha : a < 64) (hb : b < 64) (h : lg_cmp (rch a (k + 1)) (rch a k) = 0) : hasC (rch a (k + 1)) b := by
  have e : rch a (k + 1) = -1 := by
    rcases Nat.lt_or_ge k 14 with q | q
    · exact rf1 a ha k q h
    · rw [show k + 1 = 14 + (k + 1 - 14) by omega]
      exact rf5 a ha _
  unfold hasC
  rw [e]
  exact rf4 b hb
theorem rf_fin (a b : Nat) (ha : a < 64) (hb : b < 64) : hasC (rch a 64) b := by
  unfold hasC
  rw [show (64 : Nat) = 14 + 50 by rfl, rf5 a ha 50]
  exact rf4 b hb
