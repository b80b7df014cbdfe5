-- ---------- tear, lay, put, copy
def SZ (x : Int) : Int := if x < 0 then -1 else x
theorem SZ_neg {x : Int} (h : x < 0) : SZ x = -1 := by unfold SZ; rw [if_pos h]
theorem SZ_nn {x : Int} (h : 0 ≤ x) : SZ x = x := by unfold SZ; rw [if_neg (by omega)]
/-- how tear goes: m says what stands for 'not there' -/
def TRO (z : Int) (o : OO) (x1 : Int) (b : Prop) (v : Int × OO) : Prop := (¬ (0 ≤ x1 ∧ x1 ≤ 5) ∧ v.1 = -1 ∧ (∀ j, v.2.1 2 j = o.1 2 j) ∧ ∀ j, v.2.1 3 j = o.1 3 j) ∨ ((0 ≤ x1 ∧ x1 ≤ 5) ∧ b ∧ v.1 = -3 ∧ (∀ j, v.2.1 2 j = o.1 2 j) ∧ ∀ j, v.2.1 3 j = o.1 3 j) ∨ ((0 ≤ x1 ∧ x1 ≤ 5) ∧ ¬ b ∧ v.1 = 1 ∧ (∀ j : Nat, v.2.1 2 j = if (j : Int) = x1 then z else o.1 2 j) ∧ ∀ j, v.2.1 3 j = o.1 3 j)
theorem ra_tear_C {o : OO} (hn : o.1 1 0 = 6) (x1 : Int) : Pa (s_X11_tear o x1) (TRO (-1) o x1 (o.1 2 x1.toNat = -1)) := by
  unfold s_X11_tear
  refine Pa_qB (ra_exists hn x1) (fun r hr => Pa_qEq (fun h => ?_) (fun h => ?_))
  · exact Pa_some (Or.inl ⟨by omega, rfl, fun _ => rfl, fun _ => rfl⟩)
  refine Pa_qB (ra_isThere o x1) (fun r2 hr2 => Pa_qEq (fun h2 => ?_) (fun h2 => ?_))
  · exact Pa_qB2 (ra_found o 1) (fun r9 o9 h9 => Pa_some (Or.inr (Or.inl ⟨by omega, by omega, h9.1, fun j => h9.2 2 j (by decide) (by decide), fun j => h9.2 3 j (by decide) (by decide)⟩)))
  · unfold s_X8_remove
    refine Pa_qB (P := fun v => v = st1 o 2 x1.toNat (-1)) (Pa_qIn (fun hi => Pa_qNm (Pa_some rfl))) (fun u hu => Pa_some (Or.inr (Or.inr ⟨by omega, by omega, rfl, fun j => ?_, fun j => ?_⟩)))
    · show u.1 2 j = _
      rw [hu, st1_s]
      by_cases q : j = x1.toNat
      · rw [if_pos q, if_pos (by omega)]
      · rw [if_neg q, if_neg (by omega)]
    · show u.1 3 j = _
      rw [hu, st1_n (by decide)]
theorem ra_tear_M (o : OO) (x1 : Int) : Pa (s_X12_tear o x1) (TRO (-9) o x1 (o.1 2 x1.toNat < 0)) := by
  unfold s_X12_tear
  refine Pa_qB2 (ra_askedRow o x1) (fun r u hr => ?_)
  refine Pa_qLt (fun _ _ h => ?_) (fun _ _ h => ?_)
  · refine Pa_some ?_
    rcases hr with ⟨e, q, e2⟩ | ⟨e, q, q2, e2⟩ | ⟨e, q, q2, e2⟩
    · replace e : r = -1 := e
      replace e2 : u = o := e2
      subst e2
      exact Or.inl ⟨q, e, fun _ => rfl, fun _ => rfl⟩
    · replace e : r = -3 := e
      exact Or.inr (Or.inl ⟨q, q2, e, fun j => e2 2 j (by decide) (by decide), fun j => e2 3 j (by decide) (by decide)⟩)
    · replace e : r = 0 := e
      omega
  · rcases hr with ⟨e, q, e2⟩ | ⟨e, q, q2, e2⟩ | ⟨e, q, q2, e2⟩
    · replace e : r = -1 := e
      omega
    · replace e : r = -3 := e
      omega
    · replace e2 : u = o := e2
      subst e2
      refine Pa_qIn (fun hi => Pa_qNm (Pa_some (Or.inr (Or.inr ⟨q, q2, rfl, fun j => ?_, fun j => ?_⟩))))
      · show (st1 u 2 x1.toNat (-9)).1 2 j = _
        rw [st1_s]
        by_cases q : j = x1.toNat
        · rw [if_pos q, if_pos (by omega)]
        · rw [if_neg q, if_neg (by omega)]
      · show (st1 u 2 x1.toNat (-9)).1 3 j = _
        rw [st1_n (by decide)]
def EXO3 (o : OO) (x1 x2 x3 : Int) (b : Prop) (v : Int × OO) : Prop := (¬ (0 ≤ x1 ∧ x1 ≤ 5) ∧ v.1 = -1 ∧ (∀ j, v.2.1 2 j = o.1 2 j) ∧ ∀ j, v.2.1 3 j = o.1 3 j) ∨ ((0 ≤ x1 ∧ x1 ≤ 5) ∧ b ∧ v.1 = -3 ∧ (∀ j, v.2.1 2 j = o.1 2 j) ∧ ∀ j, v.2.1 3 j = o.1 3 j) ∨ ((0 ≤ x1 ∧ x1 ≤ 5) ∧ ¬ b ∧ ¬ (0 ≤ x2 ∧ x2 < o.1 2 x1.toNat) ∧ v.1 = -3 ∧ (∀ j, v.2.1 2 j = o.1 2 j) ∧ ∀ j, v.2.1 3 j = o.1 3 j) ∨ ((0 ≤ x1 ∧ x1 ≤ 5) ∧ ¬ b ∧ (0 ≤ x2 ∧ x2 < o.1 2 x1.toNat) ∧ v.1 = 1 ∧ (∀ j, v.2.1 2 j = o.1 2 j) ∧ ∀ j : Nat, v.2.1 3 j = if (j : Int) = 40 * x1 + x2 then x3 else o.1 3 j)
theorem ra_lay_C {o : OO} (hn : o.1 1 0 = 6) (x1 x2 x3 : Int) : Pa (s_X11_lay o x1 x2 x3) (EXO3 o x1 x2 x3 (o.1 2 x1.toNat = -1)) := by
  unfold s_X11_lay
  refine Pa_qB (ra_exists hn x1) (fun r hr => Pa_qEq (fun h => ?_) (fun h => ?_))
  · exact Pa_some (Or.inl ⟨by omega, rfl, fun _ => rfl, fun _ => rfl⟩)
  refine Pa_qB (ra_isThere o x1) (fun r2 hr2 => Pa_qEq (fun h2 => ?_) (fun h2 => ?_))
  · exact Pa_qB2 (ra_found o 1) (fun r9 o9 h9 => Pa_some (Or.inr (Or.inl ⟨by omega, by omega, h9.1, fun j => h9.2 2 j (by decide) (by decide), fun j => h9.2 3 j (by decide) (by decide)⟩)))
  refine Pa_qB (ra_holds__1 o x1 x2) (fun r3 hr3 => Pa_qEq (fun h3 => ?_) (fun h3 => ?_))
  · exact Pa_qB2 (ra_found o 2) (fun r9 o9 h9 => Pa_some (Or.inr (Or.inr (Or.inl ⟨by omega, by omega, by omega, h9.1, fun j => h9.2 2 j (by decide) (by decide), fun j => h9.2 3 j (by decide) (by decide)⟩))))
  refine Pa_qB2 (ra_exchange o x1 x2 x3) (fun r9 o9 h9 => ?_)
  replace h9 : r9 = o.1 3 (40 * x1 + x2).toNat ∧ EX3 o (40 * x1 + x2) x3 o9 := h9
  unfold s_X11_tell
  refine Pa_qB2 (P := fun v => v = (1, st1 o9 0 14 r9)) (Pa_qNm (Pa_some rfl)) (fun r8 o8 h8 => Pa_some (Or.inr (Or.inr (Or.inr ⟨by omega, by omega, by omega, ?_, fun j => ?_, fun j => ?_⟩))))
  · cases h8
    rfl
  · cases h8
    show (st1 o9 0 14 r9).1 2 j = _
    rw [st1_n (by decide)]
    exact h9.2.2 2 j (by decide)
  · cases h8
    show (st1 o9 0 14 r9).1 3 j = _
    rw [st1_n (by decide)]
    exact h9.2.1 j
theorem ra_lay_M (o : OO) (x1 x2 x3 : Int) : Pa (s_X12_lay o x1 x2 x3) (EXO3 o x1 x2 x3 (o.1 2 x1.toNat < 0)) := by
  unfold s_X12_lay
  refine Pa_qB2 (ra_askedRow o x1) (fun r u hr => ?_)
  refine Pa_qLt (fun _ _ h => ?_) (fun _ _ h => ?_)
  · refine Pa_some ?_
    rcases hr with ⟨e, q, e2⟩ | ⟨e, q, q2, e2⟩ | ⟨e, q, q2, e2⟩
    · replace e : r = -1 := e
      replace e2 : u = o := e2
      subst e2
      exact Or.inl ⟨q, e, fun _ => rfl, fun _ => rfl⟩
    · replace e : r = -3 := e
      exact Or.inr (Or.inl ⟨q, q2, e, fun j => e2 2 j (by decide) (by decide), fun j => e2 3 j (by decide) (by decide)⟩)
    · replace e : r = 0 := e
      omega
  · rcases hr with ⟨e, q, e2⟩ | ⟨e, q, q2, e2⟩ | ⟨e, q, q2, e2⟩
    · replace e : r = -1 := e
      omega
    · replace e : r = -3 := e
      omega
    · replace e2 : u = o := e2
      subst e2
      refine Pa_qIn (fun hi => Pa_qNm (Pa_qB (ra_in x2 0 (u.1 2 x1.toNat - 1)) (fun r3 hr3 => Pa_qEq (fun h3 => ?_) (fun h3 => ?_))))
      · exact Pa_qB2 (ra_meets u 2) (fun r9 o9 h9 => Pa_some (Or.inr (Or.inr (Or.inl ⟨q, q2, by omega, h9.1, fun j => h9.2 2 j (by decide) (by decide), fun j => h9.2 3 j (by decide) (by decide)⟩))))
      refine Pa_qIn (fun hj => Pa_qNm (Pa_qNm (Pa_qIn (fun _ => Pa_qNm (Pa_some (Or.inr (Or.inr (Or.inr ⟨q, q2, by omega, rfl, fun j => ?_, fun j => ?_⟩))))))))
      · (try dsimp only)
        rw [st1_n (by decide), st1_n (by decide)]
      · (try dsimp only)
        rw [st1_s, st1_n (by decide)]
        by_cases q9 : j = (40 * x1 + x2).toNat
        · rw [if_pos q9, if_pos (by omega)]
        · rw [if_neg q9, if_neg (by omega)]
def EXO6 (o : OO) (x1 x2 x3 : Int) (b : Prop) (v : Int × OO) : Prop := (¬ (0 ≤ x1 ∧ x1 ≤ 3) ∧ v.1 = -1 ∧ (∀ j, v.2.1 5 j = o.1 5 j) ∧ ∀ j, v.2.1 6 j = o.1 6 j) ∨ ((0 ≤ x1 ∧ x1 ≤ 3) ∧ b ∧ v.1 = -3 ∧ (∀ j, v.2.1 5 j = o.1 5 j) ∧ ∀ j, v.2.1 6 j = o.1 6 j) ∨ ((0 ≤ x1 ∧ x1 ≤ 3) ∧ ¬ b ∧ ¬ (0 ≤ x2 ∧ x2 < o.1 5 x1.toNat) ∧ v.1 = -3 ∧ (∀ j, v.2.1 5 j = o.1 5 j) ∧ ∀ j, v.2.1 6 j = o.1 6 j) ∨ ((0 ≤ x1 ∧ x1 ≤ 3) ∧ ¬ b ∧ (0 ≤ x2 ∧ x2 < o.1 5 x1.toNat) ∧ v.1 = (o.1 6 (40 * x1 + x2).toNat + 1000) ∧ (∀ j, v.2.1 5 j = o.1 5 j) ∧ ∀ j : Nat, v.2.1 6 j = if (j : Int) = 40 * x1 + x2 then x3 else o.1 6 j)
theorem ra_put_C {o : OO} (hn : o.1 4 0 = 4) (x1 x2 x3 : Int) : Pa (s_X11_put o x1 x2 x3) (EXO6 o x1 x2 (jb x3) (o.1 5 x1.toNat = -1)) := by
  unfold s_X11_put
  refine Pa_qB (ra_exists__4 hn x1) (fun r hr => Pa_qEq (fun h => ?_) (fun h => ?_))
  · exact Pa_some (Or.inl ⟨by omega, rfl, fun _ => rfl, fun _ => rfl⟩)
  refine Pa_qB (ra_isThere__4 o x1) (fun r2 hr2 => Pa_qEq (fun h2 => ?_) (fun h2 => ?_))
  · exact Pa_qB2 (ra_found o 1) (fun r9 o9 h9 => Pa_some (Or.inr (Or.inl ⟨by omega, by omega, h9.1, fun j => h9.2 5 j (by decide) (by decide), fun j => h9.2 6 j (by decide) (by decide)⟩)))
  refine Pa_qB (ra_holds o x1 x2) (fun r3 hr3 => Pa_qEq (fun h3 => ?_) (fun h3 => ?_))
  · exact Pa_qB2 (ra_found o 2) (fun r9 o9 h9 => Pa_some (Or.inr (Or.inr (Or.inl ⟨by omega, by omega, by omega, h9.1, fun j => h9.2 5 j (by decide) (by decide), fun j => h9.2 6 j (by decide) (by decide)⟩))))
  refine Pa_qB2 (ra_exchange__4 o x1 x2 (jb x3)) (fun r9 o9 h9 => ?_)
  replace h9 : r9 = o.1 6 (40 * x1 + x2).toNat ∧ EX6 o (40 * x1 + x2) (jb x3) o9 := h9
  exact Pa_some (Or.inr (Or.inr (Or.inr ⟨by omega, by omega, by omega, by rw [h9.1], fun j => h9.2.2 5 j (by decide), h9.2.1⟩)))
theorem ra_put_M (o : OO) (x1 x2 x3 : Int) : Pa (s_X12_put o x1 x2 x3) (EXO6 o x1 x2 (jb x3) (o.1 5 x1.toNat < 0)) := by
  unfold s_X12_put
  refine Pa_qB2 (ra_askedText o x1) (fun r u hr => ?_)
  refine Pa_qLt (fun _ _ h => ?_) (fun _ _ h => ?_)
  · refine Pa_some ?_
    rcases hr with ⟨e, q, e2⟩ | ⟨e, q, q2, e2⟩ | ⟨e, q, q2, e2⟩
    · replace e : r = -1 := e
      replace e2 : u = o := e2
      subst e2
      exact Or.inl ⟨q, e, fun _ => rfl, fun _ => rfl⟩
    · replace e : r = -3 := e
      exact Or.inr (Or.inl ⟨q, q2, e, fun j => e2 5 j (by decide) (by decide), fun j => e2 6 j (by decide) (by decide)⟩)
    · replace e : r = 0 := e
      omega
  · rcases hr with ⟨e, q, e2⟩ | ⟨e, q, q2, e2⟩ | ⟨e, q, q2, e2⟩
    · replace e : r = -1 := e
      omega
    · replace e : r = -3 := e
      omega
    · replace e2 : u = o := e2
      subst e2
      refine Pa_qIn (fun hi => Pa_qNm (Pa_qB (ra_in x2 0 (u.1 5 x1.toNat - 1)) (fun r3 hr3 => Pa_qEq (fun h3 => ?_) (fun h3 => ?_))))
      · exact Pa_qB2 (ra_meets u 2) (fun r9 o9 h9 => Pa_some (Or.inr (Or.inr (Or.inl ⟨q, q2, by omega, h9.1, fun j => h9.2 5 j (by decide) (by decide), fun j => h9.2 6 j (by decide) (by decide)⟩))))
      refine Pa_qIn (fun hj => Pa_qNm (Pa_qIn (fun _ => Pa_qNm (Pa_some (Or.inr (Or.inr (Or.inr ⟨q, q2, by omega, rfl, fun j => ?_, fun j => ?_⟩)))))))
      · (try dsimp only)
        rw [st1_n (by decide)]
      · (try dsimp only)
        rw [st1_s]
        by_cases q9 : j = (40 * x1 + x2).toNat
        · rw [if_pos q9, if_pos (by omega)]
        · rw [if_neg q9, if_neg (by omega)]
/-- where copy stops: 0 bad, 1 the length, 2 nothing there, 3 beyond, 4 it copies -/
def CPW (s : Nat → Int) (b : Int → Prop) (x1 x2 x3 x4 x5 : Int) (k : Nat) : Prop :=
  (k = 0 ∧ ¬ ((0 ≤ x1 ∧ x1 ≤ 5) ∧ (0 ≤ x3 ∧ x3 ≤ 5))) ∨ (k = 1 ∧ ((0 ≤ x1 ∧ x1 ≤ 5) ∧ (0 ≤ x3 ∧ x3 ≤ 5)) ∧ x5 < 0) ∨ (k = 2 ∧ ((0 ≤ x1 ∧ x1 ≤ 5) ∧ (0 ≤ x3 ∧ x3 ≤ 5)) ∧ 0 ≤ x5 ∧ (b (s x1.toNat) ∨ b (s x3.toNat)))
  ∨ (k = 3 ∧ ((0 ≤ x1 ∧ x1 ≤ 5) ∧ (0 ≤ x3 ∧ x3 ≤ 5)) ∧ 0 ≤ x5 ∧ (¬ b (s x1.toNat) ∧ ¬ b (s x3.toNat)) ∧ ¬ ((0 ≤ x2 ∧ x2 + x5 ≤ s x1.toNat) ∧ (0 ≤ x4 ∧ x4 + x5 ≤ s x3.toNat)))
  ∨ (k = 4 ∧ ((0 ≤ x1 ∧ x1 ≤ 5) ∧ (0 ≤ x3 ∧ x3 ≤ 5)) ∧ 0 ≤ x5 ∧ (¬ b (s x1.toNat) ∧ ¬ b (s x3.toNat)) ∧ ((0 ≤ x2 ∧ x2 + x5 ≤ s x1.toNat) ∧ (0 ≤ x4 ∧ x4 + x5 ≤ s x3.toNat)))
def CPA (k : Nat) : Int := if k = 0 then -1 else if k = 4 then 1 else -3
def CPO (o : OO) (b : Int → Prop) (x1 x2 x3 x4 x5 : Int) (v : Int × OO) : Prop := ∃ k, CPW (o.1 2) b x1 x2 x3 x4 x5 k ∧ v.1 = CPA k ∧ (∀ j, v.2.1 2 j = o.1 2 j) ∧ ((¬ k = 4 ∧ ∀ j, v.2.1 3 j = o.1 3 j) ∨ (k = 4 ∧ ∀ j : Nat, v.2.1 3 j = if 40 * x3 + x4 ≤ (j : Int) ∧ (j : Int) < 40 * x3 + x4 + x5 then o.1 3 ((j : Int) - (40 * x3 + x4) + (40 * x1 + x2)).toNat else o.1 3 j))
theorem cpw0 {s : Nat → Int} {b : Int → Prop} {x1 x2 x3 x4 x5 : Int} (h : ¬ ((0 ≤ x1 ∧ x1 ≤ 5) ∧ (0 ≤ x3 ∧ x3 ≤ 5))) : CPW s b x1 x2 x3 x4 x5 0 := Or.inl ⟨rfl, h⟩
theorem cpw1 {s : Nat → Int} {b : Int → Prop} {x1 x2 x3 x4 x5 : Int} (h : (0 ≤ x1 ∧ x1 ≤ 5) ∧ (0 ≤ x3 ∧ x3 ≤ 5)) (h2 : x5 < 0) : CPW s b x1 x2 x3 x4 x5 1 := Or.inr (Or.inl ⟨rfl, h, h2⟩)
theorem cpw2 {s : Nat → Int} {b : Int → Prop} {x1 x2 x3 x4 x5 : Int} (h : (0 ≤ x1 ∧ x1 ≤ 5) ∧ (0 ≤ x3 ∧ x3 ≤ 5)) (h2 : 0 ≤ x5) (h3 : b (s x1.toNat) ∨ b (s x3.toNat)) : CPW s b x1 x2 x3 x4 x5 2 := Or.inr (Or.inr (Or.inl ⟨rfl, h, h2, h3⟩))
theorem cpw3 {s : Nat → Int} {b : Int → Prop} {x1 x2 x3 x4 x5 : Int} (h : (0 ≤ x1 ∧ x1 ≤ 5) ∧ (0 ≤ x3 ∧ x3 ≤ 5)) (h2 : 0 ≤ x5) (h3 : ¬ b (s x1.toNat) ∧ ¬ b (s x3.toNat)) (h4 : ¬ ((0 ≤ x2 ∧ x2 + x5 ≤ s x1.toNat) ∧ (0 ≤ x4 ∧ x4 + x5 ≤ s x3.toNat))) : CPW s b x1 x2 x3 x4 x5 3 := Or.inr (Or.inr (Or.inr (Or.inl ⟨rfl, h, h2, h3, h4⟩)))
theorem cpw4 {s : Nat → Int} {b : Int → Prop} {x1 x2 x3 x4 x5 : Int} (h : (0 ≤ x1 ∧ x1 ≤ 5) ∧ (0 ≤ x3 ∧ x3 ≤ 5)) (h2 : 0 ≤ x5) (h3 : ¬ b (s x1.toNat) ∧ ¬ b (s x3.toNat)) (h4 : (0 ≤ x2 ∧ x2 + x5 ≤ s x1.toNat) ∧ (0 ≤ x4 ∧ x4 + x5 ≤ s x3.toNat)) : CPW s b x1 x2 x3 x4 x5 4 := Or.inr (Or.inr (Or.inr (Or.inr ⟨rfl, h, h2, h3, h4⟩)))
theorem cpo_f {a c : Nat} {o : OO} {b : Int → Prop} {x1 x2 x3 x4 x5 : Int} {k : Nat} (hw : CPW (o.1 2) b x1 x2 x3 x4 x5 k) (h4 : ¬ k = 4) (h0 : ¬ k = 0) {r : Int} {u : OO} (h : FNG a c o (r, u)) (a1 : ¬ 2 = a ∧ ¬ 2 = c) (a2 : ¬ 3 = a ∧ ¬ 3 = c) : CPO o b x1 x2 x3 x4 x5 (r, u) :=
  ⟨k, hw, by unfold CPA; rw [if_neg h0, if_neg h4]; exact h.1, fun j => h.2 2 j a1.1 a1.2, Or.inl ⟨h4, fun j => h.2 3 j a2.1 a2.2⟩⟩
theorem ra_holdsFrom (o : OO) (x1 x2 x3 : Int) (h3 : 0 ≤ x3) : Pa (s_X8_holdsFrom o x1 x2 x3) (fun v => (v = 1 ∧ 0 ≤ x2 ∧ x2 + x3 ≤ o.1 2 x1.toNat) ∨ (v = 0 ∧ ¬ (0 ≤ x2 ∧ x2 + x3 ≤ o.1 2 x1.toNat))) := by
  unfold s_X8_holdsFrom b_X8_holdsFrom_20 b_X8_holdsFrom_21
  refine Pa_qLt (fun _ _ h => Pa_qZ (fun _ => Pa_some (Or.inr ⟨rfl, by omega⟩))) (fun _ _ h => Pa_qIn (fun _ => Pa_qNm (Pa_qLt (fun _ _ h2 => Pa_qZ (fun _ => Pa_some (Or.inr ⟨rfl, by omega⟩))) (fun _ _ h2 => Pa_qZ (fun _ => Pa_some (Or.inl ⟨rfl, by omega, by omega⟩))))))
theorem ra_copy_C {o : OO} (hn : o.1 1 0 = 6) (x1 x2 x3 x4 x5 : Int) : Pa (s_X11_copy o x1 x2 x3 x4 x5) (CPO o (fun z => z = -1) x1 x2 x3 x4 x5) := by
  unfold s_X11_copy b_X11_copy_22 b_X11_copy_57 b_X11_copy_92
  refine Pa_qB (ra_exists hn x1) (fun r hr => Pa_qEq (fun h => ?_) (fun h => ?_))
  · exact Pa_some ⟨0, cpw0 (by omega), rfl, fun _ => rfl, Or.inl ⟨by decide, fun _ => rfl⟩⟩
  refine Pa_qB (ra_exists hn x3) (fun r2 hr2 => Pa_qEq (fun h2 => ?_) (fun h2 => ?_))
  · exact Pa_some ⟨0, cpw0 (by omega), rfl, fun _ => rfl, Or.inl ⟨by decide, fun _ => rfl⟩⟩
  have hr_ : (0 ≤ x1 ∧ x1 ≤ 5) ∧ (0 ≤ x3 ∧ x3 ≤ 5) := by omega
  refine Pa_qLt (fun _ _ h3 => ?_) (fun _ _ h3 => ?_)
  · exact Pa_qB2 (ra_found o 5) (fun r9 o9 h9 => Pa_some (cpo_f (cpw1 hr_ h3) (by decide) (by decide) h9 (by decide) (by decide)))
  have h3 : 0 ≤ x5 := by omega
  refine Pa_qB (ra_isThere o x1) (fun r4 hr4 => Pa_qEq (fun h4 => ?_) (fun h4 => ?_))
  · exact Pa_qB2 (ra_found o 1) (fun r9 o9 h9 => Pa_some (cpo_f (cpw2 hr_ h3 (Or.inl (show o.1 2 x1.toNat = -1 by omega))) (by decide) (by decide) h9 (by decide) (by decide)))
  refine Pa_qB (ra_isThere o x3) (fun r5 hr5 => Pa_qEq (fun h5 => ?_) (fun h5 => ?_))
  · exact Pa_qB2 (ra_found o 1) (fun r9 o9 h9 => Pa_some (cpo_f (cpw2 hr_ h3 (Or.inr (show o.1 2 x3.toNat = -1 by omega))) (by decide) (by decide) h9 (by decide) (by decide)))
  have hb : ¬ (o.1 2 x1.toNat = -1) ∧ ¬ (o.1 2 x3.toNat = -1) := ⟨by omega, by omega⟩
  refine Pa_qB (ra_holdsFrom o x1 x2 x5 h3) (fun r6 hr6 => Pa_qEq (fun h6 => ?_) (fun h6 => ?_))
  · exact Pa_qB2 (ra_found o 2) (fun r9 o9 h9 => Pa_some (cpo_f (cpw3 hr_ h3 hb (by omega)) (by decide) (by decide) h9 (by decide) (by decide)))
  refine Pa_qB (ra_holdsFrom o x3 x4 x5 h3) (fun r7 hr7 => Pa_qEq (fun h7 => ?_) (fun h7 => ?_))
  · exact Pa_qB2 (ra_found o 2) (fun r9 o9 h9 => Pa_some (cpo_f (cpw3 hr_ h3 hb (by omega)) (by decide) (by decide) h9 (by decide) (by decide)))
  unfold s_X8_transfer
  refine Pa_qB (P := fun v => (0 ≤ x1 * 40 + x2 ∧ 0 ≤ x3 * 40 + x4) ∧ v = cpy1 o 3 (x1 * 40 + x2) (x3 * 40 + x4) x5) (Pa_qC (fun hc => Pa_qNm (Pa_some ⟨⟨hc.1, hc.2.1⟩, rfl⟩))) (fun u hu => Pa_some ⟨4, cpw4 hr_ h3 hb (by omega), rfl, fun j => ?_, Or.inr ⟨rfl, fun j => ?_⟩⟩)
  · show u.1 2 j = _
    rw [hu.2]
    rfl
  · show u.1 3 j = _
    rw [hu.2]
    show va_cpy (o.1 3) (o.1 3) (x1 * 40 + x2).toNat (x3 * 40 + x4).toNat x5.toNat j = _
    have g1 := hu.1.1
    have g2 := hu.1.2
    unfold va_cpy
    by_cases q : 40 * x3 + x4 ≤ (j : Int) ∧ (j : Int) < 40 * x3 + x4 + x5
    · rw [if_pos q, if_pos (by omega)]
      exact congrArg (o.1 3) (by omega)
    · rw [if_neg q, if_neg (by omega)]
theorem jl_sum2 {a b c : Int} (hc : inR c) (ha : inR a) (hb : inR b) (h : jl c < jl a + jl b) : c < a + b := by
  rw [Int64.lt_iff_toInt_lt, Int64.toInt_add, jl_to hc, jl_to ha, jl_to hb] at h
  obtain ⟨a1, a2⟩ := ha
  obtain ⟨b1, b2⟩ := hb
  have e : (a + b).bmod (2 ^ 64) = a + b := by
    apply Int.bmod_eq_of_le
    · show -(18446744073709551616 / 2) ≤ a + b
      omega
    · show a + b < (18446744073709551616 + 1) / 2
      omega
  rw [e] at h
  omega
theorem ra_copy_M {o : OO} (hbx : ∀ r, -9 ≤ o.1 2 r ∧ o.1 2 r ≤ 40) {x1 x2 x3 x4 x5 : Int} (g2 : inR x2) (g4 : inR x4) (g5 : inR x5) : Pa (s_X12_copy o x1 x2 x3 x4 x5) (CPO o (fun z => z < 0) x1 x2 x3 x4 x5) := by
  unfold s_X12_copy b_X12_copy_14 b_X12_copy_45 b_X12_copy_95
  refine Pa_qB (ra_isRow x1) (fun r hr => Pa_qEq (fun h => ?_) (fun h => ?_))
  · exact Pa_some ⟨0, cpw0 (by omega), rfl, fun _ => rfl, Or.inl ⟨by decide, fun _ => rfl⟩⟩
  refine Pa_qB (ra_isRow x3) (fun r2 hr2 => Pa_qEq (fun h2 => ?_) (fun h2 => ?_))
  · exact Pa_some ⟨0, cpw0 (by omega), rfl, fun _ => rfl, Or.inl ⟨by decide, fun _ => rfl⟩⟩
  have hr_ : (0 ≤ x1 ∧ x1 ≤ 5) ∧ (0 ≤ x3 ∧ x3 ≤ 5) := by omega
  refine Pa_qLt (fun _ _ h3 => ?_) (fun _ _ h3 => ?_)
  · exact Pa_qB2 (ra_meets o 5) (fun r9 o9 h9 => Pa_some (cpo_f (cpw1 hr_ h3) (by decide) (by decide) h9 (by decide) (by decide)))
  have h3 : 0 ≤ x5 := by omega
  refine Pa_qIn (fun i1 => Pa_qNm (Pa_qLt (fun _ _ h4 => ?_) (fun _ _ h4 => ?_)))
  · exact Pa_qB2 (ra_meets o 1) (fun r9 o9 h9 => Pa_some (cpo_f (cpw2 hr_ h3 (Or.inl h4)) (by decide) (by decide) h9 (by decide) (by decide)))
  refine Pa_qIn (fun i2 => Pa_qNm (Pa_qLt (fun _ _ h5 => ?_) (fun _ _ h5 => ?_)))
  · exact Pa_qB2 (ra_meets o 1) (fun r9 o9 h9 => Pa_some (cpo_f (cpw2 hr_ h3 (Or.inr h5)) (by decide) (by decide) h9 (by decide) (by decide)))
  have b1 := hbx x1.toNat
  have b3 := hbx x3.toNat
  have hb : ¬ (o.1 2 x1.toNat < 0) ∧ ¬ (o.1 2 x3.toNat < 0) := ⟨h4, h5⟩
  refine Pa_qLt (fun _ _ h6 => ?_) (fun _ _ h6 => ?_)
  · exact Pa_qB2 (ra_meets o 2) (fun r9 o9 h9 => Pa_some (cpo_f (cpw3 hr_ h3 hb (by omega)) (by decide) (by decide) h9 (by decide) (by decide)))
  refine Pa_qLt (fun _ _ h7 => ?_) (fun _ _ h7 => ?_)
  · exact Pa_qB2 (ra_meets o 2) (fun r9 o9 h9 => Pa_some (cpo_f (cpw3 hr_ h3 hb (by omega)) (by decide) (by decide) h9 (by decide) (by decide)))
  refine Pa_qIn (fun i3 => Pa_qNm (Pa_qJl (fun h8 => ?_) (fun h8 => ?_)))
  · have h8 := jl_sum2 (by exact ⟨by omega, by omega⟩) g2 g5 h8
    exact Pa_qB2 (ra_meets o 2) (fun r9 o9 h9 => Pa_some (cpo_f (cpw3 hr_ h3 hb (by omega)) (by decide) (by decide) h9 (by decide) (by decide)))
  have h8 := jl_sum (by exact ⟨by omega, by omega⟩) g2 g5 h8
  refine Pa_qIn (fun i4 => Pa_qNm (Pa_qJl (fun h9 => ?_) (fun h9 => ?_)))
  · have h9 := jl_sum2 (by exact ⟨by omega, by omega⟩) g4 g5 h9
    exact Pa_qB2 (ra_meets o 2) (fun r9 o9 h9 => Pa_some (cpo_f (cpw3 hr_ h3 hb (by omega)) (by decide) (by decide) h9 (by decide) (by decide)))
  have h9 := jl_sum (by exact ⟨by omega, by omega⟩) g4 g5 h9
  have hw := cpw4 (s := o.1 2) (b := fun z => z < 0) hr_ h3 hb (⟨⟨by omega, h8⟩, by omega, h9⟩)
  unfold e_X12_copy_104
  -- the first loop: what is moved
  refine Pa_qB (P := fun v => (∀ j : Nat, (j : Int) < x5 → v.1 4 j = o.1 3 (40 * x1 + x2 + (j : Int)).toNat) ∧ Sm 4 o v) ?_ (fun u hu => ?_)
  · refine Pa_loop (I := fun s => (0 ≤ s.2 ∧ s.2 ≤ x5) ∧ (∀ j : Nat, (j : Int) < s.2 → s.1.1 4 j = o.1 3 (40 * x1 + x2 + (j : Int)).toNat) ∧ Sm 4 o s.1) ⟨⟨by exact Int.le_refl _, h3⟩, fun j hj => absurd (show (j : Int) < 0 from hj) (by omega), fun _ _ _ => rfl⟩ (fun s hs => ?_)
    obtain ⟨u, i⟩ := s
    obtain ⟨⟨i1, i2⟩, i3, i4⟩ := hs
    replace i1 : 0 ≤ i := i1
    replace i2 : i ≤ x5 := i2
    replace i3 : ∀ j : Nat, (j : Int) < i → u.1 4 j = o.1 3 (40 * x1 + x2 + (j : Int)).toNat := i3
    replace i4 : Sm 4 o u := i4
    show Pa (l_X12_copy_104 x1 x2 x3 x4 x5 u i) _
    unfold l_X12_copy_104
    refine Pa_qLt (fun _ _ h => Pa_qNm (Pa_qIn (fun hi => Pa_qNm (Pa_qIn (fun hj => Pa_qNm (Pa_some ?_)))))) (fun _ _ h => Pa_some ?_)
    · show (0 ≤ i + 1 ∧ i + 1 ≤ x5) ∧ (∀ j : Nat, (j : Int) < i + 1 → (st1 u 4 i.toNat (u.1 3 (40 * x1 + x2 + i).toNat)).1 4 j = o.1 3 (40 * x1 + x2 + (j : Int)).toNat) ∧ Sm 4 o (st1 u 4 i.toNat (u.1 3 (40 * x1 + x2 + i).toNat))
      refine ⟨⟨by omega, by omega⟩, fun j hj => ?_, fun k j hk => by rw [st1_n hk]; exact i4 k j hk⟩
      rw [st1_s]
      by_cases q : j = i.toNat
      · rw [if_pos q, i4 3 _ (by decide)]
        exact congrArg (o.1 3) (by omega)
      · rw [if_neg q]
        exact i3 j (by omega)
    · show (∀ j : Nat, (j : Int) < x5 → u.1 4 j = o.1 3 (40 * x1 + x2 + (j : Int)).toNat) ∧ Sm 4 o u
      exact ⟨fun j hj => i3 j (by omega), i4⟩
  obtain ⟨hm, hs⟩ := hu
  unfold b_X12_copy_138 e_X12_copy_141
  have hX : ∀ w : OO, (∀ j : Nat, w.1 3 j = if 40 * x3 + x4 ≤ (j : Int) ∧ (j : Int) < 40 * x3 + x4 + x5 then o.1 3 ((j : Int) - (40 * x3 + x4) + (40 * x1 + x2)).toNat else o.1 3 j) ∧ Sm 3 u w → CPO o (fun z => z < 0) x1 x2 x3 x4 x5 (1, w) := fun w hw2 => ⟨4, hw, rfl, fun j => (hw2.2 2 j (by decide)).trans (hs 2 j (by decide)), Or.inr ⟨rfl, hw2.1⟩⟩
  refine Pa_qB (P := fun w => (∀ j : Nat, w.1 3 j = if 40 * x3 + x4 ≤ (j : Int) ∧ (j : Int) < 40 * x3 + x4 + x5 then o.1 3 ((j : Int) - (40 * x3 + x4) + (40 * x1 + x2)).toNat else o.1 3 j) ∧ Sm 3 u w) ?_ (fun w hw2 => by unfold b_X12_copy_176; exact Pa_some (hX w hw2))
  refine Pa_loop (I := fun s => (0 ≤ s.2 ∧ s.2 ≤ x5) ∧ (∀ j : Nat, s.1.1 3 j = if 40 * x3 + x4 ≤ (j : Int) ∧ (j : Int) < 40 * x3 + x4 + s.2 then o.1 3 ((j : Int) - (40 * x3 + x4) + (40 * x1 + x2)).toNat else o.1 3 j) ∧ Sm 3 u s.1) ⟨⟨by exact Int.le_refl _, h3⟩, fun j => ?_, fun _ _ _ => rfl⟩ (fun s hs2 => ?_)
  · show u.1 3 j = if 40 * x3 + x4 ≤ (j : Int) ∧ (j : Int) < 40 * x3 + x4 + 0 then _ else o.1 3 j
    rw [if_neg (by omega)]
    exact hs 3 j (by decide)
  obtain ⟨y, i⟩ := s
  obtain ⟨⟨i1, i2⟩, i3, i4⟩ := hs2
  replace i1 : 0 ≤ i := i1
  replace i2 : i ≤ x5 := i2
  replace i3 : ∀ j : Nat, y.1 3 j = if 40 * x3 + x4 ≤ (j : Int) ∧ (j : Int) < 40 * x3 + x4 + i then o.1 3 ((j : Int) - (40 * x3 + x4) + (40 * x1 + x2)).toNat else o.1 3 j := i3
  replace i4 : Sm 3 u y := i4
  show Pa (l_X12_copy_141 x3 x4 x5 y i) _
  unfold l_X12_copy_141
  refine Pa_qLt (fun _ _ h => Pa_qIn (fun hj => Pa_qNm (Pa_qIn (fun hi => Pa_qNm (Pa_some ?_))))) (fun _ _ h => Pa_some ?_)
  · show (0 ≤ i + 1 ∧ i + 1 ≤ x5) ∧ (∀ j : Nat, (st1 y 3 (40 * x3 + x4 + i).toNat (y.1 4 i.toNat)).1 3 j = if 40 * x3 + x4 ≤ (j : Int) ∧ (j : Int) < 40 * x3 + x4 + (i + 1) then o.1 3 ((j : Int) - (40 * x3 + x4) + (40 * x1 + x2)).toNat else o.1 3 j) ∧ Sm 3 u (st1 y 3 (40 * x3 + x4 + i).toNat (y.1 4 i.toNat))
    refine ⟨⟨by omega, by omega⟩, fun j => ?_, fun k j hk => by rw [st1_n hk]; exact i4 k j hk⟩
    rw [st1_s, i3 j]
    by_cases q : j = (40 * x3 + x4 + i).toNat
    · rw [if_pos q, if_pos (by omega), i4 4 _ (by decide), hm _ (by omega)]
      exact congrArg (o.1 3) (by omega)
    · rw [if_neg q]
      by_cases q2 : 40 * x3 + x4 ≤ (j : Int) ∧ (j : Int) < 40 * x3 + x4 + i
      · rw [if_pos q2, if_pos (by omega)]
      · rw [if_neg q2, if_neg (by omega)]
  · show (∀ j : Nat, y.1 3 j = if 40 * x3 + x4 ≤ (j : Int) ∧ (j : Int) < 40 * x3 + x4 + x5 then o.1 3 ((j : Int) - (40 * x3 + x4) + (40 * x1 + x2)).toNat else o.1 3 j) ∧ Sm 3 u y
    have e : i = x5 := by omega
    rw [e] at i3
    exact ⟨i3, i4⟩
