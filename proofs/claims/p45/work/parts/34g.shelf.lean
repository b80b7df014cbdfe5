-- ---------- small calls
theorem ra_in (x0 x1 x2 : Int) : Pa (s_X12_in x0 x1 x2) (fun v => (v = 1 ∧ x1 ≤ x0 ∧ x0 ≤ x2) ∨ (v = 0 ∧ ¬ (x1 ≤ x0 ∧ x0 ≤ x2))) := by
  unfold s_X12_in b_X12_in_14 b_X12_in_15
  refine Pa_qLt (fun _ _ h => Pa_qZ (fun _ => Pa_some (Or.inr ⟨rfl, by omega⟩))) (fun _ _ h => Pa_qLt (fun _ _ h2 => Pa_qZ (fun _ => Pa_some (Or.inr ⟨rfl, by omega⟩))) (fun _ _ h2 => Pa_qZ (fun _ => Pa_some (Or.inl ⟨rfl, by omega, by omega⟩))))
theorem ra_isRow (x0 : Int) : Pa (s_X12_isRow x0) (fun v => (v = 1 ∧ 0 ≤ x0 ∧ x0 ≤ 5) ∨ (v = 0 ∧ ¬ (0 ≤ x0 ∧ x0 ≤ 5))) := by
  unfold s_X12_isRow
  exact Pa_qB (ra_in x0 0 5) (fun r hr => Pa_qZ (fun _ => Pa_some hr))
theorem ra_isText (x0 : Int) : Pa (s_X12_isText x0) (fun v => (v = 1 ∧ 0 ≤ x0 ∧ x0 ≤ 3) ∨ (v = 0 ∧ ¬ (0 ≤ x0 ∧ x0 ≤ 3))) := by
  unfold s_X12_isText
  exact Pa_qB (ra_in x0 0 3) (fun r hr => Pa_qZ (fun _ => Pa_some hr))
/-- a FINDING is told: nothing but what speaks of findings changes -/
def FNG (a b : Nat) (o : OO) (v : Int × OO) : Prop := v.1 = -3 ∧ ∀ k j, ¬ k = a → ¬ k = b → v.2.1 k j = o.1 k j
theorem ra_meets (o : OO) (x1 : Int) : Pa (s_X12_meets o x1) (FNG 0 1 o) := by
  unfold s_X12_meets
  refine Pa_qNm (Pa_qIn (fun _ => Pa_qNm (Pa_qIn (fun _ => Pa_qNm (Pa_some ⟨rfl, fun k j h0 h1 => ?_⟩)))))
  (try dsimp only)
  rw [st1_n h1, st1_n h0]
theorem ra_found (o : OO) (x1 : Int) : Pa (s_X11_found o x1) (FNG 0 77 o) := by
  unfold s_X11_found
  refine Pa_qNm (Pa_qIn (fun _ => Pa_qNm (Pa_qIn (fun _ => Pa_qNm (Pa_some ⟨rfl, fun k j h0 h1 => ?_⟩)))))
  (try dsimp only)
  rw [st1_n h1, st1_n h0]
theorem ra_rangeCheck (x0 x1 x2 : Int) : Pa (s_J7_rangeCheck_23922 x0 x1 x2) (fun _ => 0 ≤ x1 ∧ x1 ≤ x2 ∧ x2 ≤ x0) := by
  unfold s_J7_rangeCheck_23922
  refine Pa_qLt (fun _ _ _ => Pa_none) (fun _ _ h1 => Pa_qLt (fun _ _ _ => Pa_none) (fun _ _ h2 => Pa_qLt (fun _ _ _ => Pa_none) (fun _ _ h3 => Pa_some ⟨by omega, by omega, by omega⟩)))
theorem ra_fill (o : OO) (x1 x2 x3 : Int) : Pa (s_J7_fill_fda19 o x1 x2 x3) (fun v => FL 3 o v x1 x2 x3) := by
  unfold s_J7_fill_fda19
  refine Pa_qB (ra_rangeCheck _ x1 x2) (fun _ hr => ?_)
  unfold e_J7_fill_fda19_10
  refine Pa_qB (P := fun v => FL 3 o v x1 x2 x3) ?_ (fun r hr => by unfold b_J7_fill_fda19_27; exact Pa_some hr)
  refine Pa_loop (I := fun s => (x1 ≤ s.2 ∧ s.2 ≤ x2) ∧ FL 3 o s.1 x1 s.2 x3) ⟨⟨by exact Int.le_refl _, hr.2.1⟩, FL_0⟩ (fun s hs => ?_)
  obtain ⟨u, i⟩ := s
  obtain ⟨⟨i1, i2⟩, i3⟩ := hs
  replace i1 : x1 ≤ i := i1
  replace i2 : i ≤ x2 := i2
  replace i3 : FL 3 o u x1 i x3 := i3
  show Pa (l_J7_fill_fda19_10 x2 x3 u i) _
  unfold l_J7_fill_fda19_10
  refine Pa_qLt (fun _ _ h => Pa_qIn (fun hi => Pa_qNm (Pa_some ?_))) (fun _ _ h => Pa_some ?_)
  · show (x1 ≤ i + 1 ∧ i + 1 ≤ x2) ∧ FL 3 o (st1 u 3 i.toNat x3) x1 (i + 1) x3
    exact ⟨⟨by omega, by omega⟩, FL_s i3 hi.1 i1⟩
  · show FL 3 o u x1 x2 x3
    have e : i = x2 := by omega
    rw [← e]
    exact i3
theorem ra_fill__6 (o : OO) (x1 x2 x3 : Int) : Pa (s_J7_fill_fda19__6 o x1 x2 x3) (fun v => FL 6 o v x1 x2 x3) := by
  unfold s_J7_fill_fda19__6
  refine Pa_qB (ra_rangeCheck _ x1 x2) (fun _ hr => ?_)
  unfold e_J7_fill_fda19__6_10
  refine Pa_qB (P := fun v => FL 6 o v x1 x2 x3) ?_ (fun r hr => by unfold b_J7_fill_fda19__6_27; exact Pa_some hr)
  refine Pa_loop (I := fun s => (x1 ≤ s.2 ∧ s.2 ≤ x2) ∧ FL 6 o s.1 x1 s.2 x3) ⟨⟨by exact Int.le_refl _, hr.2.1⟩, FL_0⟩ (fun s hs => ?_)
  obtain ⟨u, i⟩ := s
  obtain ⟨⟨i1, i2⟩, i3⟩ := hs
  replace i1 : x1 ≤ i := i1
  replace i2 : i ≤ x2 := i2
  replace i3 : FL 6 o u x1 i x3 := i3
  show Pa (l_J7_fill_fda19__6_10 x2 x3 u i) _
  unfold l_J7_fill_fda19__6_10
  refine Pa_qLt (fun _ _ h => Pa_qIn (fun hi => Pa_qNm (Pa_some ?_))) (fun _ _ h => Pa_some ?_)
  · show (x1 ≤ i + 1 ∧ i + 1 ≤ x2) ∧ FL 6 o (st1 u 6 i.toNat x3) x1 (i + 1) x3
    exact ⟨⟨by omega, by omega⟩, FL_s i3 hi.1 i1⟩
  · show FL 6 o u x1 x2 x3
    have e : i = x2 := by omega
    rw [← e]
    exact i3
theorem ra_fill__31 (o : OO) (x1 x2 x3 : Int) : Pa (s_J7_fill_fda19__31 o x1 x2 x3) (fun v => FL 31 o v x1 x2 x3) := by
  unfold s_J7_fill_fda19__31
  refine Pa_qB (ra_rangeCheck _ x1 x2) (fun _ hr => ?_)
  unfold e_J7_fill_fda19__31_10
  refine Pa_qB (P := fun v => FL 31 o v x1 x2 x3) ?_ (fun r hr => by unfold b_J7_fill_fda19__31_27; exact Pa_some hr)
  refine Pa_loop (I := fun s => (x1 ≤ s.2 ∧ s.2 ≤ x2) ∧ FL 31 o s.1 x1 s.2 x3) ⟨⟨by exact Int.le_refl _, hr.2.1⟩, FL_0⟩ (fun s hs => ?_)
  obtain ⟨u, i⟩ := s
  obtain ⟨⟨i1, i2⟩, i3⟩ := hs
  replace i1 : x1 ≤ i := i1
  replace i2 : i ≤ x2 := i2
  replace i3 : FL 31 o u x1 i x3 := i3
  show Pa (l_J7_fill_fda19__31_10 x2 x3 u i) _
  unfold l_J7_fill_fda19__31_10
  refine Pa_qLt (fun _ _ h => Pa_qIn (fun hi => Pa_qNm (Pa_some ?_))) (fun _ _ h => Pa_some ?_)
  · show (x1 ≤ i + 1 ∧ i + 1 ≤ x2) ∧ FL 31 o (st1 u 31 i.toNat x3) x1 (i + 1) x3
    exact ⟨⟨by omega, by omega⟩, FL_s i3 hi.1 i1⟩
  · show FL 31 o u x1 x2 x3
    have e : i = x2 := by omega
    rw [← e]
    exact i3
theorem ra_exists {o : OO} {n : Int} (hn : o.1 1 0 = n) (x1 : Int) : Pa (s_X8_exists o x1) (fun v => (v = 1 ∧ 0 ≤ x1 ∧ x1 < n) ∨ (v = 0 ∧ ¬ (0 ≤ x1 ∧ x1 < n))) := by
  subst hn
  unfold s_X8_exists b_X8_exists_16 b_X8_exists_17
  refine Pa_qLt (fun _ _ h => Pa_qZ (fun _ => Pa_some (Or.inr ⟨rfl, by omega⟩))) (fun _ _ h => Pa_qLt (fun _ _ h2 => Pa_qZ (fun _ => Pa_some (Or.inl ⟨rfl, by omega, by omega⟩))) (fun _ _ h2 => Pa_qZ (fun _ => Pa_some (Or.inr ⟨rfl, by omega⟩))))
theorem ra_isThere (o : OO) (x1 : Int) : Pa (s_X8_isThere o x1) (fun v => (v = 0 ∧ o.1 2 x1.toNat = -1) ∨ (v = 1 ∧ ¬ o.1 2 x1.toNat = -1)) := by
  unfold s_X8_isThere b_X8_isThere_15
  exact Pa_qIn (fun _ => Pa_qNm (Pa_qEq (fun h => Pa_qZ (fun _ => Pa_some (Or.inl ⟨rfl, h⟩))) (fun h => Pa_qZ (fun _ => Pa_some (Or.inr ⟨rfl, h⟩)))))
theorem ra_exists__4 {o : OO} {n : Int} (hn : o.1 4 0 = n) (x1 : Int) : Pa (s_X8_exists__4 o x1) (fun v => (v = 1 ∧ 0 ≤ x1 ∧ x1 < n) ∨ (v = 0 ∧ ¬ (0 ≤ x1 ∧ x1 < n))) := by
  subst hn
  unfold s_X8_exists__4 b_X8_exists__4_16 b_X8_exists__4_17
  refine Pa_qLt (fun _ _ h => Pa_qZ (fun _ => Pa_some (Or.inr ⟨rfl, by omega⟩))) (fun _ _ h => Pa_qLt (fun _ _ h2 => Pa_qZ (fun _ => Pa_some (Or.inl ⟨rfl, by omega, by omega⟩))) (fun _ _ h2 => Pa_qZ (fun _ => Pa_some (Or.inr ⟨rfl, by omega⟩))))
theorem ra_isThere__4 (o : OO) (x1 : Int) : Pa (s_X8_isThere__4 o x1) (fun v => (v = 0 ∧ o.1 5 x1.toNat = -1) ∨ (v = 1 ∧ ¬ o.1 5 x1.toNat = -1)) := by
  unfold s_X8_isThere__4 b_X8_isThere__4_15
  exact Pa_qIn (fun _ => Pa_qNm (Pa_qEq (fun h => Pa_qZ (fun _ => Pa_some (Or.inl ⟨rfl, h⟩))) (fun h => Pa_qZ (fun _ => Pa_some (Or.inr ⟨rfl, h⟩)))))
theorem ra_holds__1 (o : OO) (x1 x2 : Int) : Pa (s_X8_holds__1 o x1 x2) (fun v => (v = 1 ∧ 0 ≤ x2 ∧ x2 < o.1 2 x1.toNat) ∨ (v = 0 ∧ ¬ (0 ≤ x2 ∧ x2 < o.1 2 x1.toNat))) := by
  unfold s_X8_holds__1 b_X8_holds__1_18 b_X8_holds__1_19
  refine Pa_qLt (fun _ _ h => Pa_qZ (fun _ => Pa_some (Or.inr ⟨rfl, by omega⟩))) (fun _ _ h => Pa_qIn (fun _ => Pa_qNm (Pa_qLt (fun _ _ h2 => Pa_qZ (fun _ => Pa_some (Or.inl ⟨rfl, by omega, h2⟩))) (fun _ _ h2 => Pa_qZ (fun _ => Pa_some (Or.inr ⟨rfl, by omega⟩))))))
theorem ra_holds (o : OO) (x1 x2 : Int) : Pa (s_X8_holds o x1 x2) (fun v => (v = 1 ∧ 0 ≤ x2 ∧ x2 < o.1 5 x1.toNat) ∨ (v = 0 ∧ ¬ (0 ≤ x2 ∧ x2 < o.1 5 x1.toNat))) := by
  unfold s_X8_holds b_X8_holds_18 b_X8_holds_19
  refine Pa_qLt (fun _ _ h => Pa_qZ (fun _ => Pa_some (Or.inr ⟨rfl, by omega⟩))) (fun _ _ h => Pa_qIn (fun _ => Pa_qNm (Pa_qLt (fun _ _ h2 => Pa_qZ (fun _ => Pa_some (Or.inl ⟨rfl, by omega, h2⟩))) (fun _ _ h2 => Pa_qZ (fun _ => Pa_some (Or.inr ⟨rfl, by omega⟩))))))
/-- one place of the cell c is told anew -/
def EX3 (o : OO) (i x : Int) (v : OO) : Prop := (∀ j : Nat, v.1 3 j = if (j : Int) = i then x else o.1 3 j) ∧ Sm 3 o v
theorem ra_exchange (o : OO) (x1 x2 x3 : Int) : Pa (s_X8_exchange o x1 x2 x3) (fun v => v.1 = o.1 3 (40 * x1 + x2).toNat ∧ EX3 o (40 * x1 + x2) x3 v.2) := by
  unfold s_X8_exchange
  refine Pa_qIn (fun hi => Pa_qNm (Pa_qIn (fun _ => Pa_qNm (Pa_some ⟨by rw [Int.mul_comm 40 x1], fun j => ?_, fun k j hk => ?_⟩))))
  · (try dsimp only)
    rw [st1_s]
    by_cases q : j = (x1 * 40 + x2).toNat
    · rw [if_pos q, if_pos (by omega)]
    · rw [if_neg q, if_neg (by omega)]
  · (try dsimp only)
    rw [st1_n hk]
/-- a ROW or TEXT is laid out -/
def LO3 (o : OO) (x1 x2 w b : Int) (v : OO) : Prop := (∀ j : Nat, v.1 2 j = if (j : Int) = x1 then x2 else o.1 2 j) ∧ ∀ j : Nat, v.1 3 j = if 40 * x1 ≤ (j : Int) ∧ (j : Int) < 40 * x1 + w then b else o.1 3 j
theorem ra_layOut {o : OO} {b : Int} (hb : o.1 1 1 = b) (x1 x2 : Int) : Pa (s_X8_layOut o x1 x2) (fun v => LO3 o x1 x2 x2 b v) := by
  unfold s_X8_layOut
  refine Pa_qIn (fun hi => Pa_qNm (Pa_qB (ra_fill _ _ _ _) (fun r hr => Pa_some ?_)))
  replace hr : FL 3 (st1 o 2 x1.toNat x2) r (x1 * 40) (x1 * 40 + x2) (o.1 1 1) := hr
  refine ⟨fun j => ?_, fun j => ?_⟩
  · rw [hr.2 2 j (by decide), st1_s]
    by_cases q : j = x1.toNat
    · rw [if_pos q, if_pos (by omega)]
    · rw [if_neg q, if_neg (by omega)]
  · rw [hr.1 j, st1_n (by decide), hb]
    by_cases q : x1 * 40 ≤ (j : Int) ∧ (j : Int) < x1 * 40 + x2
    · rw [if_pos q, if_pos (by omega)]
    · rw [if_neg q, if_neg (by omega)]
/-- one place of the cell c is told anew -/
def EX6 (o : OO) (i x : Int) (v : OO) : Prop := (∀ j : Nat, v.1 6 j = if (j : Int) = i then x else o.1 6 j) ∧ Sm 6 o v
theorem ra_exchange__4 (o : OO) (x1 x2 x3 : Int) : Pa (s_X8_exchange__4 o x1 x2 x3) (fun v => v.1 = o.1 6 (40 * x1 + x2).toNat ∧ EX6 o (40 * x1 + x2) x3 v.2) := by
  unfold s_X8_exchange__4
  refine Pa_qIn (fun hi => Pa_qNm (Pa_qIn (fun _ => Pa_qNm (Pa_some ⟨by rw [Int.mul_comm 40 x1], fun j => ?_, fun k j hk => ?_⟩))))
  · (try dsimp only)
    rw [st1_s]
    by_cases q : j = (x1 * 40 + x2).toNat
    · rw [if_pos q, if_pos (by omega)]
    · rw [if_neg q, if_neg (by omega)]
  · (try dsimp only)
    rw [st1_n hk]
/-- a ROW or TEXT is laid out -/
def LO6 (o : OO) (x1 x2 w b : Int) (v : OO) : Prop := (∀ j : Nat, v.1 5 j = if (j : Int) = x1 then x2 else o.1 5 j) ∧ ∀ j : Nat, v.1 6 j = if 40 * x1 ≤ (j : Int) ∧ (j : Int) < 40 * x1 + w then b else o.1 6 j
theorem ra_layOut__4 {o : OO} {b : Int} (hb : o.1 4 1 = b) (x1 x2 : Int) : Pa (s_X8_layOut__4 o x1 x2) (fun v => LO6 o x1 x2 x2 b v) := by
  unfold s_X8_layOut__4
  refine Pa_qIn (fun hi => Pa_qNm (Pa_qB (ra_fill__6 _ _ _ _) (fun r hr => Pa_some ?_)))
  replace hr : FL 6 (st1 o 5 x1.toNat x2) r (x1 * 40) (x1 * 40 + x2) (o.1 4 1) := hr
  refine ⟨fun j => ?_, fun j => ?_⟩
  · rw [hr.2 5 j (by decide), st1_s]
    by_cases q : j = x1.toNat
    · rw [if_pos q, if_pos (by omega)]
    · rw [if_neg q, if_neg (by omega)]
  · rw [hr.1 j, st1_n (by decide), hb]
    by_cases q : x1 * 40 ≤ (j : Int) ∧ (j : Int) < x1 * 40 + x2
    · rw [if_pos q, if_pos (by omega)]
    · rw [if_neg q, if_neg (by omega)]
def OKR (x1 x2 m : Int) : Prop := 0 ≤ x1 ∧ x1 ≤ m ∧ 0 ≤ x2 ∧ x2 ≤ 40
/-- what row and text answer -/
def LYA (x1 x2 m : Int) : Int := if 0 ≤ x1 ∧ x1 ≤ m ∧ x2 ≤ 40 then (if x2 < 0 then -3 else x2) else -1
theorem lya_bad {x1 x2 m : Int} (h : ¬ (0 ≤ x1 ∧ x1 ≤ m ∧ x2 ≤ 40)) : LYA x1 x2 m = -1 := by unfold LYA; rw [if_neg h]
theorem lya_neg {x1 x2 m : Int} (h : 0 ≤ x1 ∧ x1 ≤ m ∧ x2 ≤ 40) (h2 : x2 < 0) : LYA x1 x2 m = -3 := by unfold LYA; rw [if_pos h, if_pos h2]
theorem lya_ok {x1 x2 m : Int} (h : OKR x1 x2 m) : LYA x1 x2 m = x2 := by unfold LYA; rw [if_pos ⟨h.1, h.2.1, h.2.2.2⟩, if_neg (by have := h.2.2.1; omega)]
def LYO3 (o : OO) (x1 x2 w : Int) (v : Int × OO) : Prop := v.1 = LYA x1 x2 5 ∧ ((¬ OKR x1 x2 5 ∧ (∀ j, v.2.1 2 j = o.1 2 j) ∧ ∀ j, v.2.1 3 j = o.1 3 j) ∨ (OKR x1 x2 5 ∧ LO3 o x1 x2 w 0 v.2))
theorem ra_row_C {o : OO} (hn : o.1 1 0 = 6) (hb : o.1 1 1 = 0) (x1 x2 : Int) : Pa (s_X11_row o x1 x2) (LYO3 o x1 x2 x2) := by
  unfold s_X11_row b_X11_row_17
  refine Pa_qB (ra_exists hn x1) (fun r hr => Pa_qEq (fun h => ?_) (fun h => ?_))
  · exact Pa_some ⟨(lya_bad (by omega)).symm, Or.inl ⟨fun q => by have := q.1; have := q.2.1; omega, fun _ => rfl, fun _ => rfl⟩⟩
  refine Pa_qLt (fun _ _ h2 => ?_) (fun _ _ h2 => ?_)
  · exact Pa_some ⟨(lya_bad (by omega)).symm, Or.inl ⟨fun q => by have := q.2.2.2; omega, fun _ => rfl, fun _ => rfl⟩⟩
  refine Pa_qLt (fun _ _ h3 => ?_) (fun _ _ h3 => ?_)
  · refine Pa_qB2 (ra_found o 5) (fun r9 o9 h9 => Pa_some ⟨h9.1.trans (lya_neg (by omega) h3).symm, Or.inl ⟨fun q => by have := q.2.2.1; omega, fun j => h9.2 2 j (by decide) (by decide), fun j => h9.2 3 j (by decide) (by decide)⟩⟩)
  · have ok : OKR x1 x2 5 := ⟨by omega, by omega, by omega, by omega⟩
    exact Pa_qB (ra_layOut hb x1 x2) (fun r9 h9 => Pa_some ⟨(lya_ok ok).symm, Or.inr ⟨ok, h9⟩⟩)
theorem ra_row_M (o : OO) (x1 x2 : Int) : Pa (s_X12_row o x1 x2) (LYO3 o x1 x2 40) := by
  unfold s_X12_row b_X12_row_13
  refine Pa_qB (ra_isRow x1) (fun r hr => Pa_qEq (fun h => ?_) (fun h => ?_))
  · exact Pa_some ⟨(lya_bad (by omega)).symm, Or.inl ⟨fun q => by have := q.1; have := q.2.1; omega, fun _ => rfl, fun _ => rfl⟩⟩
  refine Pa_qLt (fun _ _ h2 => ?_) (fun _ _ h2 => ?_)
  · exact Pa_some ⟨(lya_bad (by omega)).symm, Or.inl ⟨fun q => by have := q.2.2.2; omega, fun _ => rfl, fun _ => rfl⟩⟩
  refine Pa_qLt (fun _ _ h3 => ?_) (fun _ _ h3 => ?_)
  · refine Pa_qB2 (ra_meets o 5) (fun r9 o9 h9 => Pa_some ⟨h9.1.trans (lya_neg (by omega) h3).symm, Or.inl ⟨fun q => by have := q.2.2.1; omega, fun j => h9.2 2 j (by decide) (by decide), fun j => h9.2 3 j (by decide) (by decide)⟩⟩)
  refine Pa_qIn (fun hi => Pa_qNm ?_)
  have ok : OKR x1 x2 5 := ⟨by omega, by omega, by omega, by omega⟩
  unfold e_X12_row_34
  refine Pa_qB (P := fun v => FL 3 (st1 o 2 x1.toNat x2) v (40 * x1) (40 * x1 + 40) 0) ?_ (fun r9 h9 => ?_)
  · refine Pa_loop (I := fun s => (0 ≤ s.2 ∧ s.2 ≤ 40) ∧ FL 3 (st1 o 2 x1.toNat x2) s.1 (40 * x1) (40 * x1 + s.2) 0) ⟨⟨show (0 : Int) ≤ 0 by decide, show (0 : Int) ≤ 40 by decide⟩, by rw [Int.add_zero]; exact FL_0⟩ (fun s hs => ?_)
    obtain ⟨u, i⟩ := s
    obtain ⟨⟨i1, i2⟩, i3⟩ := hs
    replace i1 : 0 ≤ i := i1
    replace i2 : i ≤ 40 := i2
    replace i3 : FL 3 (st1 o 2 x1.toNat x2) u (40 * x1) (40 * x1 + i) 0 := i3
    show Pa (l_X12_row_34 x1 x2 u i) _
    unfold l_X12_row_34
    refine Pa_qLt (fun _ _ h => Pa_qIn (fun hi => Pa_qNm (Pa_some ?_))) (fun _ _ h => Pa_some ?_)
    · show (0 ≤ i + 1 ∧ i + 1 ≤ 40) ∧ FL 3 (st1 o 2 x1.toNat x2) (st1 u 3 (40 * x1 + i).toNat 0) (40 * x1) (40 * x1 + (i + 1)) 0
      refine ⟨⟨by omega, by omega⟩, ?_⟩
      rw [← Int.add_assoc]
      exact FL_s i3 hi.1 (by omega)
    · show FL 3 (st1 o 2 x1.toNat x2) u (40 * x1) (40 * x1 + 40) 0
      have e : i = 40 := by omega
      rw [e] at i3
      exact i3
  · unfold b_X12_row_58
    refine Pa_some ⟨(lya_ok ok).symm, Or.inr ⟨ok, fun j => ?_, fun j => ?_⟩⟩
    · show r9.1 2 j = _
      rw [h9.2 2 j (by decide), st1_s]
      by_cases q : j = x1.toNat
      · rw [if_pos q, if_pos (by omega)]
      · rw [if_neg q, if_neg (by omega)]
    · show r9.1 3 j = _
      rw [h9.1 j, st1_n (by decide)]
def LYO6 (o : OO) (x1 x2 w : Int) (v : Int × OO) : Prop := v.1 = LYA x1 x2 3 ∧ ((¬ OKR x1 x2 3 ∧ (∀ j, v.2.1 5 j = o.1 5 j) ∧ ∀ j, v.2.1 6 j = o.1 6 j) ∨ (OKR x1 x2 3 ∧ LO6 o x1 x2 w 32 v.2))
theorem ra_text_C {o : OO} (hn : o.1 4 0 = 4) (hb : o.1 4 1 = 32) (x1 x2 : Int) : Pa (s_X11_text o x1 x2) (LYO6 o x1 x2 x2) := by
  unfold s_X11_text b_X11_text_17
  refine Pa_qB (ra_exists__4 hn x1) (fun r hr => Pa_qEq (fun h => ?_) (fun h => ?_))
  · exact Pa_some ⟨(lya_bad (by omega)).symm, Or.inl ⟨fun q => by have := q.1; have := q.2.1; omega, fun _ => rfl, fun _ => rfl⟩⟩
  refine Pa_qLt (fun _ _ h2 => ?_) (fun _ _ h2 => ?_)
  · exact Pa_some ⟨(lya_bad (by omega)).symm, Or.inl ⟨fun q => by have := q.2.2.2; omega, fun _ => rfl, fun _ => rfl⟩⟩
  refine Pa_qLt (fun _ _ h3 => ?_) (fun _ _ h3 => ?_)
  · refine Pa_qB2 (ra_found o 5) (fun r9 o9 h9 => Pa_some ⟨h9.1.trans (lya_neg (by omega) h3).symm, Or.inl ⟨fun q => by have := q.2.2.1; omega, fun j => h9.2 5 j (by decide) (by decide), fun j => h9.2 6 j (by decide) (by decide)⟩⟩)
  · have ok : OKR x1 x2 3 := ⟨by omega, by omega, by omega, by omega⟩
    exact Pa_qB (ra_layOut__4 hb x1 x2) (fun r9 h9 => Pa_some ⟨(lya_ok ok).symm, Or.inr ⟨ok, h9⟩⟩)
theorem ra_text_M (o : OO) (x1 x2 : Int) : Pa (s_X12_text o x1 x2) (LYO6 o x1 x2 40) := by
  unfold s_X12_text b_X12_text_13
  refine Pa_qB (ra_isText x1) (fun r hr => Pa_qEq (fun h => ?_) (fun h => ?_))
  · exact Pa_some ⟨(lya_bad (by omega)).symm, Or.inl ⟨fun q => by have := q.1; have := q.2.1; omega, fun _ => rfl, fun _ => rfl⟩⟩
  refine Pa_qLt (fun _ _ h2 => ?_) (fun _ _ h2 => ?_)
  · exact Pa_some ⟨(lya_bad (by omega)).symm, Or.inl ⟨fun q => by have := q.2.2.2; omega, fun _ => rfl, fun _ => rfl⟩⟩
  refine Pa_qLt (fun _ _ h3 => ?_) (fun _ _ h3 => ?_)
  · refine Pa_qB2 (ra_meets o 5) (fun r9 o9 h9 => Pa_some ⟨h9.1.trans (lya_neg (by omega) h3).symm, Or.inl ⟨fun q => by have := q.2.2.1; omega, fun j => h9.2 5 j (by decide) (by decide), fun j => h9.2 6 j (by decide) (by decide)⟩⟩)
  refine Pa_qIn (fun hi => Pa_qNm ?_)
  have ok : OKR x1 x2 3 := ⟨by omega, by omega, by omega, by omega⟩
  unfold e_X12_text_34
  refine Pa_qB (P := fun v => FL 6 (st1 o 5 x1.toNat x2) v (40 * x1) (40 * x1 + 40) 32) ?_ (fun r9 h9 => ?_)
  · refine Pa_loop (I := fun s => (0 ≤ s.2 ∧ s.2 ≤ 40) ∧ FL 6 (st1 o 5 x1.toNat x2) s.1 (40 * x1) (40 * x1 + s.2) 32) ⟨⟨show (0 : Int) ≤ 0 by decide, show (0 : Int) ≤ 40 by decide⟩, by rw [Int.add_zero]; exact FL_0⟩ (fun s hs => ?_)
    obtain ⟨u, i⟩ := s
    obtain ⟨⟨i1, i2⟩, i3⟩ := hs
    replace i1 : 0 ≤ i := i1
    replace i2 : i ≤ 40 := i2
    replace i3 : FL 6 (st1 o 5 x1.toNat x2) u (40 * x1) (40 * x1 + i) 32 := i3
    show Pa (l_X12_text_34 x1 x2 u i) _
    unfold l_X12_text_34
    refine Pa_qLt (fun _ _ h => Pa_qIn (fun hi => Pa_qNm (Pa_some ?_))) (fun _ _ h => Pa_some ?_)
    · show (0 ≤ i + 1 ∧ i + 1 ≤ 40) ∧ FL 6 (st1 o 5 x1.toNat x2) (st1 u 6 (40 * x1 + i).toNat 32) (40 * x1) (40 * x1 + (i + 1)) 32
      refine ⟨⟨by omega, by omega⟩, ?_⟩
      rw [← Int.add_assoc]
      exact FL_s i3 hi.1 (by omega)
    · show FL 6 (st1 o 5 x1.toNat x2) u (40 * x1) (40 * x1 + 40) 32
      have e : i = 40 := by omega
      rw [e] at i3
      exact i3
  · unfold b_X12_text_59
    refine Pa_some ⟨(lya_ok ok).symm, Or.inr ⟨ok, fun j => ?_, fun j => ?_⟩⟩
    · show r9.1 5 j = _
      rw [h9.2 5 j (by decide), st1_s]
      by_cases q : j = x1.toNat
      · rw [if_pos q, if_pos (by omega)]
      · rw [if_neg q, if_neg (by omega)]
    · show r9.1 6 j = _
      rw [h9.1 j, st1_n (by decide)]
def ASK2 (o : OO) (x1 : Int) (v : Int × OO) : Prop := (v.1 = -1 ∧ ¬ (0 ≤ x1 ∧ x1 ≤ 5) ∧ v.2 = o) ∨ (v.1 = -3 ∧ (0 ≤ x1 ∧ x1 ≤ 5) ∧ o.1 2 x1.toNat < 0 ∧ ∀ k j, ¬ k = 0 → ¬ k = 1 → v.2.1 k j = o.1 k j) ∨ (v.1 = 0 ∧ (0 ≤ x1 ∧ x1 ≤ 5) ∧ ¬ o.1 2 x1.toNat < 0 ∧ v.2 = o)
theorem ra_askedRow (o : OO) (x1 : Int) : Pa (s_X12_askedRow o x1) (ASK2 o x1) := by
  unfold s_X12_askedRow b_X12_askedRow_29
  refine Pa_qB (ra_isRow x1) (fun r hr => Pa_qEq (fun h => ?_) (fun h => ?_))
  · exact Pa_some (Or.inl ⟨rfl, by omega, rfl⟩)
  refine Pa_qIn (fun hi => Pa_qNm (Pa_qLt (fun _ _ h2 => ?_) (fun _ _ h2 => ?_)))
  · exact Pa_qB2 (ra_meets o 1) (fun r9 o9 h9 => Pa_some (Or.inr (Or.inl ⟨h9.1, by omega, h2, h9.2⟩)))
  · exact Pa_some (Or.inr (Or.inr ⟨rfl, by omega, h2, rfl⟩))
def ASK5 (o : OO) (x1 : Int) (v : Int × OO) : Prop := (v.1 = -1 ∧ ¬ (0 ≤ x1 ∧ x1 ≤ 3) ∧ v.2 = o) ∨ (v.1 = -3 ∧ (0 ≤ x1 ∧ x1 ≤ 3) ∧ o.1 5 x1.toNat < 0 ∧ ∀ k j, ¬ k = 0 → ¬ k = 1 → v.2.1 k j = o.1 k j) ∨ (v.1 = 0 ∧ (0 ≤ x1 ∧ x1 ≤ 3) ∧ ¬ o.1 5 x1.toNat < 0 ∧ v.2 = o)
theorem ra_askedText (o : OO) (x1 : Int) : Pa (s_X12_askedText o x1) (ASK5 o x1) := by
  unfold s_X12_askedText b_X12_askedText_29
  refine Pa_qB (ra_isText x1) (fun r hr => Pa_qEq (fun h => ?_) (fun h => ?_))
  · exact Pa_some (Or.inl ⟨rfl, by omega, rfl⟩)
  refine Pa_qIn (fun hi => Pa_qNm (Pa_qLt (fun _ _ h2 => ?_) (fun _ _ h2 => ?_)))
  · exact Pa_qB2 (ra_meets o 1) (fun r9 o9 h9 => Pa_some (Or.inr (Or.inl ⟨h9.1, by omega, h2, h9.2⟩)))
  · exact Pa_some (Or.inr (Or.inr ⟨rfl, by omega, h2, rfl⟩))
