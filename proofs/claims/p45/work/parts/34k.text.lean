-- ---------- the signs of a TEXT
def LTR (c : Int) : Int := if c = 83 then 0 else if c = 70 then 1 else if c = 84 then 2 else if c = 77 then 3 else if c = 75 then 4 else if c = 78 then 5 else if c = 80 then 6 else if c = 72 then 7 else -9
theorem LT_none {c : Int} (h : ¬ c = 83 ∧ ¬ c = 70 ∧ ¬ c = 84 ∧ ¬ c = 77 ∧ ¬ c = 75 ∧ ¬ c = 78 ∧ ¬ c = 80 ∧ ¬ c = 72) : LTR c = -9 := by
  unfold LTR
  rw [if_neg h.1, if_neg h.2.1, if_neg h.2.2.1, if_neg h.2.2.2.1, if_neg h.2.2.2.2.1, if_neg h.2.2.2.2.2.1, if_neg h.2.2.2.2.2.2.1, if_neg h.2.2.2.2.2.2.2]
theorem LT_rng (c : Int) : LTR c = -9 ∨ (0 ≤ LTR c ∧ LTR c ≤ 7) := by
  unfold LTR
  split
  · exact Or.inr (by decide)
  split
  · exact Or.inr (by decide)
  split
  · exact Or.inr (by decide)
  split
  · exact Or.inr (by decide)
  split
  · exact Or.inr (by decide)
  split
  · exact Or.inr (by decide)
  split
  · exact Or.inr (by decide)
  split
  · exact Or.inr (by decide)
  · exact Or.inl rfl
theorem LT_dig {c : Int} (h : 48 ≤ c ∧ c ≤ 57) : LTR c = -9 := LT_none (by omega)
theorem LT_32 : LTR 32 = -9 := by decide
theorem ra_letter (x0 : Int) : Pa (s_X12_letter x0) (fun v => v = LTR x0) := by
  unfold s_X12_letter
  refine Pa_qEq (fun h => Pa_some (by rw [h]; decide)) (fun h70 => ?_)
  refine Pa_qEq (fun h => Pa_some (by rw [h]; decide)) (fun h71 => ?_)
  refine Pa_qEq (fun h => Pa_some (by rw [h]; decide)) (fun h72 => ?_)
  refine Pa_qEq (fun h => Pa_some (by rw [h]; decide)) (fun h73 => ?_)
  refine Pa_qEq (fun h => Pa_some (by rw [h]; decide)) (fun h74 => ?_)
  refine Pa_qEq (fun h => Pa_some (by rw [h]; decide)) (fun h75 => ?_)
  refine Pa_qEq (fun h => Pa_some (by rw [h]; decide)) (fun h76 => ?_)
  refine Pa_qEq (fun h => Pa_some (by rw [h]; decide)) (fun h77 => ?_)
  refine Pa_qEq (fun h => Pa_some (by rw [h]; decide)) (fun h78 => ?_)
  refine Pa_qEq (fun h => Pa_some (by rw [h]; decide)) (fun h79 => ?_)
  refine Pa_qEq (fun h => Pa_some (by rw [h]; decide)) (fun h80 => ?_)
  refine Pa_qEq (fun h => Pa_some (by rw [h]; decide)) (fun h81 => ?_)
  refine Pa_qEq (fun h => Pa_some (by rw [h]; decide)) (fun h82 => ?_)
  refine Pa_qEq (fun h => Pa_some (by rw [h]; decide)) (fun h83 => ?_)
  refine Pa_qEq (fun h => Pa_some (by rw [h]; decide)) (fun h84 => ?_)
  exact Pa_some (LT_none ⟨h83, h70, h84, h77, h75, h78, h80, h72⟩).symm
theorem LT_let : ∀ i : Nat, i < 8 → LTR (lettersN i) = (i : Int) := by decide
theorem ra_letterOf (x0 : Int) : Pa (s_X7_letterOf x0) (fun v => v = LTR x0) := by
  unfold s_X7_letterOf e_X7_letterOf_2
  refine Pa_qB (P := fun v => Sum.elim (fun r => r = LTR x0) (fun _ => LTR x0 = -9) v) ?_ (fun v hv => ?_)
  · refine Pa_loop (I := fun s => (0 ≤ s ∧ s ≤ 8) ∧ ∀ j : Nat, (j : Int) < s → ¬ lettersN j = x0) ⟨⟨by decide, by decide⟩, fun j hj => absurd hj (by omega)⟩ (fun i hi => ?_)
    obtain ⟨⟨i1, i2⟩, i3⟩ := hi
    unfold l_X7_letterOf_2
    refine Pa_qLt (fun _ _ h => Pa_qIn (fun _ => Pa_qNm (Pa_qEq (fun h2 => Pa_some ?_) (fun h2 => Pa_some ?_)))) (fun _ _ h => Pa_some ?_)
    · show i = LTR x0
      rw [← h2, LT_let i.toNat (by omega)]
      omega
    · show (0 ≤ i + 1 ∧ i + 1 ≤ 8) ∧ ∀ j : Nat, (j : Int) < i + 1 → ¬ lettersN j = x0
      refine ⟨⟨by omega, by omega⟩, fun j hj => ?_⟩
      by_cases q : j = i.toNat
      · rw [q]; exact h2
      · exact i3 j (by omega)
    · show LTR x0 = -9
      have e : i = 8 := by omega
      subst e
      have n0 := i3 0 (by decide)
      have n1 := i3 1 (by decide)
      have n2 := i3 2 (by decide)
      have n3 := i3 3 (by decide)
      have n4 := i3 4 (by decide)
      have n5 := i3 5 (by decide)
      have n6 := i3 6 (by decide)
      have n7 := i3 7 (by decide)
      have m0 : lettersN 0 = 83 := rfl
      have m1 : lettersN 1 = 70 := rfl
      have m2 : lettersN 2 = 84 := rfl
      have m3 : lettersN 3 = 77 := rfl
      have m4 : lettersN 4 = 75 := rfl
      have m5 : lettersN 5 = 78 := rfl
      have m6 : lettersN 6 = 80 := rfl
      have m7 : lettersN 7 = 72 := rfl
      rw [m0] at n0
      rw [m1] at n1
      rw [m2] at n2
      rw [m3] at n3
      rw [m4] at n4
      rw [m5] at n5
      rw [m6] at n6
      rw [m7] at n7
      exact LT_none ⟨fun q => n0 q.symm, fun q => n1 q.symm, fun q => n2 q.symm, fun q => n3 q.symm, fun q => n4 q.symm, fun q => n5 q.symm, fun q => n6 q.symm, fun q => n7 q.symm⟩
  · cases v with
    | inl r =>
      show Pa (b_X7_letterOf_17 r) _
      unfold b_X7_letterOf_17
      exact Pa_some hv
    | inr u =>
      show Pa b_X7_letterOf_25 _
      unfold b_X7_letterOf_25
      exact Pa_some (Eq.symm hv)
/-- how many digits stand from i on, at most n -/
def DGn (f : Nat → Int) (len : Int) (i : Nat) : Nat → Nat
  | 0 => 0
  | n + 1 => if (i : Int) < len ∧ 48 ≤ f i ∧ f i ≤ 57 then DGn f len (i + 1) n + 1 else 0
def DG (f : Nat → Int) (len : Int) (i : Nat) : Nat := DGn f len i 4
/-- the number that d digits from i on spell -/
def NBR (f : Nat → Int) (i : Nat) : Nat → Int
  | 0 => 0
  | d + 1 => 10 * NBR f i d + f (i + d) - 48
/-- the first fault from i on -/
def FT (f : Nat → Int) (len : Int) : Nat → Nat → Int
  | 0, _ => -9
  | n + 1, i => if (i : Int) < len then (if f i = 32 then FT f len n (i + 1) else if LTR (f i) = -9 then (i : Int) else if DG f len (i + 1) = 0 then (i : Int) + 1 else FT f len n (i + 1 + DG f len (i + 1))) else -9
/-- what the last item of the letter w ahead of the place i says, z: none does -/
def IT (z : Int) (f : Nat → Int) (len : Int) (w : Int) : Nat → Int
  | 0 => z
  | i + 1 => if LTR (f i) = w then NBR f (i + 1) (DG f len (i + 1)) else IT z f len w i
theorem DGn_le (f : Nat → Int) (len : Int) : ∀ n i, DGn f len i n ≤ n := by
  intro n
  induction n with
  | zero => intro i; exact Nat.le_refl 0
  | succ n ih =>
    intro i
    unfold DGn
    split
    · exact Nat.succ_le_succ (ih (i + 1))
    · omega
theorem DGn_dig (f : Nat → Int) (len : Int) : ∀ n i k, k < DGn f len i n → ((i + k : Nat) : Int) < len ∧ 48 ≤ f (i + k) ∧ f (i + k) ≤ 57 := by
  intro n
  induction n with
  | zero => intro i k h; exact absurd h (by unfold DGn; omega)
  | succ n ih =>
    intro i k h
    unfold DGn at h
    split at h
    · rename_i c
      cases k with
      | zero => exact c
      | succ k =>
        have q := ih (i + 1) k (by omega)
        rw [show i + 1 + k = i + (k + 1) by omega] at q
        exact q
    · omega
theorem DG_dig {f : Nat → Int} {len : Int} {i k : Nat} (h : k < DG f len i) : ((i + k : Nat) : Int) < len ∧ 48 ≤ f (i + k) ∧ f (i + k) ≤ 57 := DGn_dig f len 4 i k h
/-- one more digit, or none -/
theorem DGn_s {f : Nat → Int} {len : Int} {i n : Nat} (h : (i : Int) < len ∧ 48 ≤ f i ∧ f i ≤ 57) : DGn f len i (n + 1) = DGn f len (i + 1) n + 1 := by
  show (if (i : Int) < len ∧ 48 ≤ f i ∧ f i ≤ 57 then DGn f len (i + 1) n + 1 else 0) = _
  rw [if_pos h]
theorem DGn_n {f : Nat → Int} {len : Int} {i n : Nat} (h : ¬ ((i : Int) < len ∧ 48 ≤ f i ∧ f i ≤ 57)) : DGn f len i n = 0 := by
  cases n with
  | zero => rfl
  | succ n =>
    show (if (i : Int) < len ∧ 48 ≤ f i ∧ f i ≤ 57 then DGn f len (i + 1) n + 1 else 0) = _
    rw [if_neg h]
theorem DGn_cg {f g : Nat → Int} {len : Int} (h : ∀ k : Nat, (k : Int) < len → f k = g k) : ∀ n i, DGn f len i n = DGn g len i n := by
  intro n
  induction n with
  | zero => intro i; rfl
  | succ n ih =>
    intro i
    by_cases c : (i : Int) < len ∧ 48 ≤ f i ∧ f i ≤ 57
    · rw [DGn_s c, DGn_s (by rw [← h i c.1]; exact c), ih]
    · rw [DGn_n c, DGn_n (fun q => c (by rw [h i q.1]; exact q))]
theorem NB_cg {f g : Nat → Int} {i : Nat} : ∀ d, (∀ k, k < d → f (i + k) = g (i + k)) → NBR f i d = NBR g i d := by
  intro d
  induction d with
  | zero => intro _; rfl
  | succ d ih =>
    intro h
    show 10 * NBR f i d + f (i + d) - 48 = 10 * NBR g i d + g (i + d) - 48
    rw [ih (fun k hk => h k (by omega)), h d (by omega)]
theorem NB_nn {f : Nat → Int} {i : Nat} : ∀ d, (∀ k, k < d → 48 ≤ f (i + k)) → 0 ≤ NBR f i d := by
  intro d
  induction d with
  | zero => intro _; exact Int.le_refl 0
  | succ d ih =>
    intro h
    show 0 ≤ 10 * NBR f i d + f (i + d) - 48
    have q := ih (fun k hk => h k (by omega))
    have q2 := h d (by omega)
    omega
theorem FT_cg {f g : Nat → Int} {len : Int} (h : ∀ k : Nat, (k : Int) < len → f k = g k) : ∀ n i, FT f len n i = FT g len n i := by
  intro n
  induction n with
  | zero => intro i; rfl
  | succ n ih =>
    intro i
    by_cases c : (i : Int) < len
    · show (if (i : Int) < len then (if f i = 32 then FT f len n (i + 1) else if LTR (f i) = -9 then (i : Int) else if DG f len (i + 1) = 0 then (i : Int) + 1 else FT f len n (i + 1 + DG f len (i + 1))) else -9) = (if (i : Int) < len then (if g i = 32 then FT g len n (i + 1) else if LTR (g i) = -9 then (i : Int) else if DG g len (i + 1) = 0 then (i : Int) + 1 else FT g len n (i + 1 + DG g len (i + 1))) else -9)
      rw [h i c, show DG f len (i + 1) = DG g len (i + 1) from DGn_cg h 4 (i + 1), ih (i + 1), ih (i + 1 + DG g len (i + 1))]
    · show (if (i : Int) < len then _ else -9) = (if (i : Int) < len then _ else -9)
      rw [if_neg c, if_neg c]
theorem IT_cg {z : Int} {f g : Nat → Int} {len : Int} (h : ∀ k : Nat, (k : Int) < len → f k = g k) (w : Int) : ∀ i : Nat, (i : Int) ≤ len → IT z f len w i = IT z g len w i := by
  intro i
  induction i with
  | zero => intro _; rfl
  | succ i ih =>
    intro hi
    show (if LTR (f i) = w then NBR f (i + 1) (DG f len (i + 1)) else IT z f len w i) = (if LTR (g i) = w then NBR g (i + 1) (DG g len (i + 1)) else IT z g len w i)
    rw [h i (by omega), ih (by omega), show DG f len (i + 1) = DG g len (i + 1) from DGn_cg h 4 (i + 1), NB_cg (f := f) (g := g) (DG g len (i + 1)) (fun k hk => h _ (DG_dig hk).1)]
theorem IT_z {f : Nat → Int} {len : Int} {w : Int} : ∀ i : Nat, IT (-1) f len w i = SZ (IT (-9) f len w i) := by
  intro i
  induction i with
  | zero => rfl
  | succ i ih =>
    show (if LTR (f i) = w then NBR f (i + 1) (DG f len (i + 1)) else IT (-1) f len w i) = SZ (if LTR (f i) = w then NBR f (i + 1) (DG f len (i + 1)) else IT (-9) f len w i)
    by_cases c : LTR (f i) = w
    · rw [if_pos c, if_pos c, SZ_nn (NB_nn _ (fun k hk => (DG_dig hk).2.1))]
    · rw [if_neg c, if_neg c, ih]
theorem IT_s {z : Int} {f : Nat → Int} {len : Int} {w : Int} {i : Nat} (h : ¬ LTR (f i) = w) : IT z f len w (i + 1) = IT z f len w i := by
  show (if LTR (f i) = w then NBR f (i + 1) (DG f len (i + 1)) else IT z f len w i) = _
  rw [if_neg h]
theorem IT_h {z : Int} {f : Nat → Int} {len : Int} {w : Int} {i : Nat} (h : LTR (f i) = w) : IT z f len w (i + 1) = NBR f (i + 1) (DG f len (i + 1)) := by
  show (if LTR (f i) = w then NBR f (i + 1) (DG f len (i + 1)) else IT z f len w i) = _
  rw [if_pos h]
theorem IT_skip {z : Int} {f : Nat → Int} {len : Int} {w : Int} (hw : 0 ≤ w) {i : Nat} : ∀ d, d ≤ DG f len i → IT z f len w (i + d) = IT z f len w i := by
  intro d
  induction d with
  | zero => intro _; rfl
  | succ d ih =>
    intro h
    rw [show i + (d + 1) = i + d + 1 by omega, IT_s (by rw [LT_dig (DG_dig (f := f) (len := len) (i := i) (k := d) (by omega)).2]; omega), ih (by omega)]
theorem FT_stab {f : Nat → Int} {len : Int} : ∀ n i m : Nat, len ≤ ((n + i : Nat) : Int) → n ≤ m → FT f len m i = FT f len n i := by
  intro n
  induction n with
  | zero =>
    intro i m h _
    cases m with
    | zero => rfl
    | succ m =>
      show (if (i : Int) < len then _ else -9) = -9
      rw [if_neg (by omega)]
  | succ n ih =>
    intro i m h hm
    obtain ⟨m, rfl⟩ : ∃ k, m = k + 1 := ⟨m - 1, by omega⟩
    show (if (i : Int) < len then (if f i = 32 then FT f len m (i + 1) else if LTR (f i) = -9 then (i : Int) else if DG f len (i + 1) = 0 then (i : Int) + 1 else FT f len m (i + 1 + DG f len (i + 1))) else -9) = (if (i : Int) < len then (if f i = 32 then FT f len n (i + 1) else if LTR (f i) = -9 then (i : Int) else if DG f len (i + 1) = 0 then (i : Int) + 1 else FT f len n (i + 1 + DG f len (i + 1))) else -9)
    rw [ih (i + 1) m (by omega) (by omega), ih (i + 1 + DG f len (i + 1)) m (by omega) (by omega)]
theorem FT_out {f : Nat → Int} {len : Int} {i n : Nat} (h : ¬ (i : Int) < len) : FT f len n i = -9 := by
  cases n with
  | zero => rfl
  | succ n =>
    show (if (i : Int) < len then _ else -9) = -9
    rw [if_neg h]
theorem FT_32 {f : Nat → Int} {len : Int} {i : Nat} (hl : len ≤ 40) (h : (i : Int) < len) (c : f i = 32) : FT f len 40 i = FT f len 40 (i + 1) := by
  rw [FT_stab 39 (i + 1) 40 (by omega) (by omega)]
  show (if (i : Int) < len then (if f i = 32 then FT f len 39 (i + 1) else _) else -9) = _
  rw [if_pos h, if_pos c]
theorem FT_bad {f : Nat → Int} {len : Int} {i : Nat} (h : (i : Int) < len) (c : ¬ f i = 32) (c2 : LTR (f i) = -9) : FT f len 40 i = (i : Int) := by
  show (if (i : Int) < len then (if f i = 32 then FT f len 39 (i + 1) else if LTR (f i) = -9 then (i : Int) else _) else -9) = _
  rw [if_pos h, if_neg c, if_pos c2]
theorem FT_nod {f : Nat → Int} {len : Int} {i : Nat} (h : (i : Int) < len) (c : ¬ f i = 32) (c2 : ¬ LTR (f i) = -9) (c3 : DG f len (i + 1) = 0) : FT f len 40 i = (i : Int) + 1 := by
  show (if (i : Int) < len then (if f i = 32 then FT f len 39 (i + 1) else if LTR (f i) = -9 then (i : Int) else if DG f len (i + 1) = 0 then (i : Int) + 1 else _) else -9) = _
  rw [if_pos h, if_neg c, if_neg c2, if_pos c3]
theorem FT_item {f : Nat → Int} {len : Int} {i : Nat} (hl : len ≤ 40) (h : (i : Int) < len) (c : ¬ f i = 32) (c2 : ¬ LTR (f i) = -9) (c3 : ¬ DG f len (i + 1) = 0) : FT f len 40 i = FT f len 40 (i + 1 + DG f len (i + 1)) := by
  rw [FT_stab 39 (i + 1 + DG f len (i + 1)) 40 (by omega) (by omega)]
  show (if (i : Int) < len then (if f i = 32 then FT f len 39 (i + 1) else if LTR (f i) = -9 then (i : Int) else if DG f len (i + 1) = 0 then (i : Int) + 1 else FT f len 39 (i + 1 + DG f len (i + 1))) else -9) = _
  rw [if_pos h, if_neg c, if_neg c2, if_neg c3]
theorem DG_end {f : Nat → Int} {len : Int} {i : Nat} (h : (i : Int) ≤ len) : ((i + DG f len i : Nat) : Int) ≤ len := by
  by_cases c : DG f len i = 0
  · omega
  · have q := (DG_dig (f := f) (len := len) (i := i) (k := DG f len i - 1) (by omega)).1
    omega
/-- the signs of the TEXT t -/
def TXF (o : OO) (t : Int) (k : Nat) : Int := o.1 6 (40 * t.toNat + k)
-- ---------- of the class
theorem ra_sizeOf4 (o : OO) (x1 : Int) : Pa (s_X8_sizeOf__4 o x1) (fun v => v = o.1 5 x1.toNat) := by
  unfold s_X8_sizeOf__4
  exact Pa_qIn (fun _ => Pa_qNm (Pa_some rfl))
theorem ra_at4 {o : OO} {x1 x2 : Int} (h1 : 0 ≤ x1) (h2 : 0 ≤ x2) : Pa (s_X8_at__4 o x1 x2) (fun v => v = TXF o x1 x2.toNat) := by
  unfold s_X8_at__4
  refine Pa_qIn (fun _ => Pa_qNm (Pa_some ?_))
  show o.1 6 (x1 * 40 + x2).toNat = o.1 6 (40 * x1.toNat + x2.toNat)
  exact congrArg (o.1 6) (by omega)
theorem ra_isDigit (x0 : Int) : Pa (s_X7_isDigit x0) (fun v => (v = 1 ∧ 48 ≤ x0 ∧ x0 ≤ 57) ∨ (v = 0 ∧ ¬ (48 ≤ x0 ∧ x0 ≤ 57))) := by
  unfold s_X7_isDigit b_X7_isDigit_16 b_X7_isDigit_17
  refine Pa_qLt (fun _ _ h => Pa_qZ (fun _ => Pa_some (Or.inr ⟨rfl, by omega⟩))) (fun _ _ h => Pa_qLt (fun _ _ h2 => Pa_qZ (fun _ => Pa_some (Or.inr ⟨rfl, by omega⟩))) (fun _ _ h2 => Pa_qZ (fun _ => Pa_some (Or.inl ⟨rfl, by omega, by omega⟩))))
theorem ra_digitsAt {o : OO} {x1 x2 : Int} (h1 : 0 ≤ x1) (h2 : 0 ≤ x2) : Pa (s_X7_digitsAt o x1 x2) (fun v => v = (DG (TXF o x1) (o.1 5 x1.toNat) x2.toNat : Int)) := by
  unfold s_X7_digitsAt e_X7_digitsAt_2
  refine Pa_qB (P := fun v => v = (DG (TXF o x1) (o.1 5 x1.toNat) x2.toNat : Int)) ?_ (fun v hv => by unfold b_X7_digitsAt_38; exact Pa_some hv)
  refine Pa_loop (I := fun s => (0 ≤ s ∧ s ≤ 4) ∧ DG (TXF o x1) (o.1 5 x1.toNat) x2.toNat = s.toNat + DGn (TXF o x1) (o.1 5 x1.toNat) (x2.toNat + s.toNat) (4 - s.toNat)) ⟨⟨by decide, by decide⟩, by show DG _ _ _ = 0 + DGn _ _ (x2.toNat + 0) 4; rw [Nat.zero_add]; rfl⟩ (fun i hi => ?_)
  obtain ⟨⟨i1, i2⟩, i3⟩ := hi
  unfold l_X7_digitsAt_2
  have stop : ¬ (((x2.toNat + i.toNat : Nat) : Int) < o.1 5 x1.toNat ∧ 48 ≤ TXF o x1 (x2.toNat + i.toNat) ∧ TXF o x1 (x2.toNat + i.toNat) ≤ 57) → i = (DG (TXF o x1) (o.1 5 x1.toNat) x2.toNat : Int) := fun q => by
    rw [i3, DGn_n q]
    omega
  have ei : (x2 + i).toNat = x2.toNat + i.toNat := by omega
  refine Pa_qLt (fun _ _ h => ?_) (fun _ _ h => Pa_some ?_)
  · refine Pa_qB (ra_holds o x1 (x2 + i)) (fun r hr => Pa_qEq (fun h3 => Pa_some ?_) (fun h3 => ?_))
    · show i = _
      exact stop (by omega)
    refine Pa_qB (ra_at4 h1 (show 0 ≤ x2 + i by omega)) (fun r2 hr2 => ?_)
    refine Pa_qB (ra_isDigit r2) (fun r4 hr4 => Pa_qEq (fun h5 => Pa_some ?_) (fun h5 => Pa_some ?_))
    · show i = _
      rw [ei] at hr2
      exact stop (by omega)
    · show (0 ≤ i + 1 ∧ i + 1 ≤ 4) ∧ DG (TXF o x1) (o.1 5 x1.toNat) x2.toNat = (i + 1).toNat + DGn (TXF o x1) (o.1 5 x1.toNat) (x2.toNat + (i + 1).toNat) (4 - (i + 1).toNat)
      refine ⟨⟨by omega, by omega⟩, ?_⟩
      rw [ei] at hr2
      rw [i3, show 4 - i.toNat = 4 - (i + 1).toNat + 1 by omega, DGn_s (by omega), show x2.toNat + (i + 1).toNat = x2.toNat + i.toNat + 1 by omega]
      omega
  · show i = _
    have e : i = 4 := by omega
    subst e
    rw [i3]
    show (4 : Int) = ((4 + DGn (TXF o x1) (o.1 5 x1.toNat) (x2.toNat + 4) 0 : Nat) : Int)
    unfold DGn
    rfl
theorem ra_numberAt {o : OO} {x1 x2 x3 : Int} (h1 : 0 ≤ x1) (h2 : 0 ≤ x2) (h3 : 0 ≤ x3) : Pa (s_X7_numberAt o x1 x2 x3) (fun v => v = NBR (TXF o x1) x2.toNat x3.toNat) := by
  unfold s_X7_numberAt e_X7_numberAt_6
  refine Pa_qB (P := fun v => v = NBR (TXF o x1) x2.toNat x3.toNat) ?_ (fun v hv => by unfold b_X7_numberAt_38; exact Pa_some hv)
  refine Pa_loop (I := fun s => (x2 ≤ s.2 ∧ s.2 ≤ x2 + x3) ∧ s.1 = NBR (TXF o x1) x2.toNat (s.2 - x2).toNat) ⟨⟨by exact Int.le_refl _, by show x2 ≤ x2 + x3; omega⟩, by show (0 : Int) = NBR _ _ (x2 - x2).toNat; rw [Int.sub_self]; rfl⟩ (fun s hs => ?_)
  obtain ⟨n, i⟩ := s
  obtain ⟨⟨i1, i2⟩, i3⟩ := hs
  replace i1 : x2 ≤ i := i1
  replace i2 : i ≤ x2 + x3 := i2
  replace i3 : n = NBR (TXF o x1) x2.toNat (i - x2).toNat := i3
  show Pa (l_X7_numberAt_6 o x1 x2 x3 n i) _
  unfold l_X7_numberAt_6
  refine Pa_qLt (fun _ _ h => ?_) (fun _ _ h => Pa_some ?_)
  · refine Pa_qB (ra_at4 h1 (show 0 ≤ i by omega)) (fun r hr => Pa_qNm (Pa_some ?_))
    show (x2 ≤ i + 1 ∧ i + 1 ≤ x2 + x3) ∧ 10 * n + r - 48 = NBR (TXF o x1) x2.toNat (i + 1 - x2).toNat
    refine ⟨⟨by omega, by omega⟩, ?_⟩
    rw [show (i + 1 - x2).toNat = (i - x2).toNat + 1 by omega]
    show 10 * n + r - 48 = 10 * NBR (TXF o x1) x2.toNat (i - x2).toNat + TXF o x1 (x2.toNat + (i - x2).toNat) - 48
    rw [← i3, show x2.toNat + (i - x2).toNat = i.toNat by omega, hr]
  · show n = _
    rw [i3, show (i - x2).toNat = x3.toNat by omega]
theorem ra_firstFault {o : OO} {x1 : Int} (h1 : 0 ≤ x1) (hl : o.1 5 x1.toNat ≤ 40) : Pa (s_X7_firstFault o x1) (fun v => v = FT (TXF o x1) (o.1 5 x1.toNat) 40 0) := by
  unfold s_X7_firstFault e_X7_firstFault_2
  refine Pa_qB (P := fun v => Sum.elim (fun r => r - 1 = FT (TXF o x1) (o.1 5 x1.toNat) 40 0) (Sum.elim (fun r => r = FT (TXF o x1) (o.1 5 x1.toNat) 40 0) (fun _ => -9 = FT (TXF o x1) (o.1 5 x1.toNat) 40 0)) v) ?_ (fun v hv => ?_)
  · refine Pa_loop (I := fun s => 0 ≤ s ∧ FT (TXF o x1) (o.1 5 x1.toNat) 40 0 = FT (TXF o x1) (o.1 5 x1.toNat) 40 s.toNat) ⟨by decide, rfl⟩ (fun i hi => ?_)
    obtain ⟨i1, i3⟩ := hi
    unfold l_X7_firstFault_2
    refine Pa_qB (ra_sizeOf4 o x1) (fun r hr => ?_)
    subst hr
    refine Pa_qLt (fun _ _ h => ?_) (fun _ _ h => Pa_some ?_)
    · refine Pa_qB (ra_at4 h1 i1) (fun r2 hr2 => Pa_qEq (fun h3 => Pa_some ?_) (fun h3 => ?_))
      · show 0 ≤ i + 1 ∧ _ = FT (TXF o x1) (o.1 5 x1.toNat) 40 (i + 1).toNat
        refine ⟨by omega, ?_⟩
        rw [i3, FT_32 hl (by omega) (by rw [← hr2]; exact h3), show (i + 1).toNat = i.toNat + 1 by omega]
      refine Pa_qB (ra_letterOf r2) (fun r5 hr5 => Pa_qEq (fun h5 => Pa_some ?_) (fun h5 => ?_))
      · show i + 1 - 1 = _
        rw [i3, FT_bad (by omega) (by rw [← hr2]; exact h3) (by rw [← hr2, ← hr5]; exact h5)]
        omega
      refine Pa_qB (ra_digitsAt h1 (show 0 ≤ i + 1 by omega)) (fun r7 hr7 => Pa_qEq (fun h7 => Pa_some ?_) (fun h7 => Pa_qNm (Pa_some ?_)))
      · show i + 1 = _
        rw [show (i + 1).toNat = i.toNat + 1 by omega] at hr7
        rw [i3, FT_nod (by omega) (by rw [← hr2]; exact h3) (by rw [← hr2, ← hr5]; exact h5) (by omega)]
        omega
      · show 0 ≤ i + 1 + r7 ∧ _ = FT (TXF o x1) (o.1 5 x1.toNat) 40 (i + 1 + r7).toNat
        rw [show (i + 1).toNat = i.toNat + 1 by omega] at hr7
        refine ⟨by omega, ?_⟩
        rw [i3, FT_item hl (by omega) (by rw [← hr2]; exact h3) (by rw [← hr2, ← hr5]; exact h5) (by omega), show (i + 1 + r7).toNat = i.toNat + 1 + DG (TXF o x1) (o.1 5 x1.toNat) (i.toNat + 1) by omega]
    · show -9 = _
      rw [i3, FT_out (by omega)]
  · rcases v with v | v | v
    · show Pa (b_X7_firstFault_39 o v) _
      unfold b_X7_firstFault_39
      exact Pa_some hv
    · show Pa (b_X7_firstFault_56 o v) _
      unfold b_X7_firstFault_56
      exact Pa_some hv
    · show Pa (b_X7_firstFault_66 o) _
      unfold b_X7_firstFault_66
      exact Pa_some hv
