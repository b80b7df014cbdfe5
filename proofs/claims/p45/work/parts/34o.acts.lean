-- ---------- ACTS
/-- the numbers of the ROW x1, as far as it goes -/
def RW (o : OO) (x1 z : Int) (k : Nat) : Int := if (k : Int) < z then o.1 3 (40 * x1.toNat + k) else 0
theorem RW_cg {o y : OO} (x1 z : Int) (h : ∀ j, y.1 3 j = o.1 3 j) : RW y x1 z = RW o x1 z := by
  funext k
  unfold RW
  rw [h]
theorem RW_at {o : OO} {x1 z : Int} {k j : Nat} (h : (k : Int) < z) (e : j = 40 * x1.toNat + k) : o.1 3 j = RW o x1 z k := by
  subst e
  unfold RW
  rw [if_pos h]
def AHv (a n : Int) : Prop := a = -9 ∨ (0 ≤ a ∧ a < n)
/-- ACT i is told by numbers that can be -/
def AG (f : Nat → Int) (n : Int) (i : Nat) : Prop := (0 ≤ f (3 * i) ∧ f (3 * i) ≤ 200) ∧ AHv (f (3 * i + 1)) n ∧ AHv (f (3 * i + 2)) n
/-- the day on which what is ahead ends; T: nothing is ahead; below 0: it hasn't been drawn -/
def AEo (T : Int) (E : Nat → Int) (a : Int) : Int := if a = -9 then T else E a.toNat
/-- ACT i is drawn, if it can be: ends, how many are drawn -/
def ASG (T : Int) (f : Nat → Int) (s : (Nat → Int) × Int) (i : Nat) : (Nat → Int) × Int :=
  if s.1 i < 0 ∧ 0 ≤ AEo T s.1 (f (3 * i + 1)) ∧ 0 ≤ AEo T s.1 (f (3 * i + 2)) then (fun j => if j = i then max (AEo T s.1 (f (3 * i + 1))) (AEo T s.1 (f (3 * i + 2))) + f (3 * i) else s.1 j, s.2 + 1) else s
theorem AS_go {T : Int} {f : Nat → Int} {s : (Nat → Int) × Int} {i : Nat} (h : s.1 i < 0 ∧ 0 ≤ AEo T s.1 (f (3 * i + 1)) ∧ 0 ≤ AEo T s.1 (f (3 * i + 2))) : ASG T f s i = (fun j => if j = i then max (AEo T s.1 (f (3 * i + 1))) (AEo T s.1 (f (3 * i + 2))) + f (3 * i) else s.1 j, s.2 + 1) := by
  unfold ASG
  rw [if_pos h]
theorem AS_no {T : Int} {f : Nat → Int} {s : (Nat → Int) × Int} {i : Nat} (h : ¬ (s.1 i < 0 ∧ 0 ≤ AEo T s.1 (f (3 * i + 1)) ∧ 0 ≤ AEo T s.1 (f (3 * i + 2)))) : ASG T f s i = s := by
  unfold ASG
  rw [if_neg h]
def ASW (T : Int) (f : Nat → Int) (s : (Nat → Int) × Int) : Nat → (Nat → Int) × Int
  | 0 => s
  | k + 1 => ASG T f (ASW T f s k) k
def ARD (T : Int) (f : Nat → Int) (n : Nat) (s : (Nat → Int) × Int) : Nat → (Nat → Int) × Int
  | 0 => s
  | r + 1 => ASW T f (ARD T f n s r) n
def AX0 : (Nat → Int) × Int := (fun _ => -9, 0)
def AX (T : Int) (f : Nat → Int) (n : Int) : (Nat → Int) × Int := ARD T f n.toNat AX0 n.toNat
def IS (T n : Int) (s : (Nat → Int) × Int) : Prop := (∀ j : Nat, (j : Int) < n → s.1 j = -9 ∨ T ≤ s.1 j) ∧ s.2 = CG s.1 n
theorem IS_0 (T : Int) {n : Int} : IS T n AX0 := ⟨fun _ _ => Or.inl rfl, (CG_none (fun _ _ => by show (-9 : Int) < 0; decide)).symm⟩
theorem AEo_ge {T n : Int} {s : (Nat → Int) × Int} (h : IS T n s) {a : Int} (ha : AHv a n) : AEo T s.1 a = -9 ∨ T ≤ AEo T s.1 a := by
  unfold AEo
  split
  · exact Or.inr (Int.le_refl T)
  · rcases ha with q | q
    · exact absurd q ‹_›
    · exact h.1 a.toNat (by omega)
theorem IS_AS {T n : Int} {f : Nat → Int} {s : (Nat → Int) × Int} {i : Nat} (hT : 0 ≤ T) (hi : (i : Int) < n) (hg : AG f n i) (h : IS T n s) : IS T n (ASG T f s i) := by
  by_cases c : s.1 i < 0 ∧ 0 ≤ AEo T s.1 (f (3 * i + 1)) ∧ 0 ≤ AEo T s.1 (f (3 * i + 2))
  · rw [AS_go c]
    have a1 := AEo_ge h hg.2.1
    have a2 := AEo_ge h hg.2.2
    have a0 := hg.1.1
    have key : T ≤ max (AEo T s.1 (f (3 * i + 1))) (AEo T s.1 (f (3 * i + 2))) + f (3 * i) := by omega
    refine ⟨fun j hj => ?_, ?_⟩
    · show (if j = i then _ else s.1 j) = -9 ∨ T ≤ (if j = i then _ else s.1 j)
      by_cases q : j = i
      · rw [if_pos q]
        exact Or.inr key
      · rw [if_neg q]
        exact h.1 j hj
    · have e := CG_upd (f := s.1) (n := n) (i := (i : Int)) (x := max (AEo T s.1 (f (3 * i + 1))) (AEo T s.1 (f (3 * i + 2))) + f (3 * i)) (by omega) hi (by rw [Int.toNat_natCast]; exact c.1) (by omega)
      rw [Int.toNat_natCast] at e
      show s.2 + 1 = CG (fun j => if j = i then max (AEo T s.1 (f (3 * i + 1))) (AEo T s.1 (f (3 * i + 2))) + f (3 * i) else s.1 j) n
      rw [e, h.2]
  · rw [AS_no c]
    exact h
theorem IS_ASW {T n : Int} {f : Nat → Int} {s : (Nat → Int) × Int} (hT : 0 ≤ T) (hg : ∀ i : Nat, (i : Int) < n → AG f n i) (h : IS T n s) : ∀ k : Nat, (k : Int) ≤ n → IS T n (ASW T f s k) := by
  intro k
  induction k with
  | zero => intro _; exact h
  | succ k ih => intro hk; exact IS_AS hT (by omega) (hg k (by omega)) (ih (by omega))
theorem IS_ARD {T n : Int} {f : Nat → Int} {s : (Nat → Int) × Int} (hT : 0 ≤ T) (hn : 0 ≤ n) (hg : ∀ i : Nat, (i : Int) < n → AG f n i) (h : IS T n s) : ∀ r : Nat, IS T n (ARD T f n.toNat s r) := by
  intro r
  induction r with
  | zero => exact h
  | succ r ih => exact IS_ASW hT hg ih n.toNat (by omega)
theorem ASW_full {T n : Int} {f : Nat → Int} {s : (Nat → Int) × Int} (h : IS T n s) (hf : n ≤ s.2) : ∀ k : Nat, (k : Int) ≤ n → ASW T f s k = s := by
  intro k
  induction k with
  | zero => intro _; rfl
  | succ k ih =>
    intro hk
    show ASG T f (ASW T f s k) k = s
    rw [ih (by omega)]
    have q := CG_full (f := s.1) (n := n) (by rw [← h.2]; exact hf) (k : Int) (by omega) (by omega)
    rw [Int.toNat_natCast] at q
    exact AS_no (fun c => by have := c.1; omega)
theorem ARD_full {T n : Int} {f : Nat → Int} {s : (Nat → Int) × Int} (hT : 0 ≤ T) (hn : 0 ≤ n) (hg : ∀ i : Nat, (i : Int) < n → AG f n i) (h : IS T n s) {r : Nat} (hf : n ≤ (ARD T f n.toNat s r).2) : ∀ d : Nat, ARD T f n.toNat s (r + d) = ARD T f n.toNat s r := by
  intro d
  induction d with
  | zero => rfl
  | succ d ih =>
    show ASW T f (ARD T f n.toNat s (r + d)) n.toNat = _
    rw [ih]
    exact ASW_full (IS_ARD hT hn hg h r) hf n.toNat (by omega)
/-- the latest of the first k days, and z -/
def MXF (z : Int) (E : Nat → Int) : Nat → Int
  | 0 => z
  | k + 1 => max (MXF z E k) (E k)
theorem MXF_cg {z : Int} {E G : Nat → Int} : ∀ k : Nat, (∀ j, j < k → E j = G j) → MXF z E k = MXF z G k := by
  intro k
  induction k with
  | zero => intro _; rfl
  | succ k ih =>
    intro h
    show max (MXF z E k) (E k) = max (MXF z G k) (G k)
    rw [ih (fun j hj => h j (by omega)), h k (by omega)]
theorem MXF_T {T : Int} {E : Nat → Int} (hT : 0 ≤ T) : ∀ k : Nat, MXF T E k = max T (MXF 0 E k) := by
  intro k
  induction k with
  | zero => show T = max T 0; omega
  | succ k ih =>
    show max (MXF T E k) (E k) = max T (max (MXF 0 E k) (E k))
    rw [ih]
    omega
theorem MXF_z {T : Int} {E : Nat → Int} (hT : 0 ≤ T) {k : Nat} (hk : 0 < k) (h : ∀ j, j < k → T ≤ E j) : MXF T E k = MXF 0 E k := by
  obtain ⟨k, rfl⟩ : ∃ i, k = i + 1 := ⟨k - 1, by omega⟩
  rw [MXF_T hT]
  have q := h k (by omega)
  show max T (max (MXF 0 E k) (E k)) = max (MXF 0 E k) (E k)
  omega
/-- all is told by numbers that can be, and all ACTS can be drawn -/
def GD (f : Nat → Int) (T n : Int) : Prop := (∀ i : Nat, (i : Int) < n → AG f n i) ∧ n ≤ (AX T f n).2
theorem GD_ge {f : Nat → Int} {T n : Int} (hT : 0 ≤ T) (hn : 0 ≤ n) (h : GD f T n) : ∀ j : Nat, (j : Int) < n → T ≤ (AX T f n).1 j := by
  intro j hj
  have q : IS T n (AX T f n) := IS_ARD hT hn h.1 (IS_0 T) n.toNat
  have q2 := CG_full (f := (AX T f n).1) (n := n) (by rw [← q.2]; exact h.2) (j : Int) (by omega) hj
  rw [Int.toNat_natCast] at q2
  rcases q.1 j hj with e | e
  · omega
  · exact e
/-- what the ends' cell holds, as far as n goes -/
def MT (c : Nat) (n : Int) (o : OO) (d : Int) (S : (Nat → Int) × Int) : Prop := (∀ j : Nat, (j : Int) < n → o.1 c j = S.1 j) ∧ d = S.2
-- ---------- of the class
theorem ra_sizeOf (o : OO) (x1 : Int) : Pa (s_X8_sizeOf o x1) (fun v => v = o.1 2 x1.toNat) := by
  unfold s_X8_sizeOf
  exact Pa_qIn (fun _ => Pa_qNm (Pa_some rfl))
theorem ra_at {o : OO} {x1 x2 z : Int} (h1 : 0 ≤ x1) (h2 : 0 ≤ x2) (hz : x2 < z) : Pa (s_X8_at o x1 x2) (fun v => v = RW o x1 z x2.toNat) := by
  unfold s_X8_at
  exact Pa_qIn (fun _ => Pa_qNm (Pa_some (RW_at (by omega) (by omega))))
theorem ra_isAhead (x0 x1 : Int) : Pa (s_X0_isAhead x0 x1) (fun v => (v = 1 ∧ AHv x0 x1) ∨ (v = 0 ∧ ¬ AHv x0 x1)) := by
  unfold s_X0_isAhead b_X0_isAhead_15 b_X0_isAhead_19 b_X0_isAhead_20 AHv
  refine Pa_qEq (fun h => Pa_qZ (fun _ => Pa_some (Or.inl ⟨rfl, Or.inl h⟩))) (fun h => Pa_qLt (fun _ _ h2 => Pa_qZ (fun _ => Pa_some (Or.inr ⟨rfl, by omega⟩))) (fun _ _ h2 => Pa_qLt (fun _ _ h3 => Pa_qZ (fun _ => Pa_some (Or.inl ⟨rfl, Or.inr ⟨by omega, h3⟩⟩))) (fun _ _ h3 => Pa_qZ (fun _ => Pa_some (Or.inr ⟨rfl, by omega⟩)))))
theorem ra_isOpen (o : OO) (x1 : Int) : Pa (s_X0_isOpen o x1) (fun v => (v = 1 ∧ ¬ x1 = -9 ∧ o.1 69 x1.toNat = -9) ∨ (v = 0 ∧ (x1 = -9 ∨ ¬ o.1 69 x1.toNat = -9))) := by
  unfold s_X0_isOpen b_X0_isOpen_21 b_X0_isOpen_22
  refine Pa_qEq (fun h => Pa_qZ (fun _ => Pa_some (Or.inr ⟨rfl, Or.inl h⟩))) (fun h => Pa_qIn (fun _ => Pa_qNm (Pa_qEq (fun h2 => Pa_qZ (fun _ => Pa_some (Or.inl ⟨rfl, h, h2⟩))) (fun h2 => Pa_qZ (fun _ => Pa_some (Or.inr ⟨rfl, Or.inr h2⟩))))))
theorem ra_endAhead (o : OO) (x1 : Int) : Pa (s_X0_endAhead o x1) (fun v => (x1 = -9 ∧ v = 0) ∨ (¬ x1 = -9 ∧ v = o.1 69 x1.toNat)) := by
  unfold s_X0_endAhead b_X0_endAhead_16
  exact Pa_qEq (fun h => Pa_some (Or.inl ⟨h, rfl⟩)) (fun h => Pa_qIn (fun _ => Pa_qNm (Pa_some (Or.inr ⟨h, rfl⟩))))
theorem ra_fillA (o : OO) (x1 : Int) : Pa (s_J7_fill_53178 o x1) (fun v => (∀ j : Nat, (j : Int) < 13 → v.1 69 j = x1) ∧ Sm 69 o v) := by
  unfold s_J7_fill_53178 e_J7_fill_53178_5
  refine Pa_qB (P := fun v => (∀ j : Nat, (j : Int) < 13 → v.1 69 j = x1) ∧ Sm 69 o v) ?_ (fun r hr => by unfold b_J7_fill_53178_20; exact Pa_some hr)
  refine Pa_loop (I := fun s => 0 ≤ s.2 ∧ (∀ j : Nat, (j : Int) < s.2 → s.1.1 69 j = x1) ∧ Sm 69 o s.1) ⟨by exact Int.le_refl _, fun j hj => absurd (show (j : Int) < 0 from hj) (by omega), fun _ _ _ => rfl⟩ (fun s hs => ?_)
  obtain ⟨u, i⟩ := s
  obtain ⟨i1, i3, i4⟩ := hs
  replace i1 : 0 ≤ i := i1
  replace i3 : ∀ j : Nat, (j : Int) < i → u.1 69 j = x1 := i3
  replace i4 : Sm 69 o u := i4
  show Pa (l_J7_fill_53178_5 x1 13 u i) _
  unfold l_J7_fill_53178_5
  refine Pa_qLt (fun _ _ h => Pa_qIn (fun hi => Pa_qNm (Pa_some ?_))) (fun _ _ h => Pa_some ?_)
  · show 0 ≤ i + 1 ∧ (∀ j : Nat, (j : Int) < i + 1 → (st1 u 69 i.toNat x1).1 69 j = x1) ∧ Sm 69 o (st1 u 69 i.toNat x1)
    refine ⟨by omega, fun j hj => ?_, fun k j hk => by rw [st1_n hk]; exact i4 k j hk⟩
    rw [st1_s]
    by_cases q : j = i.toNat
    · rw [if_pos q]
    · rw [if_neg q]
      exact i3 j (by omega)
  · show (∀ j : Nat, (j : Int) < 13 → u.1 69 j = x1) ∧ Sm 69 o u
    exact ⟨fun j hj => i3 j (by omega), i4⟩
/-- but for the cells a, b nothing has changed -/
def Sm2 (a b : Nat) (o o' : OO) : Prop := ∀ k j, ¬ k = a → ¬ k = b → o'.1 k j = o.1 k j
theorem ra_drawEnds {o : OO} {x2 x3 x4 z : Int} {f : Nat → Int} (h2 : 0 ≤ x2) (hz : z = 3 * x3) (hf : RW o x2 z = f) (hn : 1 ≤ x3 ∧ x3 ≤ 13) (hT : 0 ≤ x4) (hg : ∀ i : Nat, (i : Int) < x3 → AG f x3 i) : Pa (s_X0_drawEnds o x2 x3 x4) (fun v => ((v.1 = 1 ∧ x3 ≤ (AX x4 f x3).2) ∨ (v.1 = 0 ∧ ¬ x3 ≤ (AX x4 f x3).2)) ∧ (∀ j : Nat, (j : Int) < x3 → v.2.1 69 j = (AX x4 f x3).1 j) ∧ Sm2 69 70 o v.2) := by
  unfold s_X0_drawEnds
  refine Pa_qB (ra_fillA o (-9)) (fun u hu => ?_)
  obtain ⟨hu1, hu2⟩ := hu
  unfold e_X0_drawEnds_15
  have hle : ∀ r : Nat, (ARD x4 f x3.toNat AX0 r).2 ≤ x3 := fun r => by
    have q : IS x4 x3 (ARD x4 f x3.toNat AX0 r) := IS_ARD hT (by omega) hg (IS_0 x4) r
    rw [q.2]
    exact (CG_le (by omega)).1
  refine Pa_qB (P := fun v : OO × Int => MT 69 x3 v.1 v.2 (AX x4 f x3) ∧ Sm2 69 70 o v.1) ?_ (fun v hv => ?_)
  · refine Pa_loop (I := fun s => (0 ≤ s.2.2 ∧ s.2.2 ≤ x3) ∧ MT 69 x3 s.1 s.2.1 (ARD x4 f x3.toNat AX0 s.2.2.toNat) ∧ Sm2 69 70 o s.1) ⟨⟨by exact Int.le_refl _, by show 0 ≤ x3; omega⟩, ⟨fun j hj => by show u.1 69 j = -9; exact hu1 j (by omega), rfl⟩, fun k j a _ => hu2 k j a⟩ (fun s hs => ?_)
    obtain ⟨y, d, r⟩ := s
    obtain ⟨⟨r1, r2⟩, hm, ho⟩ := hs
    replace r1 : 0 ≤ r := r1
    replace r2 : r ≤ x3 := r2
    replace hm : MT 69 x3 y d (ARD x4 f x3.toNat AX0 r.toNat) := hm
    replace ho : Sm2 69 70 o y := ho
    show Pa (l_X0_drawEnds_15 x2 x3 x4 y d r) _
    unfold l_X0_drawEnds_15
    refine Pa_qLt (fun _ _ h => Pa_qLt (fun _ _ h5 => ?_) (fun _ _ h5 => Pa_some ?_)) (fun _ _ h => Pa_some ?_)
    · -- a round
      obtain ⟨S0, hS0⟩ : ∃ S0, S0 = ARD x4 f x3.toNat AX0 r.toNat := ⟨_, rfl⟩
      rw [← hS0] at hm
      have hI0 : IS x4 x3 S0 := by rw [hS0]; exact IS_ARD hT (by omega) hg (IS_0 x4) r.toNat
      unfold e_X0_drawEnds_30
      refine Pa_qB (P := fun v : OO × Int => MT 69 x3 v.1 v.2 (ASW x4 f S0 x3.toNat) ∧ Sm2 69 70 o v.1) ?_ (fun v hv => ?_)
      · refine Pa_loop (I := fun s => (0 ≤ s.2.2 ∧ s.2.2 ≤ x3) ∧ MT 69 x3 s.1 s.2.1 (ASW x4 f S0 s.2.2.toNat) ∧ Sm2 69 70 o s.1) ⟨⟨by exact Int.le_refl _, by show 0 ≤ x3; omega⟩, hm, ho⟩ (fun s hs => ?_)
        obtain ⟨w, d2, i⟩ := s
        obtain ⟨⟨i1, i2⟩, im, io⟩ := hs
        replace i1 : 0 ≤ i := i1
        replace i2 : i ≤ x3 := i2
        replace im : MT 69 x3 w d2 (ASW x4 f S0 i.toNat) := im
        replace io : Sm2 69 70 o w := io
        obtain ⟨S, hS⟩ : ∃ S, S = ASW x4 f S0 i.toNat := ⟨_, rfl⟩
        rw [← hS] at im
        have hI : IS x4 x3 S := by rw [hS]; exact IS_ASW hT hg hI0 i.toNat (by omega)
        have nx : ASW x4 f S0 (i + 1).toNat = ASG x4 f S i.toNat := by
          rw [show (i + 1).toNat = i.toNat + 1 by omega, hS]
          rfl
        have rw_ : RW w x2 z = f := by rw [RW_cg x2 z (fun j => io 3 j (by decide) (by decide))]; exact hf
        show Pa (l_X0_drawEnds_30 x2 x3 x4 r w d2 i) _
        unfold l_X0_drawEnds_30 b_X0_drawEnds_148
        refine Pa_qLt (fun _ _ h7 => ?_) (fun _ _ h7 => Pa_some ?_)
        · have gi := hg i.toNat (by omega)
          have a1 := ra_at (o := w) (x1 := x2) (x2 := 3 * i + 1) (z := z) h2 (by omega) (by omega)
          have a2 := ra_at (o := w) (x1 := x2) (x2 := 3 * i + 2) (z := z) h2 (by omega) (by omega)
          have a0 := ra_at (o := w) (x1 := x2) (x2 := 3 * i) (z := z) h2 (by omega) (by omega)
          rw [rw_, show (3 * i + 1).toNat = 3 * i.toNat + 1 by omega] at a1
          rw [rw_, show (3 * i + 2).toNat = 3 * i.toNat + 2 by omega] at a2
          have stay : ¬ (S.1 i.toNat < 0 ∧ 0 ≤ AEo x4 S.1 (f (3 * i.toNat + 1)) ∧ 0 ≤ AEo x4 S.1 (f (3 * i.toNat + 2))) → Sum.elim (fun s : OO × Int × Int => (0 ≤ s.2.2 ∧ s.2.2 ≤ x3) ∧ MT 69 x3 s.1 s.2.1 (ASW x4 f S0 s.2.2.toNat) ∧ Sm2 69 70 o s.1) (fun v : OO × Int => MT 69 x3 v.1 v.2 (ASW x4 f S0 x3.toNat) ∧ Sm2 69 70 o v.1) (.inl (w, d2, i + 1)) := fun c => by
            show (0 ≤ i + 1 ∧ i + 1 ≤ x3) ∧ MT 69 x3 w d2 (ASW x4 f S0 (i + 1).toNat) ∧ Sm2 69 70 o w
            rw [nx, AS_no c]
            exact ⟨⟨by omega, by omega⟩, im, io⟩
          refine Pa_qB a1 (fun r1_ hr1 => Pa_qB a2 (fun r3_ hr3 => Pa_qIn (fun _ => Pa_qNm ?_)))
          have mi := im.1 i.toNat (by omega)
          have si := hI.1 i.toNat (by omega)
          have ge1 := AEo_ge hI gi.2.1
          have ge2 := AEo_ge hI gi.2.2
          rw [← hr1] at ge1 stay
          rw [← hr3] at ge2 stay
          have v1 : AHv r1_ x3 := by rw [hr1]; exact gi.2.1
          have v3 : AHv r3_ x3 := by rw [hr3]; exact gi.2.2
          have e1 : (r1_ = -9 ∧ AEo x4 S.1 r1_ = x4) ∨ (¬ r1_ = -9 ∧ w.1 69 r1_.toNat = AEo x4 S.1 r1_) := by
            unfold AEo
            by_cases q : r1_ = -9
            · rw [if_pos q]; exact Or.inl ⟨q, rfl⟩
            · rw [if_neg q]
              rcases v1 with q2 | q2
              · exact absurd q2 q
              · exact Or.inr ⟨q, im.1 _ (by omega)⟩
          have e3 : (r3_ = -9 ∧ AEo x4 S.1 r3_ = x4) ∨ (¬ r3_ = -9 ∧ w.1 69 r3_.toNat = AEo x4 S.1 r3_) := by
            unfold AEo
            by_cases q : r3_ = -9
            · rw [if_pos q]; exact Or.inl ⟨q, rfl⟩
            · rw [if_neg q]
              rcases v3 with q2 | q2
              · exact absurd q2 q
              · exact Or.inr ⟨q, im.1 _ (by omega)⟩
          refine Pa_qEq (fun h9 => ?_) (fun h9 => Pa_some (stay (by omega)))
          refine Pa_qB (ra_isOpen w r1_) (fun r7 hr7 => Pa_qEq (fun h10 => ?_) (fun h10 => Pa_some (stay (by omega))))
          refine Pa_qB (ra_isOpen w r3_) (fun r9 hr9 => Pa_qEq (fun h11 => ?_) (fun h11 => Pa_some (stay (by omega))))
          refine Pa_qB (ra_endAhead w r1_) (fun r11 hr11 => Pa_qB (ra_endAhead w r3_) (fun r13 hr13 => Pa_qR (fun _ => Pa_qR (fun _ => Pa_qR (fun _ => Pa_qR (fun _ => Pa_qNm ?_))))))
          refine Pa_qB a0 (fun r20 hr20 => Pa_qIn (fun _ => Pa_qNm (Pa_qIn (fun _ => Pa_qNm (Pa_some ?_)))))
          rw [rw_, show (3 * i).toNat = 3 * i.toNat by omega] at hr20
          have go : S.1 i.toNat < 0 ∧ 0 ≤ AEo x4 S.1 (f (3 * i.toNat + 1)) ∧ 0 ≤ AEo x4 S.1 (f (3 * i.toNat + 2)) := by
            rw [← hr1, ← hr3]
            omega
          have val : max x4 (max r11 r13) = max (AEo x4 S.1 r1_) (AEo x4 S.1 r3_) := by omega
          show (0 ≤ i + 1 ∧ i + 1 ≤ x3) ∧ MT 69 x3 (st1 (st1 w 69 i.toNat (max x4 (max r11 r13) + r20)) 70 d2.toNat i) (d2 + 1) (ASW x4 f S0 (i + 1).toNat) ∧ Sm2 69 70 o (st1 (st1 w 69 i.toNat (max x4 (max r11 r13) + r20)) 70 d2.toNat i)
          rw [nx, AS_go go]
          refine ⟨⟨by omega, by omega⟩, ⟨fun j hj => ?_, by show d2 + 1 = S.2 + 1; rw [im.2]⟩, fun k j a b => by rw [st1_n b, st1_n a]; exact io k j a b⟩
          rw [st1_n (by decide), st1_s, val, hr20, ← hr1, ← hr3]
          show (if j = i.toNat then _ else w.1 69 j) = (if j = i.toNat then _ else S.1 j)
          by_cases q : j = i.toNat
          · rw [if_pos q, if_pos q]
          · rw [if_neg q, if_neg q]
            exact im.1 j hj
        · show MT 69 x3 w d2 (ASW x4 f S0 x3.toNat) ∧ Sm2 69 70 o w
          have e : i = x3 := by omega
          rw [hS, e] at im
          exact ⟨im, io⟩
      · obtain ⟨y2, d2⟩ := v
        show Pa (b_X0_drawEnds_154 y2 x2 x3 x4 d2 r) _
        unfold b_X0_drawEnds_154
        refine Pa_some ?_
        show (0 ≤ r + 1 ∧ r + 1 ≤ x3) ∧ MT 69 x3 y2 d2 (ARD x4 f x3.toNat AX0 (r + 1).toNat) ∧ Sm2 69 70 o y2
        refine ⟨⟨by omega, by omega⟩, ?_, hv.2⟩
        rw [show (r + 1).toNat = r.toNat + 1 by omega]
        show MT 69 x3 y2 d2 (ASW x4 f (ARD x4 f x3.toNat AX0 r.toNat) x3.toNat)
        rw [← hS0]
        exact hv.1
    · show MT 69 x3 y d (AX x4 f x3) ∧ Sm2 69 70 o y
      have q : AX x4 f x3 = ARD x4 f x3.toNat AX0 r.toNat := by
        have := ARD_full (f := f) hT (show 0 ≤ x3 by omega) hg (IS_0 x4) (r := r.toNat) (by rw [← hm.2]; omega) (x3.toNat - r.toNat)
        rw [show r.toNat + (x3.toNat - r.toNat) = x3.toNat by omega] at this
        exact this
      rw [q]
      exact ⟨hm, ho⟩
    · show MT 69 x3 y d (AX x4 f x3) ∧ Sm2 69 70 o y
      have e : r = x3 := by omega
      rw [e] at hm
      exact ⟨hm, ho⟩
  · obtain ⟨y, d⟩ := v
    obtain ⟨hm, ho⟩ := hv
    replace hm : MT 69 x3 y d (AX x4 f x3) := hm
    have hd := hm.2
    have hl := hle x3.toNat
    replace hl : (AX x4 f x3).2 ≤ x3 := hl
    show Pa (b_X0_drawEnds_160 y x3 d) _
    unfold b_X0_drawEnds_160 b_X0_drawEnds_171
    exact Pa_qEq (fun h => Pa_qZ (fun _ => Pa_some ⟨Or.inl ⟨rfl, by omega⟩, hm.1, ho⟩)) (fun h => Pa_qZ (fun _ => Pa_some ⟨Or.inr ⟨rfl, by omega⟩, hm.1, ho⟩))
theorem ra_keep {o : OO} {x1 : Int} (h1 : 0 ≤ x1) : Pa (s_X0_keep o x1) (fun v => v.1 66 0 = x1 ∧ v.1 66 1 = MXF 0 (o.1 69) x1.toNat ∧ (∀ j : Nat, (j : Int) < x1 → v.1 67 j = o.1 69 j) ∧ v.1 3 = o.1 3) := by
  unfold s_X0_keep
  refine Pa_qNm (Pa_qNm ?_)
  obtain ⟨u, hu⟩ : ∃ u, u = st1 (st1 o 66 0 x1) 66 1 0 := ⟨_, rfl⟩
  rw [← hu]
  have u0 : u.1 66 0 = x1 := by rw [hu]; rfl
  have u1 : u.1 66 1 = 0 := by rw [hu]; rfl
  have u3 : u.1 3 = o.1 3 := by rw [hu]; rfl
  have u69 : ∀ j, u.1 69 j = o.1 69 j := fun j => by rw [hu]; rfl
  unfold e_X0_keep_12
  refine Pa_qB (P := fun v : OO => v.1 66 0 = x1 ∧ v.1 66 1 = MXF 0 (o.1 69) x1.toNat ∧ (∀ j : Nat, (j : Int) < x1 → v.1 67 j = o.1 69 j) ∧ v.1 3 = o.1 3) ?_ (fun v hv => ?_)
  · refine Pa_loop (I := fun s => (0 ≤ s.2 ∧ s.2 ≤ x1) ∧ s.1.1 66 0 = x1 ∧ s.1.1 66 1 = MXF 0 (o.1 69) s.2.toNat ∧ (∀ j : Nat, (j : Int) < s.2 → s.1.1 67 j = o.1 69 j) ∧ s.1.1 3 = o.1 3 ∧ ∀ j, s.1.1 69 j = o.1 69 j) ⟨⟨by exact Int.le_refl _, h1⟩, u0, u1, fun j hj => absurd (show (j : Int) < 0 from hj) (by omega), u3, u69⟩ (fun s hs => ?_)
    obtain ⟨y, i⟩ := s
    obtain ⟨⟨i1, i2⟩, g0, g1, g2, g3, g4⟩ := hs
    replace i1 : 0 ≤ i := i1
    replace i2 : i ≤ x1 := i2
    replace g0 : y.1 66 0 = x1 := g0
    replace g1 : y.1 66 1 = MXF 0 (o.1 69) i.toNat := g1
    replace g2 : ∀ j : Nat, (j : Int) < i → y.1 67 j = o.1 69 j := g2
    replace g3 : y.1 3 = o.1 3 := g3
    replace g4 : ∀ j, y.1 69 j = o.1 69 j := g4
    show Pa (l_X0_keep_12 x1 y i) _
    unfold l_X0_keep_12
    refine Pa_qLt (fun _ _ h => Pa_qIn (fun _ => Pa_qNm (Pa_qIn (fun _ => Pa_qNm (Pa_qIn (fun _ => Pa_qNm (Pa_qR (fun _ => Pa_qR (fun _ => Pa_qNm (Pa_some ?_)))))))))) (fun _ _ h => Pa_some ?_)
    · obtain ⟨w, hw⟩ : ∃ w, w = st1 y 67 i.toNat (y.1 69 i.toNat) := ⟨_, rfl⟩
      rw [← hw]
      have w69 : ∀ j, w.1 69 j = o.1 69 j := fun j => by rw [hw, st1_n (by decide)]; exact g4 j
      have w66 : ∀ j, w.1 66 j = y.1 66 j := fun j => by rw [hw, st1_n (by decide)]
      show (0 ≤ i + 1 ∧ i + 1 ≤ x1) ∧ (st1 w 66 1 (max (w.1 66 1) (w.1 69 i.toNat))).1 66 0 = x1 ∧ (st1 w 66 1 (max (w.1 66 1) (w.1 69 i.toNat))).1 66 1 = MXF 0 (o.1 69) (i + 1).toNat ∧ (∀ j : Nat, (j : Int) < i + 1 → (st1 w 66 1 (max (w.1 66 1) (w.1 69 i.toNat))).1 67 j = o.1 69 j) ∧ (st1 w 66 1 (max (w.1 66 1) (w.1 69 i.toNat))).1 3 = o.1 3 ∧ ∀ j, (st1 w 66 1 (max (w.1 66 1) (w.1 69 i.toNat))).1 69 j = o.1 69 j
      refine ⟨⟨by omega, by omega⟩, ?_, ?_, fun j hj => ?_, ?_, fun j => ?_⟩
      · rw [st1_s, if_neg (by decide), w66]
        exact g0
      · rw [st1_s, if_pos rfl, w66, w69, g1, show (i + 1).toNat = i.toNat + 1 by omega]
        rfl
      · rw [st1_n (by decide), hw, st1_s]
        by_cases q : j = i.toNat
        · rw [if_pos q, g4, q]
        · rw [if_neg q]
          exact g2 j (by omega)
      · show w.1 3 = o.1 3
        rw [hw]
        exact g3
      · rw [st1_n (by decide)]
        exact w69 j
    · show y.1 66 0 = x1 ∧ y.1 66 1 = MXF 0 (o.1 69) x1.toNat ∧ (∀ j : Nat, (j : Int) < x1 → y.1 67 j = o.1 69 j) ∧ y.1 3 = o.1 3
      have e : i = x1 := by omega
      rw [e] at g1 g2
      exact ⟨g0, g1, g2, g3⟩
  · obtain ⟨g0, g1, g2, g3⟩ := hv
    unfold b_X0_keep_52 e_X0_keep_54
    refine Pa_qB (P := fun w : OO => Sm 68 v w) ?_ (fun w hw => ?_)
    · refine Pa_loop (I := fun s => Sm 68 v s.1) (fun _ _ _ => rfl) (fun s hs => ?_)
      obtain ⟨y, i⟩ := s
      replace hs : Sm 68 v y := hs
      show Pa (l_X0_keep_54 x1 y i) _
      unfold l_X0_keep_54
      refine Pa_qLt (fun _ _ h => Pa_qIn (fun _ => Pa_qNm (Pa_some ?_))) (fun _ _ h => Pa_some ?_)
      · show Sm 68 v (st1 y 68 i.toNat (y.1 66 1))
        exact fun k j hk => by rw [st1_n hk]; exact hs k j hk
      · exact hs
    · unfold b_X0_keep_75
      refine Pa_some ⟨?_, ?_, fun j hj => ?_, ?_⟩
      · rw [hw 66 0 (by decide)]; exact g0
      · rw [hw 66 1 (by decide)]; exact g1
      · rw [hw 67 j (by decide)]; exact g2 j hj
      · funext j
        rw [hw 3 j (by decide), g3]
theorem ra_holdBack (o : OO) (x1 x2 : Int) : Pa (s_X0_holdBack o x1 x2) (fun v => Sm 68 o v) := by
  unfold s_X0_holdBack b_X0_holdBack_22
  exact Pa_qEq (fun _ => Pa_some (fun _ _ _ => rfl)) (fun _ => Pa_qIn (fun _ => Pa_qNm (Pa_qR (fun _ => Pa_qR (fun _ => Pa_qIn (fun _ => Pa_qNm (Pa_some (fun k j hk => by rw [st1_n hk]))))))))
theorem ra_drawLatest (o : OO) (x2 : Int) : Pa (s_X0_drawLatest o x2) (fun v => Sm 68 o v) := by
  unfold s_X0_drawLatest e_X0_drawLatest_7
  refine Pa_qNm (Pa_qB (P := fun w : OO => Sm 68 o w) ?_ (fun w hw => by unfold b_X0_drawLatest_78; exact Pa_some hw))
  refine Pa_loop (I := fun s => Sm 68 o s.1) (fun _ _ _ => rfl) (fun s hs => ?_)
  obtain ⟨y, i⟩ := s
  replace hs : Sm 68 o y := hs
  show Pa (l_X0_drawLatest_7 x2 y i) _
  unfold l_X0_drawLatest_7
  have any : ∀ (w : OO) (a b : Int), Pa (s_X8_at w a b) (fun _ => True) := fun _ _ _ _ _ => trivial
  refine Pa_qLt (fun _ _ h => Pa_some hs) (fun _ _ h => Pa_qIn (fun _ => Pa_qNm (Pa_qIn (fun _ => Pa_qNm (Pa_qB (any _ _ _) (fun r5 _ => Pa_qNm (Pa_qB (any _ _ _) (fun r8 _ => Pa_qB (ra_holdBack _ _ _) (fun o12 h12 => Pa_qB (any _ _ _) (fun r13 _ => Pa_qB (ra_holdBack _ _ _) (fun o17 h17 => Pa_some ?_)))))))))))
  show Sm 68 o o17
  exact fun k j hk => by rw [h17 k j hk, h12 k j hk]; exact hs k j hk
/-- what acts leaves -/
def ACL (f : Nat → Int) (T n : Int) (o v : OO) (a b c : Nat) : Prop := v.1 a b = n ∧ ∀ j : Nat, (j : Int) < n → v.1 c j = (AX T f n).1 j
theorem ra_draw {o : OO} {x2 x3 z : Int} {f : Nat → Int} (h2 : 0 ≤ x2) (hz : z = o.1 2 x2.toNat) (h3 : 3 ≤ z ∧ z ≤ 39) (hq : z = 3 * (z / 3)) (hf : RW o x2 z = f) (hT : 0 ≤ x3) : Pa (s_X0_draw o x2 x3) (fun v => (v.1 = 0 ∧ ¬ GD f x3 (z / 3) ∧ v.2.1 66 0 = o.1 66 0 ∧ ∀ j, v.2.1 67 j = o.1 67 j) ∨ (v.1 = 1 ∧ GD f x3 (z / 3) ∧ v.2.1 66 1 = MXF 0 (AX x3 f (z / 3)).1 (z / 3).toNat ∧ ACL f x3 (z / 3) o v.2 66 0 67)) := by
  unfold s_X0_draw
  refine Pa_qB (ra_sizeOf o x2) (fun r20 hr20 => Pa_qDv (fun _ => Pa_qNm ?_))
  rw [← hz] at hr20
  rw [hr20, jq_nn (by omega)]
  obtain ⟨n, hn⟩ : ∃ n, n = z / 3 := ⟨_, rfl⟩
  rw [← hn] at hq ⊢
  have n1 : 1 ≤ n ∧ n ≤ 13 := by omega
  clear hn
  unfold e_X0_draw_12
  refine Pa_qB (P := fun v => Sum.elim (fun _ => ¬ ∀ i : Nat, (i : Int) < n → AG f n i) (Sum.elim (fun _ => ¬ ∀ i : Nat, (i : Int) < n → AG f n i) (fun _ => ∀ i : Nat, (i : Int) < n → AG f n i)) v) ?_ (fun v hv => ?_)
  · refine Pa_loop (I := fun s => (0 ≤ s ∧ s ≤ n) ∧ ∀ i : Nat, (i : Int) < s → AG f n i) ⟨⟨by decide, by omega⟩, fun j hj => absurd hj (by omega)⟩ (fun i hi => ?_)
    obtain ⟨⟨i1, i2⟩, i3⟩ := hi
    unfold l_X0_draw_12
    refine Pa_qLt (fun _ _ h => ?_) (fun _ _ h => Pa_some ?_)
    · have a1 := ra_at (o := o) (x1 := x2) (x2 := 3 * i + 1) (z := z) h2 (by omega) (by omega)
      have a2 := ra_at (o := o) (x1 := x2) (x2 := 3 * i + 2) (z := z) h2 (by omega) (by omega)
      have a0 := ra_at (o := o) (x1 := x2) (x2 := 3 * i) (z := z) h2 (by omega) (by omega)
      rw [hf, show (3 * i + 1).toNat = 3 * i.toNat + 1 by omega] at a1
      rw [hf, show (3 * i + 2).toNat = 3 * i.toNat + 2 by omega] at a2
      rw [hf, show (3 * i).toNat = 3 * i.toNat by omega] at a0
      have bad : ¬ AG f n i.toNat → ¬ ∀ i : Nat, (i : Int) < n → AG f n i := fun c q => c (q i.toNat (by omega))
      refine Pa_qB a0 (fun r0 hr0 => ?_)
      refine Pa_qLt (fun _ _ h4 => Pa_some ?_) (fun _ _ h4 => Pa_qLt (fun _ _ h5 => Pa_some ?_) (fun _ _ h5 => ?_))
      · exact bad (fun c => by have := c.1.1; omega)
      · exact bad (fun c => by have := c.1.2; omega)
      refine Pa_qB a1 (fun r1 hr1 => Pa_qB (ra_isAhead r1 n) (fun r14 h14 => Pa_qEq (fun h6 => Pa_some ?_) (fun h6 => ?_)))
      · exact bad (fun c => by
          have := c.2.1
          rw [← hr1] at this
          rcases h14 with q | q
          · omega
          · exact q.2 this)
      refine Pa_qB a2 (fun r2 hr2 => Pa_qB (ra_isAhead r2 n) (fun r18 h18 => Pa_qEq (fun h7 => Pa_some ?_) (fun h7 => Pa_some ?_)))
      · exact bad (fun c => by
          have := c.2.2
          rw [← hr2] at this
          rcases h18 with q | q
          · omega
          · exact q.2 this)
      · show (0 ≤ i + 1 ∧ i + 1 ≤ n) ∧ ∀ j : Nat, (j : Int) < i + 1 → AG f n j
        refine ⟨⟨by omega, by omega⟩, fun j hj => ?_⟩
        by_cases q : j = i.toNat
        · subst q
          refine ⟨⟨by omega, by omega⟩, ?_, ?_⟩
          · rw [← hr1]
            rcases h14 with q | q
            · exact q.2
            · omega
          · rw [← hr2]
            rcases h18 with q | q
            · exact q.2
            · omega
        · exact i3 j (by omega)
    · show ∀ j : Nat, (j : Int) < n → AG f n j
      exact fun j hj => i3 j (by omega)
  · rcases v with v | v | v
    · show Pa (b_X0_draw_43 o) _
      unfold b_X0_draw_43
      exact Pa_qZ (fun _ => Pa_some (Or.inl ⟨rfl, fun q => hv q.1, rfl, fun _ => rfl⟩))
    · show Pa (b_X0_draw_83 o) _
      unfold b_X0_draw_83
      exact Pa_qZ (fun _ => Pa_some (Or.inl ⟨rfl, fun q => hv q.1, rfl, fun _ => rfl⟩))
    · replace hv : ∀ i : Nat, (i : Int) < n → AG f n i := hv
      show Pa (b_X0_draw_91 o x2 x3 n) _
      unfold b_X0_draw_91
      refine Pa_qB2 (ra_drawEnds h2 hq hf n1 hT hv) (fun r1 u hu => ?_)
      obtain ⟨g0, g1, g2⟩ := hu
      replace g0 : (r1 = 1 ∧ n ≤ (AX x3 f n).2) ∨ (r1 = 0 ∧ ¬ n ≤ (AX x3 f n).2) := g0
      replace g1 : ∀ j : Nat, (j : Int) < n → u.1 69 j = (AX x3 f n).1 j := g1
      replace g2 : Sm2 69 70 o u := g2
      refine Pa_qEq (fun h4 => Pa_qZ (fun _ => Pa_some (Or.inl ⟨rfl, fun q => ?_, g2 66 0 (by decide) (by decide), fun j => g2 67 j (by decide) (by decide)⟩))) (fun h4 => ?_)
      · have := q.2
        omega
      refine Pa_qB (ra_keep (by omega)) (fun u2 hu2 => Pa_qB (ra_drawLatest u2 x2) (fun u3 hu3 => Pa_qZ (fun _ => Pa_some (Or.inr ⟨rfl, ⟨hv, by omega⟩, ?_, ?_, fun j hj => ?_⟩))))
      · show u3.1 66 1 = _
        rw [hu3 66 1 (by decide), hu2.2.1]
        exact MXF_cg _ (fun j hj => g1 j (by omega))
      · show u3.1 66 0 = n
        rw [hu3 66 0 (by decide), hu2.1]
      · show u3.1 67 j = _
        rw [hu3 67 j (by decide), hu2.2.2.1 j hj]
        exact g1 j hj
/-- where acts stops: 0 bad, 1 refused, 2 drawn -/
def ACW (b : Prop) (z : Int) (f : Nat → Int) (T x1 : Int) (k : Nat) : Prop :=
  (k = 0 ∧ ¬ (0 ≤ x1 ∧ x1 ≤ 5)) ∨ (k = 1 ∧ (0 ≤ x1 ∧ x1 ≤ 5) ∧ b) ∨ (k = 1 ∧ (0 ≤ x1 ∧ x1 ≤ 5) ∧ ¬ b ∧ ¬ (z = 3 * (z / 3) ∧ 3 ≤ z ∧ z ≤ 39)) ∨ (k = 1 ∧ (0 ≤ x1 ∧ x1 ≤ 5) ∧ ¬ b ∧ (z = 3 * (z / 3) ∧ 3 ≤ z ∧ z ≤ 39) ∧ ¬ GD f T (z / 3)) ∨ (k = 2 ∧ (0 ≤ x1 ∧ x1 ≤ 5) ∧ ¬ b ∧ (z = 3 * (z / 3) ∧ 3 ≤ z ∧ z ≤ 39) ∧ GD f T (z / 3))
def ACO (o : OO) (b : Prop) (z : Int) (f : Nat → Int) (T x1 : Int) (c0 i0 c : Nat) (v : Int × OO) : Prop := ∃ k, ACW b z f T x1 k ∧ ((k = 0 ∧ v.1 = -1 ∧ v.2.1 c0 i0 = o.1 c0 i0 ∧ ∀ j, v.2.1 c j = o.1 c j) ∨ (k = 1 ∧ v.1 = -3 ∧ v.2.1 c0 i0 = o.1 c0 i0 ∧ ∀ j, v.2.1 c j = o.1 c j) ∨ (k = 2 ∧ v.1 = MXF 0 (AX T f (z / 3)).1 (z / 3).toNat ∧ ACL f T (z / 3) o v.2 c0 i0 c))
theorem ra_acts_C {o : OO} {f : Nat → Int} {z x1 : Int} (hn : o.1 1 0 = 6) (hz : z = o.1 2 x1.toNat) (hb : -1 ≤ z) (hf : RW o x1 z = f) (hT : 0 ≤ o.1 0 13) : Pa (s_X11_acts o x1) (ACO o (z = -1) z f (o.1 0 13) x1 66 0 67) := by
  unfold s_X11_acts
  refine Pa_qB (ra_exists hn x1) (fun r hr => Pa_qEq (fun h => ?_) (fun h => ?_))
  · exact Pa_some ⟨0, Or.inl ⟨rfl, by omega⟩, Or.inl ⟨rfl, rfl, rfl, fun _ => rfl⟩⟩
  have hr_ : 0 ≤ x1 ∧ x1 ≤ 5 := by omega
  refine Pa_qB (ra_isThere o x1) (fun r2 hr2 => Pa_qEq (fun h2 => ?_) (fun h2 => ?_))
  · exact Pa_qB2 (ra_found o 1) (fun r9 o9 h9 => Pa_some ⟨1, Or.inr (Or.inl ⟨rfl, hr_, by omega⟩), Or.inr (Or.inl ⟨rfl, h9.1, h9.2 66 0 (by decide) (by decide), fun j => h9.2 67 j (by decide) (by decide)⟩)⟩)
  have hnb : ¬ z = -1 := by omega
  refine Pa_qB (ra_sizeOf o x1) (fun r8 hr8 => Pa_qDv (fun _ => ?_))
  rw [← hz] at hr8
  rw [hr8]
  unfold b_X11_acts_56
  rw [jq_nn (by omega)]
  have size : ¬ (z = 3 * (z / 3) ∧ 3 ≤ z ∧ z ≤ 39) → Pa (qB2 (s_X11_found o 5) (fun r1 o3 => some (r1, o3))) (ACO o (z = -1) z f (o.1 0 13) x1 66 0 67) := fun c => Pa_qB2 (ra_found o 5) (fun r9 o9 h9 => Pa_some ⟨1, Or.inr (Or.inr (Or.inl ⟨rfl, hr_, hnb, c⟩)), Or.inr (Or.inl ⟨rfl, h9.1, h9.2 66 0 (by decide) (by decide), fun j => h9.2 67 j (by decide) (by decide)⟩)⟩)
  refine Pa_qEq (fun h3 => ?_) (fun h3 => size (by omega))
  refine Pa_qLt (fun _ _ h4 => size (by omega)) (fun _ _ h4 => Pa_qLt (fun _ _ h5 => size (by omega)) (fun _ _ h5 => ?_))
  have hs : z = 3 * (z / 3) ∧ 3 ≤ z ∧ z ≤ 39 := by omega
  refine Pa_qB2 (ra_draw hr_.1 hz ⟨by omega, by omega⟩ hs.1 hf hT) (fun r11 u hu => Pa_qEq (fun h6 => ?_) (fun h6 => ?_))
  · rcases hu with ⟨e, a, b, c⟩ | ⟨e, a, b, c⟩
    · refine Pa_qB2 (ra_found u 3) (fun r9 o9 h9 => Pa_some ⟨1, Or.inr (Or.inr (Or.inr (Or.inl ⟨rfl, hr_, hnb, hs, a⟩))), Or.inr (Or.inl ⟨rfl, h9.1, (h9.2 66 0 (by decide) (by decide)).trans b, fun j => (h9.2 67 j (by decide) (by decide)).trans (c j)⟩)⟩)
    · replace e : r11 = 1 := e
      omega
  · rcases hu with ⟨e, a, b, c⟩ | ⟨e, a, b, c⟩
    · replace e : r11 = 0 := e
      omega
    · exact Pa_some ⟨2, Or.inr (Or.inr (Or.inr (Or.inr ⟨rfl, hr_, hnb, hs, a⟩))), Or.inr (Or.inr ⟨rfl, b, c⟩)⟩
theorem ra_act_C (o : OO) (x1 : Int) : Pa (s_X11_act o x1) (fun v => (¬ (0 ≤ x1 ∧ x1 < o.1 66 0) ∧ v.1 = -9) ∨ ((0 ≤ x1 ∧ x1 < o.1 66 0) ∧ v.1 = o.1 67 x1.toNat)) := by
  unfold s_X11_act s_X0_exists b_X0_exists_16 b_X0_exists_17
  refine Pa_qB (P := fun v => (v = 1 ∧ 0 ≤ x1 ∧ x1 < o.1 66 0) ∨ (v = 0 ∧ ¬ (0 ≤ x1 ∧ x1 < o.1 66 0))) ?_ (fun r hr => Pa_qEq (fun h => Pa_some (Or.inl ⟨by omega, rfl⟩)) (fun h => ?_))
  · exact Pa_qLt (fun _ _ h => Pa_qZ (fun _ => Pa_some (Or.inr ⟨rfl, by omega⟩))) (fun _ _ h => Pa_qLt (fun _ _ h2 => Pa_qZ (fun _ => Pa_some (Or.inl ⟨rfl, by omega, h2⟩))) (fun _ _ h2 => Pa_qZ (fun _ => Pa_some (Or.inr ⟨rfl, by omega⟩))))
  refine Pa_qB (P := fun _ => True) (fun _ _ => trivial) (fun r3 _ => ?_)
  unfold s_X11_tell
  refine Pa_qB2 (P := fun v => v = (1, st1 o 0 14 r3)) (Pa_qNm (Pa_some rfl)) (fun r5 o7 h7 => ?_)
  cases h7
  unfold s_X0_endOf
  refine Pa_qB (P := fun v => v = o.1 67 x1.toNat) (Pa_qIn (fun _ => Pa_qNm (Pa_some rfl))) (fun r8 h8 => Pa_some (Or.inr ⟨by omega, h8⟩))
-- ---------- of the reference
theorem ra_ahead {o : OO} {x1 x2 x3 z : Int} (h1 : 0 ≤ x1) (h2 : 0 ≤ x2) (h3 : 0 ≤ x3) (hz : 3 * x2 + 1 + x3 < z) : Pa (s_X12_ahead o x1 x2 x3) (fun v => v = RW o x1 z (3 * x2.toNat + 1 + x3.toNat)) := by
  unfold s_X12_ahead
  exact Pa_qNm (Pa_qIn (fun _ => Pa_qNm (Pa_some (RW_at (by omega) (by omega)))))
theorem ra_ask (o : OO) (x1 x2 : Int) : Pa (s_X12_ask o x1 x2) (fun v => v.1 = x2 ∧ ∀ k j, ¬ k = 0 → v.2.1 k j = o.1 k j) := by
  unfold s_X12_ask
  exact Pa_qNm (Pa_some ⟨rfl, fun k j hk => st1_n hk j⟩)
theorem ra_act_M (o : OO) (x1 : Int) : Pa (s_X12_act o x1) (fun v => (¬ (0 ≤ x1 ∧ x1 < o.1 0 65) ∧ v.1 = -9) ∨ ((0 ≤ x1 ∧ x1 < o.1 0 65) ∧ v.1 = o.1 54 x1.toNat)) := by
  unfold s_X12_act b_X12_act_35
  refine Pa_qB (ra_in x1 0 (o.1 0 65 - 1)) (fun r hr => Pa_qEq (fun h => Pa_some (Or.inl ⟨by omega, rfl⟩)) (fun h => Pa_qIn (fun _ => Pa_qNm (Pa_qIn (fun _ => Pa_qNm (Pa_qB2 (ra_ask o _ _) (fun r7 o9 h9 => Pa_some (Or.inr ⟨by omega, h9.1⟩))))))))
