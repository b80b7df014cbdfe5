-- ---------- rule
/-- where rule stops: 0 bad, 1 full, 2 nothing there, 3 a fault, 4 it is a rule -/
def RLW (n : Int) (b : Prop) (f : Int) (x1 x2 : Int) (k : Nat) : Prop :=
  (k = 0 ∧ ¬ ((0 ≤ x1 ∧ x1 ≤ 3) ∧ (0 ≤ x2 ∧ x2 ≤ 999))) ∨ (k = 1 ∧ ((0 ≤ x1 ∧ x1 ≤ 3) ∧ (0 ≤ x2 ∧ x2 ≤ 999)) ∧ 16 ≤ n) ∨ (k = 2 ∧ ((0 ≤ x1 ∧ x1 ≤ 3) ∧ (0 ≤ x2 ∧ x2 ≤ 999)) ∧ n < 16 ∧ b) ∨ (k = 3 ∧ ((0 ≤ x1 ∧ x1 ≤ 3) ∧ (0 ≤ x2 ∧ x2 ≤ 999)) ∧ n < 16 ∧ ¬ b ∧ ¬ f = -9) ∨ (k = 4 ∧ ((0 ≤ x1 ∧ x1 ≤ 3) ∧ (0 ≤ x2 ∧ x2 ≤ 999)) ∧ n < 16 ∧ ¬ b ∧ f = -9)
def RLA (k : Nat) (n : Int) : Int := if k = 0 then -1 else if k = 1 then -2 else if k = 2 then -3 else if k = 3 then -4 else n
theorem rlw0 {n : Int} {b : Prop} {f x1 x2 : Int} (h : ¬ ((0 ≤ x1 ∧ x1 ≤ 3) ∧ (0 ≤ x2 ∧ x2 ≤ 999))) : RLW n b f x1 x2 0 := Or.inl ⟨rfl, h⟩
theorem rlw1 {n : Int} {b : Prop} {f x1 x2 : Int} (h : (0 ≤ x1 ∧ x1 ≤ 3) ∧ (0 ≤ x2 ∧ x2 ≤ 999)) (h2 : 16 ≤ n) : RLW n b f x1 x2 1 := Or.inr (Or.inl ⟨rfl, h, h2⟩)
theorem rlw2 {n : Int} {b : Prop} {f x1 x2 : Int} (h : (0 ≤ x1 ∧ x1 ≤ 3) ∧ (0 ≤ x2 ∧ x2 ≤ 999)) (h2 : n < 16) (h3 : b) : RLW n b f x1 x2 2 := Or.inr (Or.inr (Or.inl ⟨rfl, h, h2, h3⟩))
theorem rlw3 {n : Int} {b : Prop} {f x1 x2 : Int} (h : (0 ≤ x1 ∧ x1 ≤ 3) ∧ (0 ≤ x2 ∧ x2 ≤ 999)) (h2 : n < 16) (h3 : ¬ b) (h4 : ¬ f = -9) : RLW n b f x1 x2 3 := Or.inr (Or.inr (Or.inr (Or.inl ⟨rfl, h, h2, h3, h4⟩)))
theorem rlw4 {n : Int} {b : Prop} {f x1 x2 : Int} (h : (0 ≤ x1 ∧ x1 ≤ 3) ∧ (0 ≤ x2 ∧ x2 ≤ 999)) (h2 : n < 16) (h3 : ¬ b) (h4 : f = -9) : RLW n b f x1 x2 4 := Or.inr (Or.inr (Or.inr (Or.inr ⟨rfl, h, h2, h3, h4⟩)))
/-- what a rule leaves; z stands for 'says nothing' -/
def RLS (z : Int) (cn pn ct cf cv : Nat) (o : OO) (day x1 x2 : Int) (v : OO) : Prop := v.1 cn pn = o.1 cn pn + 1 ∧ (∀ j : Nat, v.1 ct j = if (j : Int) = o.1 cn pn then day else o.1 ct j) ∧ (∀ j : Nat, v.1 cf j = if (j : Int) = o.1 cn pn then x2 else o.1 cf j) ∧ (∀ j : Nat, (j : Int) < 8 * o.1 cn pn → v.1 cv j = o.1 cv j) ∧ ∀ w : Nat, w < 8 → v.1 cv (8 * (o.1 cn pn).toNat + w) = IT z (TXF o x1) (o.1 5 x1.toNat) w (o.1 5 x1.toNat).toNat
def RLO (z : Int) (cn pn ct cf cv : Nat) (o : OO) (day x1 x2 : Int) (b : Prop) (v : Int × OO) : Prop := ∃ k, RLW (o.1 cn pn) b (FT (TXF o x1) (o.1 5 x1.toNat) 40 0) x1 x2 k ∧ v.1 = RLA k (o.1 cn pn) ∧ ((¬ k = 4 ∧ v.2.1 cn pn = o.1 cn pn ∧ (∀ j, v.2.1 ct j = o.1 ct j) ∧ (∀ j, v.2.1 cf j = o.1 cf j) ∧ ∀ j, v.2.1 cv j = o.1 cv j) ∨ (k = 4 ∧ RLS z cn pn ct cf cv o day x1 x2 v.2))
theorem ra_add {o : OO} {x2 x3 x4 : Int} (h2 : 0 ≤ x2) (hl : o.1 5 x2.toNat ≤ 40) (hn : 0 ≤ o.1 5 x2.toNat) (hc : 0 ≤ o.1 28 3) : Pa (s_X7_add o x2 x3 x4) (fun v => v.1 = o.1 28 3 ∧ RLS (-1) 28 3 29 30 31 o x3 x2 x4 v.2) := by
  unfold s_X7_add
  refine Pa_qNm (Pa_qIn (fun i1 => Pa_qNm (Pa_qIn (fun i2 => Pa_qNm (Pa_qB (ra_fill__31 _ _ _ _) (fun u hu => ?_))))))
  obtain ⟨r, hr⟩ : ∃ r, r = o.1 28 3 := ⟨_, rfl⟩
  rw [← hr] at hu hc ⊢
  have s5 : u.1 5 x2.toNat = o.1 5 x2.toNat := by rw [hu.2 5 _ (by decide), st1_n (by decide), st1_n (by decide), st1_n (by decide)]
  have s6 : ∀ j, u.1 6 j = o.1 6 j := fun j => by rw [hu.2 6 _ (by decide), st1_n (by decide), st1_n (by decide), st1_n (by decide)]
  have s29 : ∀ j : Nat, u.1 29 j = if (j : Int) = r then x3 else o.1 29 j := fun j => by
    rw [hu.2 29 _ (by decide), st1_n (by decide), st1_s, st1_n (by decide)]
    by_cases q : j = r.toNat
    · rw [if_pos q, if_pos (by omega)]
    · rw [if_neg q, if_neg (by omega)]
  have s30 : ∀ j : Nat, u.1 30 j = if (j : Int) = r then x4 else o.1 30 j := fun j => by
    rw [hu.2 30 _ (by decide), st1_s, st1_n (by decide), st1_n (by decide)]
    by_cases q : j = r.toNat
    · rw [if_pos q, if_pos (by omega)]
    · rw [if_neg q, if_neg (by omega)]
  have s28 : u.1 28 3 = r + 1 := by
    rw [hu.2 28 _ (by decide), st1_n (by decide), st1_n (by decide), st1_s, if_pos rfl]
  have s31 : ∀ j : Nat, u.1 31 j = if r * 8 ≤ (j : Int) ∧ (j : Int) < (r + 1) * 8 then -1 else o.1 31 j := fun j => by
    rw [hu.1 j, st1_n (by decide), st1_n (by decide), st1_n (by decide)]
  unfold e_X7_add_56
  obtain ⟨f, hf⟩ : ∃ f, f = TXF o x2 := ⟨_, rfl⟩
  obtain ⟨n, hnn⟩ : ∃ n, n = o.1 5 x2.toNat := ⟨_, rfl⟩
  rw [← hnn] at hl hn s5
  have tx_ : ∀ y : OO, Sm 31 u y → TXF y x2 = f := fun y hy => by
    rw [hf]
    funext k
    show y.1 6 _ = o.1 6 _
    rw [hy 6 _ (by decide), s6]
  have ln_ : ∀ y : OO, Sm 31 u y → y.1 5 x2.toNat = n := fun y hy => by rw [hy 5 _ (by decide), s5]
  refine Pa_qB (P := fun y => Sm 31 u y ∧ (∀ j : Nat, (j : Int) < 8 * r → y.1 31 j = o.1 31 j) ∧ ∀ w : Nat, w < 8 → y.1 31 (8 * r.toNat + w) = IT (-1) f n w n.toNat) ?_ (fun y hy => ?_)
  · refine Pa_loop (I := fun s => (0 ≤ s.2 ∧ s.2 ≤ n) ∧ Sm 31 u s.1 ∧ (∀ j : Nat, (j : Int) < 8 * r → s.1.1 31 j = o.1 31 j) ∧ ∀ w : Nat, w < 8 → s.1.1 31 (8 * r.toNat + w) = IT (-1) f n w s.2.toNat) ⟨⟨by exact Int.le_refl _, hn⟩, fun _ _ _ => rfl, fun j hj => by show u.1 31 j = _; rw [s31 j, if_neg (by omega)], fun w hw => by show u.1 31 (8 * r.toNat + w) = IT (-1) f n w 0; rw [s31, if_pos (by omega)]; rfl⟩ (fun s hs => ?_)
    obtain ⟨y, i⟩ := s
    obtain ⟨⟨i1, i2⟩, i3, i4, i5⟩ := hs
    replace i1 : 0 ≤ i := i1
    replace i2 : i ≤ n := i2
    replace i3 : Sm 31 u y := i3
    replace i4 : ∀ j : Nat, (j : Int) < 8 * r → y.1 31 j = o.1 31 j := i4
    replace i5 : ∀ w : Nat, w < 8 → y.1 31 (8 * r.toNat + w) = IT (-1) f n w i.toNat := i5
    show Pa (l_X7_add_56 x2 r y i) _
    unfold l_X7_add_56 b_X7_add_119
    refine Pa_qB (ra_sizeOf4 y x2) (fun r1 hr1 => ?_)
    rw [ln_ y i3] at hr1
    subst hr1
    refine Pa_qLt (fun _ _ h => ?_) (fun _ _ h => Pa_some ?_)
    · have at_ := ra_at4 (o := y) h2 i1
      rw [tx_ y i3] at at_
      refine Pa_qB at_ (fun r3 hr3 => Pa_qB (ra_letterOf r3) (fun r5 hr5 => Pa_qEq (fun h5 => Pa_some ?_) (fun h5 => ?_)))
      · show (0 ≤ i + 1 ∧ i + 1 ≤ r1) ∧ Sm 31 u y ∧ (∀ j : Nat, (j : Int) < 8 * r → y.1 31 j = o.1 31 j) ∧ ∀ w : Nat, w < 8 → y.1 31 (8 * r.toNat + w) = IT (-1) f r1 w (i + 1).toNat
        refine ⟨⟨by omega, by omega⟩, i3, i4, fun w hw => ?_⟩
        rw [show (i + 1).toNat = i.toNat + 1 by omega, IT_s (by rw [← hr3, ← hr5, h5]; omega)]
        exact i5 w hw
      have dg_ := ra_digitsAt (o := y) (x2 := i + 1) h2 (by omega)
      rw [tx_ y i3, ln_ y i3] at dg_
      refine Pa_qB dg_ (fun r7 hr7 => ?_)
      have nb_ := ra_numberAt (o := y) (x2 := i + 1) (x3 := r7) h2 (by omega) (by omega)
      rw [tx_ y i3] at nb_
      refine Pa_qB nb_ (fun r9 hr9 => Pa_qIn (fun _ => Pa_qNm (Pa_some ?_)))
      have lr := LT_rng r3
      show (0 ≤ i + 1 ∧ i + 1 ≤ r1) ∧ Sm 31 u (st1 y 31 (r * 8 + r5).toNat r9) ∧ (∀ j : Nat, (j : Int) < 8 * r → (st1 y 31 (r * 8 + r5).toNat r9).1 31 j = o.1 31 j) ∧ ∀ w : Nat, w < 8 → (st1 y 31 (r * 8 + r5).toNat r9).1 31 (8 * r.toNat + w) = IT (-1) f r1 w (i + 1).toNat
      refine ⟨⟨by omega, by omega⟩, fun k j hk => by rw [st1_n hk]; exact i3 k j hk, fun j hj => ?_, fun w hw => ?_⟩
      · rw [st1_s, if_neg (by omega)]
        exact i4 j hj
      · rw [show (i + 1).toNat = i.toNat + 1 by omega] at hr7 hr9 ⊢
        rw [st1_s]
        by_cases q : 8 * r.toNat + w = (r * 8 + r5).toNat
        · rw [if_pos q, IT_h (by rw [← hr3, ← hr5]; omega), hr9, hr7, Int.toNat_natCast]
        · rw [if_neg q, IT_s (by rw [← hr3, ← hr5]; omega)]
          exact i5 w hw
    · show Sm 31 u y ∧ (∀ j : Nat, (j : Int) < 8 * r → y.1 31 j = o.1 31 j) ∧ ∀ w : Nat, w < 8 → y.1 31 (8 * r.toNat + w) = IT (-1) f r1 w r1.toNat
      have e : i = r1 := by omega
      rw [e] at i5
      exact ⟨i3, i4, i5⟩
  · unfold b_X7_add_125
    refine Pa_some ⟨rfl, ?_⟩
    obtain ⟨y1, y2, y3⟩ := hy
    unfold RLS
    rw [← hr, ← hf, ← hnn]
    exact ⟨by show y.1 28 3 = r + 1; rw [y1 28 3 (by decide), s28], fun j => by show y.1 29 j = _; rw [y1 29 j (by decide), s29], fun j => by show y.1 30 j = _; rw [y1 30 j (by decide), s30], y2, y3⟩
theorem ra_rule_C {o : OO} (hn : o.1 4 0 = 4) (hl : ∀ r, -1 ≤ o.1 5 r ∧ o.1 5 r ≤ 40) (hc : 0 ≤ o.1 28 3) (x1 x2 : Int) : Pa (s_X11_rule o x1 x2) (RLO (-1) 28 3 29 30 31 o (o.1 0 13) x1 x2 (o.1 5 x1.toNat = -1)) := by
  unfold s_X11_rule b_X11_rule_18
  refine Pa_qB (ra_exists__4 hn x1) (fun r hr => Pa_qEq (fun h => ?_) (fun h => ?_))
  · exact Pa_some ⟨0, rlw0 (by omega), rfl, Or.inl ⟨by decide, rfl, fun _ => rfl, fun _ => rfl, fun _ => rfl⟩⟩
  refine Pa_qB (ra_isDay_C x2) (fun r2 hr2 => Pa_qEq (fun h2 => ?_) (fun h2 => ?_))
  · exact Pa_some ⟨0, rlw0 (by omega), rfl, Or.inl ⟨by decide, rfl, fun _ => rfl, fun _ => rfl, fun _ => rfl⟩⟩
  have hr_ : (0 ≤ x1 ∧ x1 ≤ 3) ∧ (0 ≤ x2 ∧ x2 ≤ 999) := by omega
  unfold s_X7_number
  refine Pa_qB (P := fun v => v = o.1 28 3) (Pa_some rfl) (fun r5 hr5 => ?_)
  subst hr5
  refine Pa_qLt (fun _ _ h3 => ?_) (fun _ _ h3 => ?_)
  · refine Pa_qB (ra_isThere__4 o x1) (fun r7 hr7 => Pa_qEq (fun h4 => ?_) (fun h4 => ?_))
    · exact Pa_qB2 (ra_found o 1) (fun r9 o9 h9 => Pa_some ⟨2, rlw2 hr_ h3 (by omega), h9.1, Or.inl ⟨by decide, h9.2 28 3 (by decide) (by decide), fun j => h9.2 29 j (by decide) (by decide), fun j => h9.2 30 j (by decide) (by decide), fun j => h9.2 31 j (by decide) (by decide)⟩⟩)
    have hl1 := hl x1.toNat
    refine Pa_qB (ra_firstFault (by omega) hl1.2) (fun r9 hr9 => Pa_qEq (fun h5 => ?_) (fun h5 => ?_))
    · exact Pa_qB2 (ra_add (by omega) hl1.2 (by omega) hc) (fun r8 o8 h8 => Pa_some ⟨4, rlw4 hr_ h3 (by omega) (by rw [← hr9]; exact h5), h8.1, Or.inr ⟨rfl, h8.2⟩⟩)
    · exact Pa_some ⟨3, rlw3 hr_ h3 (by omega) (by rw [← hr9]; exact h5), rfl, Or.inl ⟨by decide, rfl, fun _ => rfl, fun _ => rfl, fun _ => rfl⟩⟩
  · exact Pa_some ⟨1, rlw1 hr_ (by omega), rfl, Or.inl ⟨by decide, rfl, fun _ => rfl, fun _ => rfl, fun _ => rfl⟩⟩
theorem ra_rule_M {o : OO} (hl : ∀ r, -9 ≤ o.1 5 r ∧ o.1 5 r ≤ 40) (hc : 0 ≤ o.1 0 10) (hc2 : o.1 0 10 ≤ 16) (x1 x2 : Int) : Pa (s_X12_rule o x1 x2) (RLO (-9) 0 10 7 8 9 o (o.1 0 4) x1 x2 (o.1 5 x1.toNat < 0)) := by
  unfold s_X12_rule b_X12_rule_14
  refine Pa_qB (ra_isText x1) (fun r hr => Pa_qEq (fun h => ?_) (fun h => ?_))
  · exact Pa_some ⟨0, rlw0 (by omega), rfl, Or.inl ⟨by decide, rfl, fun _ => rfl, fun _ => rfl, fun _ => rfl⟩⟩
  refine Pa_qB (ra_isDay_M x2) (fun r2 hr2 => Pa_qEq (fun h2 => ?_) (fun h2 => ?_))
  · exact Pa_some ⟨0, rlw0 (by omega), rfl, Or.inl ⟨by decide, rfl, fun _ => rfl, fun _ => rfl, fun _ => rfl⟩⟩
  have hr_ : (0 ≤ x1 ∧ x1 ≤ 3) ∧ (0 ≤ x2 ∧ x2 ≤ 999) := by omega
  refine Pa_qEq (fun h3 => ?_) (fun h3 => ?_)
  · exact Pa_some ⟨1, rlw1 hr_ (by omega), rfl, Or.inl ⟨by decide, rfl, fun _ => rfl, fun _ => rfl, fun _ => rfl⟩⟩
  have h3 : o.1 0 10 < 16 := by omega
  refine Pa_qIn (fun _ => Pa_qNm (Pa_qLt (fun _ _ h4 => ?_) (fun _ _ h4 => ?_)))
  · unfold s_X12_meets
    refine Pa_qB2 (P := fun v => v = (-3, st1 (st1 o 0 0 1) 1 (1 : Int).toNat ((st1 o 0 0 1).1 1 (1 : Int).toNat + 1))) (Pa_qNm (Pa_qIn (fun _ => Pa_qNm (Pa_qIn (fun _ => Pa_qNm (Pa_some rfl)))))) (fun r9 o9 h9 => Pa_some ?_)
    cases h9
    refine ⟨2, rlw2 hr_ h3 h4, rfl, Or.inl ⟨by decide, rfl, fun j => ?_, fun j => ?_, fun j => ?_⟩⟩
    · show (st1 (st1 o 0 0 1) 1 _ _).1 7 j = _
      rw [st1_n (by decide), st1_n (by decide)]
    · show (st1 (st1 o 0 0 1) 1 _ _).1 8 j = _
      rw [st1_n (by decide), st1_n (by decide)]
    · show (st1 (st1 o 0 0 1) 1 _ _).1 9 j = _
      rw [st1_n (by decide), st1_n (by decide)]
  have hl1 := hl x1.toNat
  refine Pa_qB2 (ra_reads (by omega) hl1.2 (by omega)) (fun r8 u h8 => ?_)
  obtain ⟨e8, m8, t8⟩ := h8
  replace e8 : r8 = FT (TXF o x1) (o.1 5 x1.toNat) 40 0 := e8
  replace m8 : Sm 10 o u := m8
  replace t8 : r8 = -9 → ∀ w : Nat, w < 8 → u.1 10 w = IT (-9) (TXF o x1) (o.1 5 x1.toNat) w (o.1 5 x1.toNat).toNat := t8
  have un : u.1 0 10 = o.1 0 10 := m8 0 10 (by decide)
  refine Pa_qEq (fun h5 => ?_) (fun h5 => ?_)
  · refine Pa_qIn (fun _ => Pa_qNm (Pa_qIn (fun _ => Pa_qNm ?_)))
    unfold e_X12_rule_81
    obtain ⟨y, hy⟩ : ∃ y, y = st1 (st1 u 7 (u.1 0 10).toNat (u.1 0 4)) 8 ((st1 u 7 (u.1 0 10).toNat (u.1 0 4)).1 0 10).toNat x2 := ⟨_, rfl⟩
    rw [← hy]
    have yn : y.1 0 10 = o.1 0 10 := by rw [hy, st1_n (by decide), st1_n (by decide), un]
    have yi : ∀ w : Nat, w < 8 → y.1 10 w = IT (-9) (TXF o x1) (o.1 5 x1.toNat) w (o.1 5 x1.toNat).toNat := fun w hw => by rw [hy, st1_n (by decide), st1_n (by decide)]; exact t8 h5 w hw
    have y9 : ∀ j, y.1 9 j = o.1 9 j := fun j => by rw [hy, st1_n (by decide), st1_n (by decide), m8 9 j (by decide)]
    have y7 : ∀ j : Nat, y.1 7 j = if (j : Int) = o.1 0 10 then o.1 0 4 else o.1 7 j := fun j => by
      rw [hy, st1_n (by decide), st1_s, un, m8 0 4 (by decide), m8 7 j (by decide)]
      by_cases q : j = (o.1 0 10).toNat
      · rw [if_pos q, if_pos (by omega)]
      · rw [if_neg q, if_neg (by omega)]
    have y8 : ∀ j : Nat, y.1 8 j = if (j : Int) = o.1 0 10 then x2 else o.1 8 j := fun j => by
      rw [hy, st1_s, st1_n (by decide), st1_n (by decide), un, m8 8 j (by decide)]
      by_cases q : j = (o.1 0 10).toNat
      · rw [if_pos q, if_pos (by omega)]
      · rw [if_neg q, if_neg (by omega)]
    refine Pa_qB (P := fun z => Sm 9 y z ∧ (∀ j : Nat, (j : Int) < 8 * o.1 0 10 → z.1 9 j = o.1 9 j) ∧ ∀ w : Nat, w < 8 → z.1 9 (8 * (o.1 0 10).toNat + w) = IT (-9) (TXF o x1) (o.1 5 x1.toNat) w (o.1 5 x1.toNat).toNat) ?_ (fun z hz => ?_)
    · refine Pa_loop (I := fun s => (0 ≤ s.2 ∧ s.2 ≤ 8) ∧ Sm 9 y s.1 ∧ (∀ j : Nat, (j : Int) < 8 * o.1 0 10 → s.1.1 9 j = o.1 9 j) ∧ ∀ w : Nat, (w : Int) < s.2 → s.1.1 9 (8 * (o.1 0 10).toNat + w) = IT (-9) (TXF o x1) (o.1 5 x1.toNat) w (o.1 5 x1.toNat).toNat) ⟨⟨show (0 : Int) ≤ 0 by decide, show (0 : Int) ≤ 8 by decide⟩, fun _ _ _ => rfl, fun j hj => y9 j, fun w hw => absurd (show (w : Int) < 0 from hw) (by omega)⟩ (fun s hs => ?_)
      obtain ⟨z, i⟩ := s
      obtain ⟨⟨i1, i2⟩, i3, i4, i5⟩ := hs
      replace i1 : 0 ≤ i := i1
      replace i2 : i ≤ 8 := i2
      replace i3 : Sm 9 y z := i3
      replace i4 : ∀ j : Nat, (j : Int) < 8 * o.1 0 10 → z.1 9 j = o.1 9 j := i4
      replace i5 : ∀ w : Nat, (w : Int) < i → z.1 9 (8 * (o.1 0 10).toNat + w) = IT (-9) (TXF o x1) (o.1 5 x1.toNat) w (o.1 5 x1.toNat).toNat := i5
      show Pa (l_X12_rule_81 z i) _
      unfold l_X12_rule_81
      refine Pa_qLt (fun _ _ h => Pa_qIn (fun _ => Pa_qNm (Pa_qIn (fun _ => Pa_qNm (Pa_some ?_))))) (fun _ _ h => Pa_some ?_)
      · show (0 ≤ i + 1 ∧ i + 1 ≤ 8) ∧ Sm 9 y (st1 z 9 (8 * z.1 0 10 + i).toNat (z.1 10 i.toNat)) ∧ (∀ j : Nat, (j : Int) < 8 * o.1 0 10 → (st1 z 9 (8 * z.1 0 10 + i).toNat (z.1 10 i.toNat)).1 9 j = o.1 9 j) ∧ ∀ w : Nat, (w : Int) < i + 1 → (st1 z 9 (8 * z.1 0 10 + i).toNat (z.1 10 i.toNat)).1 9 (8 * (o.1 0 10).toNat + w) = IT (-9) (TXF o x1) (o.1 5 x1.toNat) w (o.1 5 x1.toNat).toNat
        have zn : z.1 0 10 = o.1 0 10 := by rw [i3 0 10 (by decide), yn]
        rw [zn]
        refine ⟨⟨by omega, by omega⟩, fun k j hk => by rw [st1_n hk]; exact i3 k j hk, fun j hj => ?_, fun w hw => ?_⟩
        · rw [st1_s, if_neg (by omega)]
          exact i4 j hj
        · rw [st1_s]
          by_cases q : 8 * (o.1 0 10).toNat + w = (8 * o.1 0 10 + i).toNat
          · rw [if_pos q, i3 10 _ (by decide), yi _ (by omega), show i.toNat = w by omega]
          · rw [if_neg q]
            exact i5 w (by omega)
      · show Sm 9 y z ∧ (∀ j : Nat, (j : Int) < 8 * o.1 0 10 → z.1 9 j = o.1 9 j) ∧ ∀ w : Nat, w < 8 → z.1 9 (8 * (o.1 0 10).toNat + w) = IT (-9) (TXF o x1) (o.1 5 x1.toNat) w (o.1 5 x1.toNat).toNat
        exact ⟨i3, i4, fun w hw => i5 w (by omega)⟩
    · obtain ⟨z1, z2, z3⟩ := hz
      unfold b_X12_rule_113
      have zn : z.1 0 10 = o.1 0 10 := by rw [z1 0 10 (by decide), yn]
      refine Pa_qNm (Pa_some ⟨4, rlw4 hr_ h3 h4 (by rw [← e8]; exact h5), ?_, Or.inr ⟨rfl, ?_, fun j => ?_, fun j => ?_, fun j hj => ?_, fun w hw => ?_⟩⟩)
      · show z.1 0 10 + 1 - 1 = o.1 0 10
        omega
      · show z.1 0 10 + 1 = o.1 0 10 + 1
        rw [zn]
      · show (st1 z 0 10 _).1 7 j = _
        rw [st1_n (by decide), z1 7 j (by decide), y7]
      · show (st1 z 0 10 _).1 8 j = _
        rw [st1_n (by decide), z1 8 j (by decide), y8]
      · show (st1 z 0 10 _).1 9 j = _
        rw [st1_n (by decide), z2 j hj]
      · show (st1 z 0 10 _).1 9 _ = _
        rw [st1_n (by decide), z3 w hw]
  · refine Pa_some ⟨3, rlw3 hr_ h3 h4 (by rw [← e8]; exact h5), rfl, Or.inl ⟨by decide, un, fun j => m8 7 j (by decide), fun j => m8 8 j (by decide), fun j => m8 9 j (by decide)⟩⟩
theorem RLW.same {n : Int} {bC bM : Prop} {fC fM : Int} {x1 x2 : Int} {k k' : Nat} (hb : (0 ≤ x1 ∧ x1 ≤ 3) → (bC ↔ bM)) (hf : (0 ≤ x1 ∧ x1 ≤ 3) → ¬ bM → fC = fM) (hC : RLW n bC fC x1 x2 k) (hM : RLW n bM fM x1 x2 k') : k = k' := by
  rcases hC with ⟨e, a⟩ | ⟨e, a, a2⟩ | ⟨e, a, a2, a3⟩ | ⟨e, a, a2, a3, a4⟩ | ⟨e, a, a2, a3, a4⟩ <;> rcases hM with ⟨e', b⟩ | ⟨e', b, b2⟩ | ⟨e', b, b2, b3⟩ | ⟨e', b, b2, b3, b4⟩ | ⟨e', b, b2, b3, b4⟩ <;> first | exact e.trans e'.symm | exact absurd a b | exact absurd b a | (exfalso; omega) | exact absurd ((hb a.1).mp a3) b3 | exact absurd ((hb a.1).mpr b3) a3 | exact absurd ((hf a.1 b3).trans b4) a4 | exact absurd ((hf a.1 b3).symm.trans a4) b4
theorem RU.rule {oC oM : OO} {x1 x2 : Int} {vC vM : Int × OO} (h : RU oC oM) (hs : SH6 oC oM) (hd : oC.1 0 13 = oM.1 0 4) (hn : 0 ≤ oM.1 0 10) (hb : ∀ r, -9 ≤ oM.1 5 r ∧ oM.1 5 r ≤ 40) (hC : RLO (-1) 28 3 29 30 31 oC (oC.1 0 13) x1 x2 (oC.1 5 x1.toNat = -1) vC) (hM : RLO (-9) 0 10 7 8 9 oM (oM.1 0 4) x1 x2 (oM.1 5 x1.toNat < 0) vM) : vC.1 = vM.1 ∧ RU vC.2 vM.2 := by
  obtain ⟨k, w, e, c⟩ := hC
  obtain ⟨k', w', e', c'⟩ := hM
  have key : (0 ≤ x1 ∧ x1 ≤ 3) → oC.1 5 x1.toNat = SZ (oM.1 5 x1.toNat) := fun q => hs.1 x1.toNat (by omega)
  have kn : oM.1 5 x1.toNat < 0 → SZ (oM.1 5 x1.toNat) = -1 := fun q => SZ_neg q
  have kp : 0 ≤ oM.1 5 x1.toNat → SZ (oM.1 5 x1.toNat) = oM.1 5 x1.toNat := fun q => SZ_nn q
  have tx : (0 ≤ x1 ∧ x1 ≤ 3) → ∀ k : Nat, (k : Int) < oM.1 5 x1.toNat → TXF oC x1 k = TXF oM x1 k := fun q k hk => hs.2 x1.toNat k (by omega) hk
  rw [h.1] at w
  have ek : k = k' := RLW.same (fun q => by
      have k1 := key q
      by_cases c : oM.1 5 x1.toNat < 0
      · have := kn c; omega
      · have := kp (by omega); omega) (fun q b => by
      have k1 := key q
      have k3 := kp (by omega)
      rw [k1, k3]
      exact FT_cg (tx q) 40 0) w w'
  subst ek
  refine ⟨by rw [e, e', h.1], ?_⟩
  rcases c with ⟨q, c1, c2, c3, c4⟩ | ⟨q, c⟩
  · rcases c' with ⟨q', d1, d2, d3, d4⟩ | ⟨q', c'⟩
    · refine ⟨by rw [c1, d1]; exact h.1, fun j hj => ?_, fun j w hj hw => ?_⟩
      · rw [d1] at hj
        rw [c2, c3, d2, d3]
        exact h.2.1 j hj
      · rw [d1] at hj
        rw [c4, d4]
        exact h.2.2 j w hj hw
    · exact absurd q' q
  · rcases c' with ⟨q', d1, d2, d3, d4⟩ | ⟨q', c'⟩
    · exact absurd q q'
    · subst q
      have hw : (0 ≤ x1 ∧ x1 ≤ 3) ∧ ¬ oM.1 5 x1.toNat < 0 := by
        rcases w' with ⟨z, c⟩ | ⟨z, c, c2⟩ | ⟨z, c, c2, c3⟩ | ⟨z, c, c2, c3, c4⟩ | ⟨z, c, c2, c3, c4⟩
        · exact absurd z (by decide)
        · exact absurd z (by decide)
        · exact absurd z (by decide)
        · exact absurd z (by decide)
        · exact ⟨c.1, c3⟩
      have k1 := key hw.1
      have k3 := kp (by omega)
      obtain ⟨c1, c2, c3, c4, c5⟩ := c
      obtain ⟨d1, d2, d3, d4, d5⟩ := c'
      refine ⟨by rw [c1, d1, h.1], fun j hj => ?_, fun j w hj hw2 => ?_⟩
      · rw [d1] at hj
        rw [c2, c3, d2, d3, h.1]
        by_cases q : (j : Int) = oM.1 0 10
        · rw [if_pos q, if_pos q, if_pos q, if_pos q]
          exact ⟨hd, rfl⟩
        · rw [if_neg q, if_neg q, if_neg q, if_neg q]
          exact h.2.1 j (by omega)
      · rw [d1] at hj
        rw [h.1] at c4 c5
        by_cases q : (j : Int) = oM.1 0 10
        · rw [show j = (oM.1 0 10).toNat by omega, c5 w hw2, d5 w hw2, IT_z, k1, k3, IT_cg (tx hw.1) w _ (by omega)]
        · rw [c4 _ (by omega), d4 _ (by omega)]
          exact h.2.2 j w (by omega) hw2
