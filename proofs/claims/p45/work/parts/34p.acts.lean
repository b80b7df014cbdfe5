theorem ra_meets0 (o : OO) (x1 : Int) : Pa (s_X12_meets o x1) (fun v => FNG 0 1 o v ∧ ∀ j, ¬ j = 0 → v.2.1 0 j = o.1 0 j) := by
  unfold s_X12_meets
  refine Pa_qNm (Pa_qIn (fun _ => Pa_qNm (Pa_qIn (fun _ => Pa_qNm (Pa_some ⟨⟨rfl, fun k j h0 h1 => ?_⟩, fun j hj => ?_⟩)))))
  · (try dsimp only)
    rw [st1_n h1, st1_n h0]
  · (try dsimp only)
    rw [st1_n (by decide), st1_s, if_neg hj]
theorem ra_askedRow0 (o : OO) (x1 : Int) : Pa (s_X12_askedRow o x1) (fun v => ASK2 o x1 v ∧ ∀ j, ¬ j = 0 → v.2.1 0 j = o.1 0 j) := by
  unfold s_X12_askedRow b_X12_askedRow_29
  refine Pa_qB (ra_isRow x1) (fun r hr => Pa_qEq (fun h => ?_) (fun h => ?_))
  · exact Pa_some ⟨Or.inl ⟨rfl, by omega, rfl⟩, fun _ _ => rfl⟩
  refine Pa_qIn (fun hi => Pa_qNm (Pa_qLt (fun _ _ h2 => ?_) (fun _ _ h2 => ?_)))
  · exact Pa_qB2 (ra_meets0 o 1) (fun r9 o9 h9 => Pa_some ⟨Or.inr (Or.inl ⟨h9.1.1, by omega, h2, h9.1.2⟩), h9.2⟩)
  · exact Pa_some ⟨Or.inr (Or.inr ⟨rfl, by omega, h2, rfl⟩), fun _ _ => rfl⟩
-- ---------- acts of the reference
def GF (f : Nat → Int) (n r m : Int) : Prop := (r = 1 ∧ ∀ j : Nat, (j : Int) < m → AG f n j) ∨ (r = 0 ∧ ¬ ∀ j : Nat, (j : Int) < m → AG f n j)
def I99 (f : Nat → Int) (n i : Int) (s : Int × Int) : Prop := (0 ≤ s.2 ∧ s.2 ≤ 2) ∧ ((s.1 = 1 ∧ (∀ j : Nat, (j : Int) < i → AG f n j) ∧ (0 ≤ f (3 * i.toNat) ∧ f (3 * i.toNat) ≤ 200) ∧ (1 ≤ s.2 → AHv (f (3 * i.toNat + 1)) n) ∧ (2 ≤ s.2 → AHv (f (3 * i.toNat + 2)) n)) ∨ (s.1 = 0 ∧ ¬ ∀ j : Nat, (j : Int) < i + 1 → AG f n j))
theorem ra_acts_99 {o : OO} {x1 n z i g : Int} {f : Nat → Int} (h1 : 0 ≤ x1) (i0 : 0 ≤ i) (hi : i < n) (hz : z = 3 * n) (hf : RW o x1 z = f) (hg : (g = 1 ∧ (∀ j : Nat, (j : Int) < i → AG f n j) ∧ (0 ≤ f (3 * i.toNat) ∧ f (3 * i.toNat) ≤ 200)) ∨ (g = 0 ∧ ¬ ∀ j : Nat, (j : Int) < i + 1 → AG f n j)) : Pa (loopW (fun s : Int × Int => l_X12_acts_99 o x1 n i s.1 s.2) (g, 0)) (fun r => GF f n r (i + 1)) := by
  refine Pa_loop (I := I99 f n i) ⟨⟨Int.le_refl 0, by show (0 : Int) ≤ 2; decide⟩, hg.imp (fun q => ⟨q.1, q.2.1, q.2.2, fun c => absurd (show (1 : Int) ≤ 0 from c) (by decide), fun c => absurd (show (2 : Int) ≤ 0 from c) (by decide)⟩) id⟩ (fun s hs => ?_)
  obtain ⟨g, k⟩ := s
  obtain ⟨⟨k1, k2⟩, k3⟩ := hs
  replace k1 : 0 ≤ k := k1
  replace k2 : k ≤ 2 := k2
  replace k3 : (g = 1 ∧ (∀ j : Nat, (j : Int) < i → AG f n j) ∧ (0 ≤ f (3 * i.toNat) ∧ f (3 * i.toNat) ≤ 200) ∧ (1 ≤ k → AHv (f (3 * i.toNat + 1)) n) ∧ (2 ≤ k → AHv (f (3 * i.toNat + 2)) n)) ∨ (g = 0 ∧ ¬ ∀ j : Nat, (j : Int) < i + 1 → AG f n j) := k3
  show Pa (l_X12_acts_99 o x1 n i g k) _
  unfold l_X12_acts_99 b_X12_acts_143 b_X12_acts_147 b_X12_acts_148
  refine Pa_qLt (fun _ _ h => Pa_qEq (fun h2 => Pa_some ?_) (fun h2 => ?_)) (fun _ _ h => Pa_some ?_)
  · show I99 f n i (0, k + 1)
    refine ⟨⟨by show 0 ≤ k + 1; omega, by show k + 1 ≤ 2; omega⟩, Or.inr ⟨rfl, ?_⟩⟩
    rcases k3 with q | q
    · exact absurd (q.1.symm.trans h2) (by decide)
    · exact q.2
  · have a := ra_ahead (o := o) (x1 := x1) (x2 := i) (x3 := k) (z := z) h1 i0 k1 (by omega)
    rw [hf] at a
    have k4 : (∀ j : Nat, (j : Int) < i → AG f n j) ∧ (0 ≤ f (3 * i.toNat) ∧ f (3 * i.toNat) ≤ 200) ∧ (1 ≤ k → AHv (f (3 * i.toNat + 1)) n) ∧ (2 ≤ k → AHv (f (3 * i.toNat + 2)) n) := by
      rcases k3 with q | q
      · exact q.2
      · exact absurd q.1 h2
    have good : AHv (f (3 * i.toNat + 1 + k.toNat)) n → I99 f n i (1, k + 1) := fun c => by
      refine ⟨⟨by show 0 ≤ k + 1; omega, by show k + 1 ≤ 2; omega⟩, Or.inl ⟨rfl, k4.1, k4.2.1, fun _ => ?_, fun q => ?_⟩⟩
      · by_cases e : k = 0
        · rw [show 3 * i.toNat + 1 + k.toNat = 3 * i.toNat + 1 by omega] at c
          exact c
        · exact k4.2.2.1 (by omega)
      · replace q : 2 ≤ k + 1 := q
        rw [show 3 * i.toNat + 1 + k.toNat = 3 * i.toNat + 2 by omega] at c
        exact c
    have bad : ¬ AHv (f (3 * i.toNat + 1 + k.toNat)) n → I99 f n i (0, k + 1) := fun c => by
      refine ⟨⟨by show 0 ≤ k + 1; omega, by show k + 1 ≤ 2; omega⟩, Or.inr ⟨rfl, fun q => c ?_⟩⟩
      have q2 := q i.toNat (by omega)
      by_cases e : k = 0
      · rw [show 3 * i.toNat + 1 + k.toNat = 3 * i.toNat + 1 by omega]
        exact q2.2.1
      · rw [show 3 * i.toNat + 1 + k.toNat = 3 * i.toNat + 2 by omega]
        exact q2.2.2
    refine Pa_qB a (fun r62 h62 => Pa_qEq (fun h3 => Pa_some (good (Or.inl (h62.symm.trans h3)))) (fun h3 => Pa_qB a (fun r64 h64 => Pa_qB (ra_in r64 0 (n - 1)) (fun r66 h66 => Pa_qEq (fun h4 => Pa_some (bad (fun q => ?_))) (fun h4 => Pa_some (good ?_))))))
    · rcases q with q | q
      · exact h3 (h62.trans q)
      · omega
    · exact Or.inr (by omega)
  · show GF f n g (i + 1)
    refine k3.imp (fun q => ⟨q.1, fun j hj => ?_⟩) id
    by_cases e : j = i.toNat
    · subst e
      exact ⟨q.2.2.1, q.2.2.2.1 (by omega), q.2.2.2.2 (by omega)⟩
    · exact q.2.1 j (by omega)
def I54 (f : Nat → Int) (n : Int) (o : OO) (s : OO × Int × Int) : Prop := (0 ≤ s.2.2 ∧ s.2.2 ≤ n) ∧ GF f n s.2.1 s.2.2 ∧ (∀ j : Nat, (j : Int) < s.2.2 → s.1.1 56 j = -9) ∧ Sm 56 o s.1
def E54 (f : Nat → Int) (n : Int) (o : OO) (v : OO × Int) : Prop := GF f n v.2 n ∧ (∀ j : Nat, (j : Int) < n → v.1.1 56 j = -9) ∧ Sm 56 o v.1
theorem ra_acts_54 {o : OO} {x1 n z : Int} {f : Nat → Int} (h1 : 0 ≤ x1) (hn : 1 ≤ n ∧ n ≤ 13) (hz : z = 3 * n) (hf : RW o x1 z = f) : Pa (loopW (fun s : OO × Int × Int => l_X12_acts_54 x1 n s.1 s.2.1 s.2.2) (o, 1, 0)) (E54 f n o) := by
  refine Pa_loop (I := I54 f n o) ⟨⟨Int.le_refl 0, by show 0 ≤ n; omega⟩, Or.inl ⟨rfl, fun j hj => absurd (show (j : Int) < 0 from hj) (by omega)⟩, fun j hj => absurd (show (j : Int) < 0 from hj) (by omega), fun _ _ _ => rfl⟩ (fun s hs => ?_)
  obtain ⟨y, g, i⟩ := s
  obtain ⟨⟨i1, i2⟩, i3, i4, i5⟩ := hs
  replace i1 : 0 ≤ i := i1
  replace i2 : i ≤ n := i2
  replace i3 : GF f n g i := i3
  replace i4 : ∀ j : Nat, (j : Int) < i → y.1 56 j = -9 := i4
  replace i5 : Sm 56 o y := i5
  have rw_ : RW y x1 z = f := by rw [RW_cg x1 z (fun j => i5 3 j (by decide))]; exact hf
  show Pa (l_X12_acts_54 x1 n y g i) _
  unfold l_X12_acts_54 b_X12_acts_93 b_X12_acts_94
  refine Pa_qLt (fun _ _ h => ?_) (fun _ _ h => Pa_some ?_)
  · have nx : ∀ g', (g' = 1 ∧ (∀ j : Nat, (j : Int) < i → AG f n j) ∧ (0 ≤ f (3 * i.toNat) ∧ f (3 * i.toNat) ≤ 200)) ∨ (g' = 0 ∧ ¬ ∀ j : Nat, (j : Int) < i + 1 → AG f n j) → Pa (e_X12_acts_99 y x1 n g' i 0) (Sum.elim (I54 f n o) (E54 f n o)) := fun g' hg' => by
      unfold e_X12_acts_99
      refine Pa_qB (ra_acts_99 h1 i1 h hz rw_ hg') (fun r hr => ?_)
      unfold b_X12_acts_156
      refine Pa_qIn (fun _ => Pa_qNm (Pa_some ?_))
      show I54 f n o (st1 y 56 i.toNat (-9), r, i + 1)
      refine ⟨⟨by show 0 ≤ i + 1; omega, by show i + 1 ≤ n; omega⟩, hr, fun j hj => ?_, fun k j hk => by show (st1 y 56 i.toNat (-9)).1 k j = _; rw [st1_n hk]; exact i5 k j hk⟩
      replace hj : (j : Int) < i + 1 := hj
      show (st1 y 56 i.toNat (-9)).1 56 j = -9
      rw [st1_s]
      by_cases q : j = i.toNat
      · rw [if_pos q]
      · rw [if_neg q]
        exact i4 j (by omega)
    refine Pa_qEq (fun h2 => nx 0 (Or.inr ⟨rfl, fun q => ?_⟩)) (fun h2 => Pa_qIn (fun _ => Pa_qNm ?_))
    · rcases i3 with c | c
      · exact absurd (c.1.symm.trans h2) (by decide)
      · exact c.2 (fun j hj => q j (by omega))
    rw [RW_at (o := y) (x1 := x1) (z := z) (k := 3 * i.toNat) (by omega) (by omega), rw_]
    have i6 : ∀ j : Nat, (j : Int) < i → AG f n j := by
      rcases i3 with c | c
      · exact c.2
      · exact absurd c.1 h2
    refine Pa_qB (ra_in _ 0 200) (fun r70 h70 => Pa_qEq (fun h3 => nx 0 (Or.inr ⟨rfl, fun q => ?_⟩)) (fun h3 => nx 1 (Or.inl ⟨rfl, i6, by omega⟩)))
    have q2 := (q i.toNat (by omega)).1
    omega
  · show E54 f n o (y, g)
    have e : i = n := by omega
    subst e
    exact ⟨i3, i4, i5⟩
def I191 (T : Int) (f : Nat → Int) (n : Int) (S0 : (Nat → Int) × Int) (o : OO) (s : OO × Int × Int) : Prop := (0 ≤ s.2.2 ∧ s.2.2 ≤ n) ∧ MT 56 n s.1 s.2.1 (ASW T f S0 s.2.2.toNat) ∧ Sm 56 o s.1
def E191 (T : Int) (f : Nat → Int) (n : Int) (S0 : (Nat → Int) × Int) (o : OO) (v : OO × Int) : Prop := MT 56 n v.1 v.2 (ASW T f S0 n.toNat) ∧ Sm 56 o v.1
theorem ra_acts_191 {o y : OO} {x1 n z T g r d : Int} {f : Nat → Int} {S0 : (Nat → Int) × Int} (h1 : 0 ≤ x1) (hn : 1 ≤ n ∧ n ≤ 13) (hz : z = 3 * n) (hf : RW o x1 z = f) (hT : 0 ≤ T) (ht : o.1 0 4 = T) (hg : ∀ i : Nat, (i : Int) < n → AG f n i) (hI0 : IS T n S0) (hm : MT 56 n y d S0) (ho : Sm 56 o y) : Pa (loopW (fun s : OO × Int × Int => l_X12_acts_191 x1 n g r s.1 s.2.1 s.2.2) (y, d, 0)) (E191 T f n S0 o) := by
  refine Pa_loop (I := I191 T f n S0 o) ⟨⟨Int.le_refl 0, by show 0 ≤ n; omega⟩, hm, ho⟩ (fun s hs => ?_)
  obtain ⟨w, d2, i⟩ := s
  obtain ⟨⟨i1, i2⟩, im, io⟩ := hs
  replace i1 : 0 ≤ i := i1
  replace i2 : i ≤ n := i2
  replace im : MT 56 n w d2 (ASW T f S0 i.toNat) := im
  replace io : Sm 56 o w := io
  obtain ⟨S, hS⟩ : ∃ S, S = ASW T f S0 i.toNat := ⟨_, rfl⟩
  rw [← hS] at im
  have nx : ASW T f S0 (i + 1).toNat = ASG T f S i.toNat := by
    rw [show (i + 1).toNat = i.toNat + 1 by omega, hS]
    rfl
  have rw_ : RW w x1 z = f := by rw [RW_cg x1 z (fun j => io 3 j (by decide))]; exact hf
  have wt : w.1 0 4 = T := by rw [io 0 4 (by decide)]; exact ht
  show Pa (l_X12_acts_191 x1 n g r w d2 i) _
  unfold l_X12_acts_191
  refine Pa_qLt (fun _ _ h => ?_) (fun _ _ h => Pa_some ?_)
  · have hI : IS T n S := by rw [hS]; exact IS_ASW hT hg hI0 i.toNat (by omega)
    have gi := hg i.toNat (by omega)
    have stay : ¬ (S.1 i.toNat < 0 ∧ 0 ≤ AEo T S.1 (f (3 * i.toNat + 1)) ∧ 0 ≤ AEo T S.1 (f (3 * i.toNat + 2))) → I191 T f n S0 o (w, d2, i + 1) := fun c => by
      refine ⟨⟨by show 0 ≤ i + 1; omega, by show i + 1 ≤ n; omega⟩, ?_, io⟩
      show MT 56 n w d2 (ASW T f S0 (i + 1).toNat)
      rw [nx, AS_no c]
      exact im
    have a1 := ra_ahead (o := w) (x1 := x1) (x2 := i) (x3 := 0) (z := z) h1 i1 (by decide) (by omega)
    have a2 := ra_ahead (o := w) (x1 := x1) (x2 := i) (x3 := 1) (z := z) h1 i1 (by decide) (by omega)
    rw [rw_, show 3 * i.toNat + 1 + (0 : Int).toNat = 3 * i.toNat + 1 by omega] at a1
    rw [rw_, show 3 * i.toNat + 1 + (1 : Int).toNat = 3 * i.toNat + 2 by omega] at a2
    have k265 : ∀ a b : Int, a = AEo T S.1 (f (3 * i.toNat + 1)) → b = AEo T S.1 (f (3 * i.toNat + 2)) → Pa (b_X12_acts_265 w x1 n g d2 r i a b) (Sum.elim (I191 T f n S0 o) (E191 T f n S0 o)) := fun a b ha hb => by
      unfold b_X12_acts_265 b_X12_acts_326
      have mi := im.1 i.toNat (by omega)
      have go : a < 0 ∨ b < 0 ∨ Pa (b_X12_acts_307 w x1 n g d2 r i i (max a b)) (Sum.elim (I191 T f n S0 o) (E191 T f n S0 o)) ∨ 0 ≤ w.1 56 i.toNat := by
        by_cases c : S.1 i.toNat < 0 ∧ 0 ≤ AEo T S.1 (f (3 * i.toNat + 1)) ∧ 0 ≤ AEo T S.1 (f (3 * i.toNat + 2))
        · refine Or.inr (Or.inr (Or.inl ?_))
          unfold b_X12_acts_307 b_X12_acts_326
          refine Pa_qIn (fun _ => Pa_qNm ?_)
          rw [RW_at (o := w) (x1 := x1) (z := z) (k := 3 * i.toNat) (by omega) (by omega), rw_]
          refine Pa_qIn (fun _ => Pa_qNm (Pa_some ?_))
          show I191 T f n S0 o (st1 w 56 i.toNat (max a b + f (3 * i.toNat)), d2 + 1, i + 1)
          refine ⟨⟨by show 0 ≤ i + 1; omega, by show i + 1 ≤ n; omega⟩, ?_, fun k j hk => by show (st1 w 56 i.toNat _).1 k j = _; rw [st1_n hk]; exact io k j hk⟩
          show MT 56 n (st1 w 56 i.toNat (max a b + f (3 * i.toNat))) (d2 + 1) (ASW T f S0 (i + 1).toNat)
          rw [nx, AS_go c]
          refine ⟨fun j hj => ?_, by show d2 + 1 = S.2 + 1; rw [im.2]⟩
          rw [st1_s, ha, hb]
          show (if j = i.toNat then _ else w.1 56 j) = (if j = i.toNat then _ else S.1 j)
          by_cases q : j = i.toNat
          · rw [if_pos q, if_pos q]
          · rw [if_neg q, if_neg q]
            exact im.1 j hj
        · rw [← ha, ← hb] at c
          omega
      refine Pa_qIn (fun _ => Pa_qNm (Pa_qLt (fun _ _ g1 => Pa_qLt (fun _ _ g2 => Pa_some (stay (by omega))) (fun _ _ g2 => Pa_qLt (fun _ _ g3 => Pa_some (stay (by omega))) (fun _ _ g3 => Pa_qLt (fun _ _ g4 => ?_) (fun _ _ g4 => ?_)))) (fun _ _ g1 => Pa_some (stay (by omega)))))
      · rcases go with c | c | c | c
        · omega
        · omega
        · rw [show max a b = a by omega] at c
          exact c
        · omega
      · rcases go with c | c | c | c
        · omega
        · omega
        · rw [show max a b = b by omega] at c
          exact c
        · omega
    have k230 : ∀ a : Int, a = AEo T S.1 (f (3 * i.toNat + 1)) → Pa (b_X12_acts_230 w x1 n g d2 r i a) (Sum.elim (I191 T f n S0 o) (E191 T f n S0 o)) := fun a ha => by
      unfold b_X12_acts_230
      refine Pa_qB a2 (fun r48 h48 => Pa_qEq (fun c => k265 a _ ha ?_) (fun c => Pa_qB a2 (fun r50 h50 => Pa_qIn (fun _ => Pa_qNm (k265 a _ ha ?_)))))
      · unfold AEo
        rw [if_pos (h48.symm.trans c)]
        exact wt
      · unfold AEo
        rw [if_neg (fun q => c (h48.trans q)), h50]
        rcases gi.2.2 with q | q
        · exact absurd (h48.trans q) c
        · exact im.1 _ (by omega)
    refine Pa_qB a1 (fun r54 h54 => Pa_qEq (fun c => k230 _ ?_) (fun c => Pa_qB a1 (fun r56 h56 => Pa_qIn (fun _ => Pa_qNm (k230 _ ?_)))))
    · unfold AEo
      rw [if_pos (h54.symm.trans c)]
      exact wt
    · unfold AEo
      rw [if_neg (fun q => c (h54.trans q)), h56]
      rcases gi.2.1 with q | q
      · exact absurd (h54.trans q) c
      · exact im.1 _ (by omega)
  · show E191 T f n S0 o (w, d2)
    have e : i = n := by omega
    rw [hS, e] at im
    exact ⟨im, io⟩
def I177 (T : Int) (f : Nat → Int) (n : Int) (o : OO) (s : OO × Int × Int) : Prop := (0 ≤ s.2.2 ∧ s.2.2 ≤ n) ∧ MT 56 n s.1 s.2.1 (ARD T f n.toNat AX0 s.2.2.toNat) ∧ Sm 56 o s.1
def E177 (T : Int) (f : Nat → Int) (n : Int) (o : OO) (v : OO × Int) : Prop := MT 56 n v.1 v.2 (AX T f n) ∧ Sm 56 o v.1
theorem ra_acts_177 {o y : OO} {x1 n z T : Int} {f : Nat → Int} (h1 : 0 ≤ x1) (hn : 1 ≤ n ∧ n ≤ 13) (hz : z = 3 * n) (hf : RW o x1 z = f) (hT : 0 ≤ T) (ht : o.1 0 4 = T) (hg : ∀ i : Nat, (i : Int) < n → AG f n i) (hm : ∀ j : Nat, (j : Int) < n → y.1 56 j = -9) (ho : Sm 56 o y) : Pa (loopW (fun s : OO × Int × Int => l_X12_acts_177 x1 n 1 s.1 s.2.1 s.2.2) (y, 0, 0)) (E177 T f n o) := by
  refine Pa_loop (I := I177 T f n o) ⟨⟨Int.le_refl 0, by show 0 ≤ n; omega⟩, ⟨hm, rfl⟩, ho⟩ (fun s hs => ?_)
  obtain ⟨w, d, r⟩ := s
  obtain ⟨⟨r1, r2⟩, im, io⟩ := hs
  replace r1 : 0 ≤ r := r1
  replace r2 : r ≤ n := r2
  replace im : MT 56 n w d (ARD T f n.toNat AX0 r.toNat) := im
  replace io : Sm 56 o w := io
  show Pa (l_X12_acts_177 x1 n 1 w d r) _
  unfold l_X12_acts_177
  refine Pa_qLt (fun _ _ h => Pa_qEq (fun c => absurd c (by decide)) (fun _ => ?_)) (fun _ _ h => Pa_some ?_)
  · unfold e_X12_acts_191
    refine Pa_qB (ra_acts_191 h1 hn hz hf hT ht hg (IS_ARD hT (by omega) hg (IS_0 T) r.toNat) im io) (fun v hv => ?_)
    unfold b_X12_acts_332
    refine Pa_some ?_
    show I177 T f n o (v.1, v.2, r + 1)
    refine ⟨⟨by show 0 ≤ r + 1; omega, by show r + 1 ≤ n; omega⟩, ?_, hv.2⟩
    show MT 56 n v.1 v.2 (ARD T f n.toNat AX0 (r + 1).toNat)
    rw [show (r + 1).toNat = r.toNat + 1 by omega]
    exact hv.1
  · show E177 T f n o (w, d)
    have e : r = n := by omega
    subst e
    exact ⟨im, io⟩
theorem ra_acts_402 {o : OO} {x1 n a : Int} (h0 : 0 ≤ n) : Pa (b_X12_acts_402 o x1 n a) (fun v => v.1 = a ∧ v.2.1 0 65 = n ∧ ∀ j : Nat, (j : Int) < n → v.2.1 54 j = o.1 56 j) := by
  unfold b_X12_acts_402 e_X12_acts_405
  refine Pa_qB (P := fun v : OO => Sm 57 o v) ?_ (fun y hy => ?_)
  · refine Pa_loop (I := fun s : OO × Int => Sm 57 o s.1) (fun _ _ _ => rfl) (fun s hs => ?_)
    obtain ⟨w, i⟩ := s
    replace hs : Sm 57 o w := hs
    show Pa (l_X12_acts_405 x1 n a w i) _
    unfold l_X12_acts_405
    refine Pa_qLt (fun _ _ h => Pa_qIn (fun _ => Pa_qNm (Pa_qIn (fun _ => Pa_qNm (Pa_some ?_))))) (fun _ _ h => Pa_some hs)
    show Sm 57 o (st1 w 57 i.toNat (a - w.1 56 i.toNat))
    exact fun k j hk => by rw [st1_n hk]; exact hs k j hk
  unfold b_X12_acts_434 e_X12_acts_437
  refine Pa_qB (P := fun v : OO => Sm 57 o v) ?_ (fun y2 hy2 => ?_)
  · refine Pa_loop (I := fun s : OO × Int => Sm 57 o s.1) hy (fun s hs => ?_)
    obtain ⟨w, i⟩ := s
    replace hs : Sm 57 o w := hs
    show Pa (l_X12_acts_437 x1 n a w i) _
    unfold l_X12_acts_437
    refine Pa_qLt (fun _ _ h => ?_) (fun _ _ h => Pa_some hs)
    unfold e_X12_acts_446
    refine Pa_qB (P := fun v : OO => Sm 57 o v) ?_ (fun y3 hy3 => by unfold b_X12_acts_562; exact Pa_some hy3)
    refine Pa_loop (I := fun s : OO × Int => Sm 57 o s.1) hs (fun s hs => ?_)
    obtain ⟨w, k⟩ := s
    replace hs : Sm 57 o w := hs
    show Pa (l_X12_acts_446 x1 n a i w k) _
    unfold l_X12_acts_446
    refine Pa_qLt (fun _ _ h => ?_) (fun _ _ h => Pa_some hs)
    unfold e_X12_acts_455
    refine Pa_qB (P := fun v : OO => Sm 57 o v) ?_ (fun y3 hy3 => by unfold b_X12_acts_556; exact Pa_some hy3)
    refine Pa_loop (I := fun s : OO × Int => Sm 57 o s.1) hs (fun s hs => ?_)
    obtain ⟨w, m⟩ := s
    replace hs : Sm 57 o w := hs
    show Pa (l_X12_acts_455 x1 n a i k w m) _
    unfold l_X12_acts_455 b_X12_acts_550 b_X12_acts_549 b_X12_acts_550
    have any : ∀ (w : OO) (a b c : Int), Pa (s_X12_ahead w a b c) (fun _ => True) := fun _ _ _ _ _ _ => trivial
    have up : ∀ (a b : Int), Sm 57 o (st1 w 57 a.toNat b) := fun a b k j hk => by rw [st1_n hk]; exact hs k j hk
    refine Pa_qLt (fun _ _ h => ?_) (fun _ _ h => Pa_some hs)
    refine Pa_qB (any _ _ _ _) (fun r19 _ => Pa_qEq (fun _ => Pa_some hs) (fun _ => Pa_qIn (fun _ => Pa_qNm (Pa_qIn (fun _ => Pa_qNm (Pa_qIn (fun _ => Pa_qNm (Pa_qIn (fun _ => Pa_qNm (Pa_qNm (Pa_qIn (fun _ => Pa_qNm (Pa_qLt (fun _ _ _ => ?_) (fun _ _ _ => Pa_qIn (fun _ => Pa_qNm ?_)))))))))))))))
    · exact Pa_qIn (fun _ => Pa_qNm (Pa_some (up _ _)))
    · exact Pa_qIn (fun _ => Pa_qNm (Pa_some (up _ _)))
  unfold b_X12_acts_568
  refine Pa_qNm (Pa_qNm ?_)
  obtain ⟨u, hu⟩ : ∃ u, u = st1 (st1 y2 0 65 n) 0 66 a := ⟨_, rfl⟩
  rw [← hu]
  have u0 : u.1 0 65 = n := by rw [hu]; rfl
  have u56 : ∀ j, u.1 56 j = o.1 56 j := fun j => by
    rw [hu]
    show y2.1 56 j = _
    exact hy2 56 j (by decide)
  unfold e_X12_acts_582
  refine Pa_qB (P := fun v : OO => v.1 0 65 = n ∧ ∀ j : Nat, (j : Int) < n → v.1 54 j = o.1 56 j) ?_ (fun v hv => by unfold b_X12_acts_622; exact Pa_some ⟨rfl, hv.1, hv.2⟩)
  refine Pa_loop (I := fun s : OO × Int => (0 ≤ s.2 ∧ s.2 ≤ n) ∧ s.1.1 0 65 = n ∧ (∀ j, s.1.1 56 j = o.1 56 j) ∧ ∀ j : Nat, (j : Int) < s.2 → s.1.1 54 j = o.1 56 j) ⟨⟨Int.le_refl 0, h0⟩, u0, u56, fun j hj => absurd (show (j : Int) < 0 from hj) (by omega)⟩ (fun s hs => ?_)
  obtain ⟨w, i⟩ := s
  obtain ⟨⟨i1, i2⟩, g0, g1, g2⟩ := hs
  replace i1 : 0 ≤ i := i1
  replace i2 : i ≤ n := i2
  replace g0 : w.1 0 65 = n := g0
  replace g1 : ∀ j, w.1 56 j = o.1 56 j := g1
  replace g2 : ∀ j : Nat, (j : Int) < i → w.1 54 j = o.1 56 j := g2
  show Pa (l_X12_acts_582 n a w i) _
  unfold l_X12_acts_582
  refine Pa_qLt (fun _ _ h => Pa_qIn (fun _ => Pa_qNm (Pa_qIn (fun _ => Pa_qNm (Pa_qIn (fun _ => Pa_qNm (Pa_qIn (fun _ => Pa_qNm (Pa_some ?_))))))))) (fun _ _ h => Pa_some ?_)
  · obtain ⟨m, hm⟩ : ∃ m, m = st1 w 54 i.toNat (w.1 56 i.toNat) := ⟨_, rfl⟩
    rw [← hm]
    show (0 ≤ i + 1 ∧ i + 1 ≤ n) ∧ (st1 m 55 i.toNat (m.1 57 i.toNat)).1 0 65 = n ∧ (∀ j, (st1 m 55 i.toNat (m.1 57 i.toNat)).1 56 j = o.1 56 j) ∧ ∀ j : Nat, (j : Int) < i + 1 → (st1 m 55 i.toNat (m.1 57 i.toNat)).1 54 j = o.1 56 j
    refine ⟨⟨by omega, by omega⟩, ?_, fun j => ?_, fun j hj => ?_⟩
    · rw [st1_n (by decide), hm, st1_n (by decide)]
      exact g0
    · rw [st1_n (by decide), hm, st1_n (by decide)]
      exact g1 j
    · rw [st1_n (by decide), hm, st1_s]
      by_cases q : j = i.toNat
      · rw [if_pos q, g1, q]
      · rw [if_neg q]
        exact g2 j (by omega)
  · show w.1 0 65 = n ∧ ∀ j : Nat, (j : Int) < n → w.1 54 j = o.1 56 j
    have e : i = n := by omega
    subst e
    exact ⟨g0, g2⟩
theorem ra_acts_364 {o : OO} {x1 n T : Int} (h0 : 0 ≤ n) : Pa (loopW (fun s : Int × Int => l_X12_acts_364 o x1 n s.1 s.2) (T, 0)) (fun v => v = MXF T (o.1 56) n.toNat) := by
  refine Pa_loop (I := fun s : Int × Int => (0 ≤ s.2 ∧ s.2 ≤ n) ∧ s.1 = MXF T (o.1 56) s.2.toNat) ⟨⟨Int.le_refl 0, h0⟩, rfl⟩ (fun s hs => ?_)
  obtain ⟨a, i⟩ := s
  obtain ⟨⟨i1, i2⟩, i3⟩ := hs
  replace i1 : 0 ≤ i := i1
  replace i2 : i ≤ n := i2
  replace i3 : a = MXF T (o.1 56) i.toNat := i3
  show Pa (l_X12_acts_364 o x1 n a i) _
  unfold l_X12_acts_364 b_X12_acts_394
  have nx : MXF T (o.1 56) (i + 1).toNat = max (MXF T (o.1 56) i.toNat) (o.1 56 i.toNat) := by
    rw [show (i + 1).toNat = i.toNat + 1 by omega]
    rfl
  refine Pa_qLt (fun _ _ h => Pa_qIn (fun _ => Pa_qNm (Pa_qLt (fun _ _ h2 => Pa_qIn (fun _ => Pa_qNm (Pa_some ?_))) (fun _ _ h2 => Pa_some ?_)))) (fun _ _ h => Pa_some ?_)
  · show (0 ≤ i + 1 ∧ i + 1 ≤ n) ∧ o.1 56 i.toNat = MXF T (o.1 56) (i + 1).toNat
    rw [nx]
    exact ⟨⟨by omega, by omega⟩, by omega⟩
  · show (0 ≤ i + 1 ∧ i + 1 ≤ n) ∧ a = MXF T (o.1 56) (i + 1).toNat
    rw [nx]
    exact ⟨⟨by omega, by omega⟩, by omega⟩
  · show a = MXF T (o.1 56) n.toNat
    rw [i3, show i.toNat = n.toNat by omega]
theorem ra_acts_M {o : OO} {f : Nat → Int} {z x1 : Int} (hz : z = o.1 2 x1.toNat) (hf : RW o x1 z = f) (hT : 0 ≤ o.1 0 4) : Pa (s_X12_acts o x1) (ACO o (z < 0) z f (o.1 0 4) x1 0 65 54) := by
  unfold s_X12_acts
  refine Pa_qB2 (ra_askedRow0 o x1) (fun r u hr => ?_)
  obtain ⟨hr, hr0⟩ := hr
  replace hr0 : ∀ j, ¬ j = 0 → u.1 0 j = o.1 0 j := hr0
  refine Pa_qLt (fun _ _ h => Pa_some ?_) (fun _ _ h => ?_)
  · rcases hr with ⟨e, q, e2⟩ | ⟨e, q, q2, e2⟩ | ⟨e, q, q2, e2⟩
    · replace e2 : u = o := e2
      subst e2
      exact ⟨0, Or.inl ⟨rfl, q⟩, Or.inl ⟨rfl, e, rfl, fun _ => rfl⟩⟩
    · exact ⟨1, Or.inr (Or.inl ⟨rfl, q, by rw [hz]; exact q2⟩), Or.inr (Or.inl ⟨rfl, e, hr0 65 (by decide), fun j => e2 54 j (by decide) (by decide)⟩)⟩
    · replace e : r = 0 := e
      omega
  rcases hr with ⟨e, q, e2⟩ | ⟨e, q, q2, e2⟩ | ⟨e, hr_, q2, e2⟩
  · replace e : r = -1 := e
    omega
  · replace e : r = -3 := e
    omega
  replace e2 : u = o := e2
  subst e2
  have hnb : ¬ z < 0 := by rw [hz]; exact q2
  refine Pa_qIn (fun _ => Pa_qNm (Pa_qDv (fun _ => Pa_qNm (Pa_qIn (fun _ => Pa_qNm (Pa_qDv (fun _ => ?_)))))))
  rw [← hz, jq_nn (by omega)]
  unfold b_X12_acts_42
  have size : ¬ (z = 3 * (z / 3) ∧ 3 ≤ z ∧ z ≤ 39) → Pa (qB2 (s_X12_meets u 5) (fun r1 o3 => some (r1, o3))) (ACO u (z < 0) z f (u.1 0 4) x1 0 65 54) := fun c => by
    unfold s_X12_meets
    refine Pa_qB2 (P := fun v => v = (-3, st1 (st1 u 0 0 5) 1 (5 : Int).toNat ((st1 u 0 0 5).1 1 (5 : Int).toNat + 1))) (Pa_qNm (Pa_qIn (fun _ => Pa_qNm (Pa_qIn (fun _ => Pa_qNm (Pa_some rfl)))))) (fun r9 o9 h9 => Pa_some ?_)
    cases h9
    refine ⟨1, Or.inr (Or.inr (Or.inl ⟨rfl, hr_, hnb, c⟩)), Or.inr (Or.inl ⟨rfl, rfl, rfl, fun j => ?_⟩)⟩
    show (st1 (st1 u 0 0 5) 1 _ _).1 54 j = _
    rw [st1_n (by decide), st1_n (by decide)]
  refine Pa_qEq (fun h3 => ?_) (fun h3 => size (by omega))
  refine Pa_qB (ra_in _ 1 13) (fun r82 h82 => Pa_qEq (fun h4 => size (by omega)) (fun h4 => ?_))
  have hs : z = 3 * (z / 3) ∧ 3 ≤ z ∧ z ≤ 39 := by omega
  obtain ⟨n, hn⟩ : ∃ n, n = z / 3 := ⟨_, rfl⟩
  have n1 : 1 ≤ n ∧ n ≤ 13 := by omega
  have zn : z = 3 * n := by omega
  rw [← hn]
  unfold e_X12_acts_54
  refine Pa_qB (ra_acts_54 hr_.1 n1 zn hf) (fun v hv => ?_)
  obtain ⟨y, g⟩ := v
  obtain ⟨hg, h56, hsm⟩ := hv
  replace hg : GF f n g n := hg
  replace h56 : ∀ j : Nat, (j : Int) < n → y.1 56 j = -9 := h56
  replace hsm : Sm 56 u y := hsm
  show Pa (b_X12_acts_171 y x1 n g) _
  unfold b_X12_acts_171 e_X12_acts_177
  have unlike : ∀ y : OO, Sm 56 u y → ¬ GD f (u.1 0 4) n → Pa (b_X12_acts_349 y) (ACO u (z < 0) z f (u.1 0 4) x1 0 65 54) := fun y hy hgd => by
    unfold b_X12_acts_349 s_X12_meets
    refine Pa_qB2 (P := fun v => v = (-3, st1 (st1 y 0 0 3) 1 (3 : Int).toNat ((st1 y 0 0 3).1 1 (3 : Int).toNat + 1))) (Pa_qNm (Pa_qIn (fun _ => Pa_qNm (Pa_qIn (fun _ => Pa_qNm (Pa_some rfl)))))) (fun r9 o9 h9 => Pa_some ?_)
    cases h9
    rw [hn] at hgd
    refine ⟨1, Or.inr (Or.inr (Or.inr (Or.inl ⟨rfl, hr_, hnb, hs, hgd⟩))), Or.inr (Or.inl ⟨rfl, rfl, ?_, fun j => ?_⟩)⟩
    · show y.1 0 65 = _
      exact hy 0 65 (by decide)
    · show (st1 (st1 y 0 0 3) 1 _ _).1 54 j = _
      rw [st1_n (by decide), st1_n (by decide)]
      exact hy 54 j (by decide)
  rcases hg with ⟨g1, hg⟩ | ⟨g1, hg⟩
  · subst g1
    refine Pa_qB (ra_acts_177 hr_.1 n1 zn hf hT rfl hg h56 hsm) (fun v hv => ?_)
    obtain ⟨w, d⟩ := v
    obtain ⟨hm, hw⟩ := hv
    replace hm : MT 56 n w d (AX (u.1 0 4) f n) := hm
    replace hw : Sm 56 u w := hw
    show Pa (b_X12_acts_338 w x1 n 1 d) _
    unfold b_X12_acts_338
    refine Pa_qEq (fun c => absurd c (by decide)) (fun _ => Pa_qLt (fun _ _ h6 => unlike w hw (fun q => ?_)) (fun _ _ h6 => ?_))
    · have := q.2
      have := hm.2
      omega
    have gd : GD f (u.1 0 4) n := ⟨hg, by rw [← hm.2]; omega⟩
    unfold e_X12_acts_364
    refine Pa_qB (ra_acts_364 (by omega)) (fun a ha => ?_)
    have wt : w.1 0 4 = u.1 0 4 := hw 0 4 (by decide)
    refine Pa_mono (ra_acts_402 (by omega)) (fun v hv => ?_)
    refine ⟨2, Or.inr (Or.inr (Or.inr (Or.inr ⟨rfl, hr_, hnb, hs, by rw [← hn]; exact gd⟩))), Or.inr (Or.inr ⟨rfl, ?_, ?_, fun j hj => ?_⟩)⟩
    · rw [hv.1, ha, wt, ← hn, MXF_cg n.toNat (fun j hj => hm.1 j (by omega))]
      exact MXF_z hT (by omega) (fun j hj => GD_ge hT (by omega) gd j (by omega))
    · rw [← hn]
      exact hv.2.1
    · rw [← hn] at hj ⊢
      rw [hv.2.2 j hj]
      exact hm.1 j hj
  · subst g1
    refine Pa_qB (P := fun v : OO × Int => Sm 56 u v.1) ?_ (fun v hv => ?_)
    · refine Pa_loop (I := fun s : OO × Int × Int => Sm 56 u s.1) hsm (fun s hs => ?_)
      obtain ⟨w, d, r⟩ := s
      show Pa (l_X12_acts_177 x1 n 0 w d r) _
      unfold l_X12_acts_177
      exact Pa_qLt (fun _ _ h => Pa_qEq (fun _ => Pa_some hs) (fun c => absurd rfl c)) (fun _ _ h => Pa_some hs)
    · show Pa (b_X12_acts_338 v.1 x1 n 0 v.2) _
      unfold b_X12_acts_338
      exact Pa_qEq (fun _ => unlike v.1 hv (fun q => hg q.1)) (fun c => absurd rfl c)
-- ---------- both
def ACR (oC oM : OO) : Prop := oC.1 66 0 = oM.1 0 65 ∧ ∀ j : Nat, (j : Int) < oM.1 0 65 → oC.1 67 j = oM.1 54 j
theorem ACR.act {oC oM : OO} {x1 r r' : Int} (h : ACR oC oM) (hC : (¬ (0 ≤ x1 ∧ x1 < oC.1 66 0) ∧ r = -9) ∨ ((0 ≤ x1 ∧ x1 < oC.1 66 0) ∧ r = oC.1 67 x1.toNat)) (hM : (¬ (0 ≤ x1 ∧ x1 < oM.1 0 65) ∧ r' = -9) ∨ ((0 ≤ x1 ∧ x1 < oM.1 0 65) ∧ r' = oM.1 54 x1.toNat)) : r = r' := by
  rw [h.1] at hC
  rcases hC with ⟨a, e⟩ | ⟨a, e⟩ <;> rcases hM with ⟨b, e'⟩ | ⟨b, e'⟩
  · exact e.trans e'.symm
  · exact absurd b a
  · exact absurd a b
  · rw [e, e']
    exact h.2 x1.toNat (by omega)
theorem ACW.same {bC bM : Prop} {zC zM : Int} {fC fM : Nat → Int} {T x1 : Int} {k k' : Nat} (hb : (0 ≤ x1 ∧ x1 ≤ 5) → (bC ↔ bM)) (hz : (0 ≤ x1 ∧ x1 ≤ 5) → ¬ bM → zC = zM ∧ fC = fM) (hC : ACW bC zC fC T x1 k) (hM : ACW bM zM fM T x1 k') : k = k' := by
  by_cases q : 0 ≤ x1 ∧ x1 ≤ 5
  · have hb := hb q
    by_cases c : bM
    · have cC := hb.mpr c
      have e : k = 1 := by
        rcases hC with ⟨e, a⟩ | ⟨e, a, b⟩ | ⟨e, a, b, _⟩ | ⟨e, a, b, _⟩ | ⟨e, a, b, _⟩
        · exact absurd q a
        · exact e
        · exact e
        · exact e
        · exact absurd cC b
      have e' : k' = 1 := by
        rcases hM with ⟨e, a⟩ | ⟨e, a, b⟩ | ⟨e, a, b, _⟩ | ⟨e, a, b, _⟩ | ⟨e, a, b, _⟩
        · exact absurd q a
        · exact e
        · exact e
        · exact e
        · exact absurd c b
      rw [e, e']
    · have cC : ¬ bC := fun q2 => c (hb.mp q2)
      obtain ⟨e1, e2⟩ := hz q c
      subst e1 e2
      rcases hC with ⟨e, a⟩ | ⟨e, a, b⟩ | ⟨e, a, b, d⟩ | ⟨e, a, b, d, g⟩ | ⟨e, a, b, d, g⟩ <;> rcases hM with ⟨e', a'⟩ | ⟨e', a', b'⟩ | ⟨e', a', b', d'⟩ | ⟨e', a', b', d', g'⟩ | ⟨e', a', b', d', g'⟩ <;> first | exact e.trans e'.symm | exact absurd q a | exact absurd q a' | exact absurd b cC | exact absurd b' c | exact absurd d d' | exact absurd d' d | exact absurd g g' | exact absurd g' g
  · have e : k = 0 := by
      rcases hC with ⟨e, a⟩ | ⟨e, a, b⟩ | ⟨e, a, b⟩ | ⟨e, a, b⟩ | ⟨e, a, b⟩
      · exact e
      · exact absurd a q
      · exact absurd a q
      · exact absurd a q
      · exact absurd a q
    have e' : k' = 0 := by
      rcases hM with ⟨e, a⟩ | ⟨e, a, b⟩ | ⟨e, a, b⟩ | ⟨e, a, b⟩ | ⟨e, a, b⟩
      · exact e
      · exact absurd a q
      · exact absurd a q
      · exact absurd a q
      · exact absurd a q
    rw [e, e']
theorem ACR.acts {oC oM : OO} {x1 : Int} {vC vM : Int × OO} (h : ACR oC oM) (hs : SH3 oC oM) (hd : oC.1 0 13 = oM.1 0 4) (hC : ACO oC (oC.1 2 x1.toNat = -1) (oC.1 2 x1.toNat) (RW oC x1 (oC.1 2 x1.toNat)) (oC.1 0 13) x1 66 0 67 vC) (hM : ACO oM (oM.1 2 x1.toNat < 0) (oM.1 2 x1.toNat) (RW oM x1 (oM.1 2 x1.toNat)) (oM.1 0 4) x1 0 65 54 vM) : vC.1 = vM.1 ∧ ACR vC.2 vM.2 := by
  rw [hd] at hC
  obtain ⟨k, w, c⟩ := hC
  obtain ⟨k', w', c'⟩ := hM
  have key : (0 ≤ x1 ∧ x1 ≤ 5) → oC.1 2 x1.toNat = SZ (oM.1 2 x1.toNat) := fun q => hs.1 x1.toNat (by omega)
  have kn : oM.1 2 x1.toNat < 0 → SZ (oM.1 2 x1.toNat) = -1 := fun q => SZ_neg q
  have kp : 0 ≤ oM.1 2 x1.toNat → SZ (oM.1 2 x1.toNat) = oM.1 2 x1.toNat := fun q => SZ_nn q
  have eqv : (0 ≤ x1 ∧ x1 ≤ 5) → ¬ oM.1 2 x1.toNat < 0 → oC.1 2 x1.toNat = oM.1 2 x1.toNat ∧ RW oC x1 (oC.1 2 x1.toNat) = RW oM x1 (oM.1 2 x1.toNat) := fun q b => by
    have e : oC.1 2 x1.toNat = oM.1 2 x1.toNat := (key q).trans (kp (by omega))
    refine ⟨e, ?_⟩
    rw [e]
    funext j
    unfold RW
    by_cases c : (j : Int) < oM.1 2 x1.toNat
    · rw [if_pos c, if_pos c]
      exact hs.2 x1.toNat j (by omega) c
    · rw [if_neg c, if_neg c]
  have ek : k = k' := ACW.same (fun q => by
      have k1 := key q
      by_cases c : oM.1 2 x1.toNat < 0
      · have := kn c; omega
      · have := kp (by omega); omega) eqv w w'
  subst ek
  rcases c with ⟨q, c1, c2, c3⟩ | ⟨q, c1, c2, c3⟩ | ⟨q, c1, c2, c3⟩ <;> rcases c' with ⟨q', d1, d2, d3⟩ | ⟨q', d1, d2, d3⟩ | ⟨q', d1, d2, d3⟩ <;> first | (exfalso; omega) | skip
  · exact ⟨c1.trans d1.symm, by rw [c2, d2]; exact h.1, fun j hj => by rw [d2] at hj; rw [c3, d3]; exact h.2 j hj⟩
  · exact ⟨c1.trans d1.symm, by rw [c2, d2]; exact h.1, fun j hj => by rw [d2] at hj; rw [c3, d3]; exact h.2 j hj⟩
  · subst q
    have hw : (0 ≤ x1 ∧ x1 ≤ 5) ∧ ¬ oM.1 2 x1.toNat < 0 := by
      rcases w' with ⟨z, a⟩ | ⟨z, a, b⟩ | ⟨z, a, b⟩ | ⟨z, a, b⟩ | ⟨z, a, b⟩
      · exact absurd z (by decide)
      · exact absurd z (by decide)
      · exact absurd z (by decide)
      · exact absurd z (by decide)
      · exact ⟨a, b.1⟩
    obtain ⟨e1, e2⟩ := eqv hw.1 hw.2
    rw [e2, e1] at c1 c3
    rw [e1] at c2
    refine ⟨c1.trans d1.symm, by rw [c2, d2], fun j hj => ?_⟩
    rw [d2] at hj
    rw [c3 j hj, d3 j hj]
