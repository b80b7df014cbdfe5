/-- the shelf of cells 2, 3 is alike on both sides -/
def SH3 (oC oM : OO) : Prop := (∀ r : Nat, r < 6 → oC.1 2 r = SZ (oM.1 2 r)) ∧ ∀ r k : Nat, r < 6 → (k : Int) < oM.1 2 r → oC.1 3 (40 * r + k) = oM.1 3 (40 * r + k)
theorem SH3.eq {oC oM vC vM : OO} (h : SH3 oC oM) (c1 : ∀ j, vC.1 2 j = oC.1 2 j) (c2 : ∀ j, vC.1 3 j = oC.1 3 j) (m1 : ∀ j, vM.1 2 j = oM.1 2 j) (m2 : ∀ j, vM.1 3 j = oM.1 3 j) : SH3 vC vM :=
  ⟨fun r hr => by rw [c1, m1]; exact h.1 r hr, fun r k hr hk => by rw [c2, m2]; rw [m1] at hk; exact h.2 r k hr hk⟩
theorem SH3.lay {oC oM : OO} {x1 x2 w : Int} {vC vM : Int × OO} (h : SH3 oC oM) (hb : ∀ r, oM.1 2 r ≤ 40) (hC : LYO3 oC x1 x2 x2 vC) (hM : LYO3 oM x1 x2 40 vM) : vC.1 = vM.1 ∧ SH3 vC.2 vM.2 := by
  refine ⟨hC.1.trans hM.1.symm, ?_⟩
  rcases hC.2 with ⟨a, a1, a2⟩ | ⟨a, a1, a2⟩
  · rcases hM.2 with ⟨b, b1, b2⟩ | ⟨b, b1, b2⟩
    · exact h.eq a1 a2 b1 b2
    · exact absurd b a
  · rcases hM.2 with ⟨b, b1, b2⟩ | ⟨b, b1, b2⟩
    · exact absurd a b
    · obtain ⟨p1, p2, p3, p4⟩ := a
      refine ⟨fun r hr => ?_, fun r k hr hk => ?_⟩
      · rw [a1, b1]
        by_cases q : (r : Int) = x1
        · rw [if_pos q, if_pos q, SZ_nn p3]
        · rw [if_neg q, if_neg q]
          exact h.1 r hr
      · rw [b1] at hk
        rw [a2, b2]
        by_cases q : (r : Int) = x1
        · rw [if_pos q] at hk
          rw [if_pos (by omega), if_pos (by omega)]
        · rw [if_neg q] at hk
          have hr40 := hb r
          rw [if_neg (by omega), if_neg (by omega)]
          exact h.2 r k hr hk
theorem SH3.ex {oC oM : OO} {x1 x2 x3 : Int} {vC vM : Int × OO} (h : SH3 oC oM) (hb : ∀ r, -9 ≤ oM.1 2 r ∧ oM.1 2 r ≤ 40) (hC : EXO3 oC x1 x2 x3 (oC.1 2 x1.toNat = -1) vC) (hM : EXO3 oM x1 x2 x3 (oM.1 2 x1.toNat < 0) vM) : vC.1 = vM.1 ∧ SH3 vC.2 vM.2 := by
  have key : (0 ≤ x1 ∧ x1 ≤ 5) → oC.1 2 x1.toNat = SZ (oM.1 2 x1.toNat) := fun q => h.1 x1.toNat (by omega)
  have hbx := hb x1.toNat
  have kn : oM.1 2 x1.toNat < 0 → SZ (oM.1 2 x1.toNat) = -1 := fun q => SZ_neg q
  have kp : 0 ≤ oM.1 2 x1.toNat → SZ (oM.1 2 x1.toNat) = oM.1 2 x1.toNat := fun q => SZ_nn q
  rcases hC with ⟨a, e, a1, a2⟩ | ⟨a, b, e, a1, a2⟩ | ⟨a, b, c, e, a1, a2⟩ | ⟨a, b, c, e, a1, a2⟩ <;> rcases hM with ⟨a', e', b1, b2⟩ | ⟨a', b', e', b1, b2⟩ | ⟨a', b', c', e', b1, b2⟩ | ⟨a', b', c', e', b1, b2⟩
  · exact ⟨e.trans e'.symm, h.eq a1 a2 b1 b2⟩
  · exact absurd a' a
  · exact absurd a' a
  · exact absurd a' a
  · exact absurd a a'
  · exact ⟨e.trans e'.symm, h.eq a1 a2 b1 b2⟩
  · exact ⟨e.trans e'.symm, h.eq a1 a2 b1 b2⟩
  · exfalso; have k1 := key a; have k3 := kp (by omega); omega
  · exact absurd a a'
  · exact ⟨e.trans e'.symm, h.eq a1 a2 b1 b2⟩
  · exact ⟨e.trans e'.symm, h.eq a1 a2 b1 b2⟩
  · exfalso; have k1 := key a; have k3 := kp (by omega); omega
  · exact absurd a a'
  · exfalso; have k1 := key a; have k3 := kn b'; omega
  · exfalso; have k1 := key a; have k3 := kp (by omega); omega
  · refine ⟨?_, fun r hr => ?_, fun r k hr hk => ?_⟩
    · exact e.trans e'.symm
    · rw [a1, b1]
      exact h.1 r hr
    · rw [b1] at hk
      rw [a2, b2]
      by_cases q : ((40 * r + k : Nat) : Int) = 40 * x1 + x2
      · rw [if_pos q, if_pos q]
      · rw [if_neg q, if_neg q]
        exact h.2 r k hr hk
/-- the shelf of cells 5, 6 is alike on both sides -/
def SH6 (oC oM : OO) : Prop := (∀ r : Nat, r < 4 → oC.1 5 r = SZ (oM.1 5 r)) ∧ ∀ r k : Nat, r < 4 → (k : Int) < oM.1 5 r → oC.1 6 (40 * r + k) = oM.1 6 (40 * r + k)
theorem SH6.eq {oC oM vC vM : OO} (h : SH6 oC oM) (c1 : ∀ j, vC.1 5 j = oC.1 5 j) (c2 : ∀ j, vC.1 6 j = oC.1 6 j) (m1 : ∀ j, vM.1 5 j = oM.1 5 j) (m2 : ∀ j, vM.1 6 j = oM.1 6 j) : SH6 vC vM :=
  ⟨fun r hr => by rw [c1, m1]; exact h.1 r hr, fun r k hr hk => by rw [c2, m2]; rw [m1] at hk; exact h.2 r k hr hk⟩
theorem SH6.lay {oC oM : OO} {x1 x2 w : Int} {vC vM : Int × OO} (h : SH6 oC oM) (hb : ∀ r, oM.1 5 r ≤ 40) (hC : LYO6 oC x1 x2 x2 vC) (hM : LYO6 oM x1 x2 40 vM) : vC.1 = vM.1 ∧ SH6 vC.2 vM.2 := by
  refine ⟨hC.1.trans hM.1.symm, ?_⟩
  rcases hC.2 with ⟨a, a1, a2⟩ | ⟨a, a1, a2⟩
  · rcases hM.2 with ⟨b, b1, b2⟩ | ⟨b, b1, b2⟩
    · exact h.eq a1 a2 b1 b2
    · exact absurd b a
  · rcases hM.2 with ⟨b, b1, b2⟩ | ⟨b, b1, b2⟩
    · exact absurd a b
    · obtain ⟨p1, p2, p3, p4⟩ := a
      refine ⟨fun r hr => ?_, fun r k hr hk => ?_⟩
      · rw [a1, b1]
        by_cases q : (r : Int) = x1
        · rw [if_pos q, if_pos q, SZ_nn p3]
        · rw [if_neg q, if_neg q]
          exact h.1 r hr
      · rw [b1] at hk
        rw [a2, b2]
        by_cases q : (r : Int) = x1
        · rw [if_pos q] at hk
          rw [if_pos (by omega), if_pos (by omega)]
        · rw [if_neg q] at hk
          have hr40 := hb r
          rw [if_neg (by omega), if_neg (by omega)]
          exact h.2 r k hr hk
theorem SH6.ex {oC oM : OO} {x1 x2 x3 : Int} {vC vM : Int × OO} (h : SH6 oC oM) (hb : ∀ r, -9 ≤ oM.1 5 r ∧ oM.1 5 r ≤ 40) (hC : EXO6 oC x1 x2 x3 (oC.1 5 x1.toNat = -1) vC) (hM : EXO6 oM x1 x2 x3 (oM.1 5 x1.toNat < 0) vM) : vC.1 = vM.1 ∧ SH6 vC.2 vM.2 := by
  have key : (0 ≤ x1 ∧ x1 ≤ 3) → oC.1 5 x1.toNat = SZ (oM.1 5 x1.toNat) := fun q => h.1 x1.toNat (by omega)
  have hbx := hb x1.toNat
  have kn : oM.1 5 x1.toNat < 0 → SZ (oM.1 5 x1.toNat) = -1 := fun q => SZ_neg q
  have kp : 0 ≤ oM.1 5 x1.toNat → SZ (oM.1 5 x1.toNat) = oM.1 5 x1.toNat := fun q => SZ_nn q
  rcases hC with ⟨a, e, a1, a2⟩ | ⟨a, b, e, a1, a2⟩ | ⟨a, b, c, e, a1, a2⟩ | ⟨a, b, c, e, a1, a2⟩ <;> rcases hM with ⟨a', e', b1, b2⟩ | ⟨a', b', e', b1, b2⟩ | ⟨a', b', c', e', b1, b2⟩ | ⟨a', b', c', e', b1, b2⟩
  · exact ⟨e.trans e'.symm, h.eq a1 a2 b1 b2⟩
  · exact absurd a' a
  · exact absurd a' a
  · exact absurd a' a
  · exact absurd a a'
  · exact ⟨e.trans e'.symm, h.eq a1 a2 b1 b2⟩
  · exact ⟨e.trans e'.symm, h.eq a1 a2 b1 b2⟩
  · exfalso; have k1 := key a; have k3 := kp (by omega); omega
  · exact absurd a a'
  · exact ⟨e.trans e'.symm, h.eq a1 a2 b1 b2⟩
  · exact ⟨e.trans e'.symm, h.eq a1 a2 b1 b2⟩
  · exfalso; have k1 := key a; have k3 := kp (by omega); omega
  · exact absurd a a'
  · exfalso; have k1 := key a; have k3 := kn b'; omega
  · exfalso; have k1 := key a; have k3 := kp (by omega); omega
  · refine ⟨?_, fun r hr => ?_, fun r k hr hk => ?_⟩
    · rw [e, e', show (40 * x1 + x2).toNat = 40 * x1.toNat + x2.toNat by omega, h.2 x1.toNat x2.toNat (by omega) (by omega)]
    · rw [a1, b1]
      exact h.1 r hr
    · rw [b1] at hk
      rw [a2, b2]
      by_cases q : ((40 * r + k : Nat) : Int) = 40 * x1 + x2
      · rw [if_pos q, if_pos q]
      · rw [if_neg q, if_neg q]
        exact h.2 r k hr hk
theorem SH3.tear {oC oM : OO} {x1 : Int} {vC vM : Int × OO} (h : SH3 oC oM) (hb : ∀ r, -9 ≤ oM.1 2 r ∧ oM.1 2 r ≤ 40) (hC : TRO (-1) oC x1 (oC.1 2 x1.toNat = -1) vC) (hM : TRO (-9) oM x1 (oM.1 2 x1.toNat < 0) vM) : vC.1 = vM.1 ∧ SH3 vC.2 vM.2 := by
  have key : (0 ≤ x1 ∧ x1 ≤ 5) → oC.1 2 x1.toNat = SZ (oM.1 2 x1.toNat) := fun q => h.1 x1.toNat (by omega)
  have hbx := hb x1.toNat
  have kn : oM.1 2 x1.toNat < 0 → SZ (oM.1 2 x1.toNat) = -1 := fun q => SZ_neg q
  have kp : 0 ≤ oM.1 2 x1.toNat → SZ (oM.1 2 x1.toNat) = oM.1 2 x1.toNat := fun q => SZ_nn q
  rcases hC with ⟨a, e, a1, a2⟩ | ⟨a, b, e, a1, a2⟩ | ⟨a, b, e, a1, a2⟩ <;> rcases hM with ⟨a', e', b1, b2⟩ | ⟨a', b', e', b1, b2⟩ | ⟨a', b', e', b1, b2⟩
  · exact ⟨e.trans e'.symm, h.eq a1 a2 b1 b2⟩
  · exact absurd a' a
  · exact absurd a' a
  · exact absurd a a'
  · exact ⟨e.trans e'.symm, h.eq a1 a2 b1 b2⟩
  · exfalso; have k1 := key a; have k3 := kp (by omega); omega
  · exact absurd a a'
  · exfalso; have k1 := key a; have k3 := kn b'; omega
  · refine ⟨e.trans e'.symm, fun r hr => ?_, fun r k hr hk => ?_⟩
    · rw [a1, b1]
      by_cases q : (r : Int) = x1
      · rw [if_pos q, if_pos q]; rfl
      · rw [if_neg q, if_neg q]
        exact h.1 r hr
    · rw [b1] at hk
      rw [a2, b2]
      by_cases q : (r : Int) = x1
      · rw [if_pos q] at hk; omega
      · rw [if_neg q] at hk
        exact h.2 r k hr hk
theorem CPW.same {s t : Nat → Int} {x1 x2 x3 x4 x5 : Int} {k k' : Nat} (hs : ∀ r : Nat, r < 6 → s r = SZ (t r)) (hC : CPW s (fun z => z = -1) x1 x2 x3 x4 x5 k) (hM : CPW t (fun z => z < 0) x1 x2 x3 x4 x5 k') : k = k' := by
  have k1 : (0 ≤ x1 ∧ x1 ≤ 5) → (t x1.toNat < 0 ∧ s x1.toNat = -1) ∨ (0 ≤ t x1.toNat ∧ s x1.toNat = t x1.toNat) := fun q => by
    rw [hs x1.toNat (by omega)]
    by_cases c : t x1.toNat < 0
    · exact Or.inl ⟨c, SZ_neg c⟩
    · exact Or.inr ⟨by omega, SZ_nn (by omega)⟩
  have k3 : (0 ≤ x3 ∧ x3 ≤ 5) → (t x3.toNat < 0 ∧ s x3.toNat = -1) ∨ (0 ≤ t x3.toNat ∧ s x3.toNat = t x3.toNat) := fun q => by
    rw [hs x3.toNat (by omega)]
    by_cases c : t x3.toNat < 0
    · exact Or.inl ⟨c, SZ_neg c⟩
    · exact Or.inr ⟨by omega, SZ_nn (by omega)⟩
  unfold CPW at hC hM
  dsimp only at hC hM
  by_cases q : (0 ≤ x1 ∧ x1 ≤ 5) ∧ (0 ≤ x3 ∧ x3 ≤ 5)
  · have k1 := k1 q.1
    have k3 := k3 q.2
    rcases hC with ⟨e, a⟩ | ⟨e, a, a2⟩ | ⟨e, a, a2, a3⟩ | ⟨e, a, a2, a3, a4⟩ | ⟨e, a, a2, a3, a4⟩ <;> rcases hM with ⟨e', b⟩ | ⟨e', b, b2⟩ | ⟨e', b, b2, b3⟩ | ⟨e', b, b2, b3, b4⟩ | ⟨e', b, b2, b3, b4⟩ <;> first | exact e.trans e'.symm | (exfalso; exact absurd q a) | (exfalso; exact absurd q b) | (exfalso; omega)
  · rcases hC with ⟨e, a⟩ | ⟨e, a, a2⟩ | ⟨e, a, a2, a3⟩ | ⟨e, a, a2, a3, a4⟩ | ⟨e, a, a2, a3, a4⟩
    · rcases hM with ⟨e', b⟩ | ⟨e', b, b2⟩ | ⟨e', b, b2, b3⟩ | ⟨e', b, b2, b3, b4⟩ | ⟨e', b, b2, b3, b4⟩
      · exact e.trans e'.symm
      · exact absurd b q
      · exact absurd b q
      · exact absurd b q
      · exact absurd b q
    · exact absurd a q
    · exact absurd a q
    · exact absurd a q
    · exact absurd a q
theorem SH3.copy {oC oM : OO} {x1 x2 x3 x4 x5 : Int} {vC vM : Int × OO} (h : SH3 oC oM) (hb : ∀ r, -9 ≤ oM.1 2 r ∧ oM.1 2 r ≤ 40) (hC : CPO oC (fun z => z = -1) x1 x2 x3 x4 x5 vC) (hM : CPO oM (fun z => z < 0) x1 x2 x3 x4 x5 vM) : vC.1 = vM.1 ∧ SH3 vC.2 vM.2 := by
  obtain ⟨k, w, e, a1, a2⟩ := hC
  obtain ⟨k', w', e', b1, b2⟩ := hM
  have ek := CPW.same h.1 w w'
  subst ek
  refine ⟨e.trans e'.symm, ?_⟩
  rcases a2 with ⟨q, a2⟩ | ⟨q, a2⟩
  · rcases b2 with ⟨q', b2⟩ | ⟨q', b2⟩
    · exact h.eq a1 a2 b1 b2
    · exact absurd q' q
  · rcases b2 with ⟨q', b2⟩ | ⟨q', b2⟩
    · exact absurd q q'
    · subst q
      have hw : ((0 ≤ x1 ∧ x1 ≤ 5) ∧ (0 ≤ x3 ∧ x3 ≤ 5)) ∧ 0 ≤ x5 ∧ ((0 ≤ x2 ∧ x2 + x5 ≤ oM.1 2 x1.toNat) ∧ (0 ≤ x4 ∧ x4 + x5 ≤ oM.1 2 x3.toNat)) := by
        rcases w' with ⟨z, c⟩ | ⟨z, c, c2⟩ | ⟨z, c, c2, c3⟩ | ⟨z, c, c2, c3, c4⟩ | ⟨z, c, c2, c3, c4⟩
        · exact absurd z (by decide)
        · exact absurd z (by decide)
        · exact absurd z (by decide)
        · exact absurd z (by decide)
        · exact ⟨c, c2, c4⟩
      obtain ⟨⟨p1, p3⟩, p5, p2, p4⟩ := hw
      refine ⟨fun r hr => by rw [a1, b1]; exact h.1 r hr, fun r k hr hk => ?_⟩
      rw [b1] at hk
      rw [a2, b2]
      have hbr := hb r
      have hb1 := hb x1.toNat
      have hb3 := hb x3.toNat
      by_cases q : 40 * x3 + x4 ≤ ((40 * r + k : Nat) : Int) ∧ ((40 * r + k : Nat) : Int) < 40 * x3 + x4 + x5
      · rw [if_pos q, if_pos q]
        have e1 : (((40 * r + k : Nat) : Int) - (40 * x3 + x4) + (40 * x1 + x2)).toNat = 40 * x1.toNat + (((40 * r + k : Nat) : Int) - (40 * x3 + x4) + x2).toNat := by omega
        rw [e1]
        exact h.2 x1.toNat _ (by omega) (by omega)
      · rw [if_neg q, if_neg q]
        exact h.2 r k hr hk
