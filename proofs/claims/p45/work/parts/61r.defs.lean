-- BUILDINGS of the class
def OC (o : OO) : Prop := ∀ b : Int, 0 ≤ b → b < o.1 10 12 → o.1 17 b.toNat = 0 → o.1 18 (o.1 11 b.toNat).toNat = b
theorem OC.fr {L : List (Nat × Nat)} {o o' : OO} (h : OC o) (hf : Fr L o o') (h1 : wr L 10 12 = false) (h2 : ∀ k, wr L 17 k = false) (h3 : ∀ k, wr L 18 k = false) (h4 : ∀ k, wr L 11 k = false) : OC o' := by
  intro b b0 b1 b2
  rw [hf.1 10 12 h1] at b1
  rw [hf.1 17 _ (h2 _)] at b2
  rw [hf.1 11 _ (h4 _), hf.1 18 _ (h3 _)]
  exact h b b0 b1 b2
theorem OC_add {o o' : OO} {c : Int} (hB : BoxC o) (c0 : 0 ≤ c) (h : OC o) (hc : o.1 18 c.toNat = -9) (e1 : o'.1 10 12 = o.1 10 12 + 1) (e2 : ∀ k, o'.1 17 k = o.1 17 k) (e3 : ∀ k, o'.1 11 k = if k = (o.1 10 12).toNat then c else o.1 11 k) (e4 : ∀ k, o'.1 18 k = if k = c.toNat then o.1 10 12 else o.1 18 k) : OC o' := by
  intro b b0 b1 b2
  rw [e1] at b1
  rw [e2] at b2
  have hn := bC_10_12 hB
  by_cases e : b = o.1 10 12
  · rw [e3, if_pos (by rw [e]), e4, if_pos rfl]; exact e.symm
  · have q := h b b0 (by omega) b2
    rw [e3, if_neg (by omega), e4]
    by_cases e5 : (o.1 11 b.toNat).toNat = c.toNat
    · rw [e5, hc] at q; omega
    · rw [if_neg e5]; exact q
theorem OC_rem {o o' : OO} {x : Int} (x0 : 0 ≤ x) (x1 : x < o.1 10 12) (hx : o.1 17 x.toNat = 0) (h : OC o) (e1 : o'.1 10 12 = o.1 10 12) (e2 : ∀ k, o'.1 17 k = if k = x.toNat then 1 else o.1 17 k) (e3 : ∀ k, o'.1 11 k = o.1 11 k) (e4 : ∀ k, o'.1 18 k = if k = (o.1 11 x.toNat).toNat then -9 else o.1 18 k) : OC o' := by
  intro b b0 b1 b2
  rw [e1] at b1
  rw [e2] at b2
  by_cases e : b.toNat = x.toNat
  · rw [if_pos e] at b2; omega
  · rw [if_neg e] at b2
    have q := h b b0 b1 b2
    have qx := h x x0 x1 hx
    rw [e3, e4]
    by_cases e5 : (o.1 11 b.toNat).toNat = (o.1 11 x.toNat).toNat
    · rw [e5] at q; omega
    · rw [if_neg e5]; exact q
theorem HTC_tell {o o' : OO} (h : HTC o) (h1 : o'.1 10 12 = o.1 10 12) (h2 : o'.1 10 13 = o.1 10 13 + 1) (h3 : ∀ k : Nat, (k : Int) < o.1 10 13 → o'.1 19 k = o.1 19 k) : HTC o' := by
  intro b q0 q1
  rw [h1] at q1
  obtain ⟨k, p1, p2⟩ := h b q0 q1
  exact ⟨k, by omega, by rw [h3 k p1]; exact p2⟩
theorem HTC_add {o o' : OO} (hB : BoxC o) (h : HTC o) (h1 : o'.1 10 12 = o.1 10 12 + 1) (h2 : o'.1 10 13 = o.1 10 13 + 1) (h3 : ∀ k : Nat, (k : Int) < o.1 10 13 → o'.1 19 k = o.1 19 k) (h4 : o'.1 19 (o.1 10 13).toNat = o.1 10 12) : HTC o' := by
  intro b q0 q1
  rw [h1] at q1
  have hn := bC_10_13 hB
  by_cases e : b = o.1 10 12
  · exact ⟨(o.1 10 13).toNat, by omega, by rw [h4, e]⟩
  · obtain ⟨k, p1, p2⟩ := h b q0 (by omega)
    exact ⟨k, by omega, by rw [h3 k p1]; exact p2⟩
/-- the CELLS of those that stand are in the set -/
def SCI (o : OO) (z : Int64) (n : Int) : Prop := ∀ b : Int, 0 ≤ b → b < n → o.1 17 b.toNat = 0 → bt z (o.1 11 b.toNat).toNat = true
theorem SCI_0 {o : OO} {z : Int64} : SCI o z 0 := fun b h0 h1 => absurd h1 (by omega)
theorem SCI_no {o : OO} {z : Int64} {n : Int} (h : SCI o z n) (hn : ¬ o.1 17 n.toNat = 0) : SCI o z (n + 1) := by
  intro b h0 h1 h2
  by_cases e : b = n
  · rw [e] at h2; exact absurd h2 hn
  · exact h b h0 (by omega) h2
theorem SCI_s {o : OO} {z : Int64} {n c : Int} (h : SCI o z n) (c0 : 0 ≤ c ∧ c ≤ 63) (hc : c = o.1 11 n.toNat) (hb : ∀ k, 0 ≤ o.1 11 k ∧ o.1 11 k ≤ 63) : SCI o (z ||| jshl 1 (Int32.ofInt c)) (n + 1) := by
  obtain ⟨m, rfl⟩ : ∃ m : Nat, c = (m : Int) := ⟨c.toNat, by omega⟩
  intro b h0 h1 h2
  have q := hb b.toNat
  rw [bt_or, bt_one (by omega) (by omega)]
  by_cases e : b = n
  · rw [e, ← hc]; simp
  · rw [h b h0 (by omega) h2]; rfl
def NRC (o : OO) (z : Int64) (b : Int) : Prop := 0 ≤ b ∧ b < o.1 10 12 ∧ o.1 17 b.toNat = 0 ∧ bt z (o.1 11 b.toNat).toNat = true
theorem cnt_eq {P : Int → Prop} {g : Int → Nat} (n : Nat) (hg : ∀ b, P b → g b < 64) (hi : ∀ a b, P a → P b → g a = g b → a = b) : KP P (n : Int) = sumN (fun c => cn (∃ b : Int, 0 ≤ b ∧ b < (n : Int) ∧ P b ∧ g b = c)) 64 := by
  induction n with
  | zero =>
    have e : sumN (fun c => cn (∃ b : Int, 0 ≤ b ∧ b < ((0 : Nat) : Int) ∧ P b ∧ g b = c)) 64 = sumN (fun _ => 0) 64 := sumN_cg (fun c _ => cn_neg (fun ⟨b, q0, q1, _⟩ => by omega))
    rw [e, sumN_const]
    show (0 : Int) = _
    omega
  | succ n ih =>
    have e1 : KP P ((n + 1 : Nat) : Int) = KP P (n : Int) + cn (P (n : Int)) := KP_s (n := (n : Int)) (by omega)
    rw [e1]
    by_cases hp : P (n : Int)
    · have e2 : sumN (fun c => cn (∃ b : Int, 0 ≤ b ∧ b < ((n + 1 : Nat) : Int) ∧ P b ∧ g b = c)) 64 = sumN (fun c => if c = g (n : Int) then 1 else cn (∃ b : Int, 0 ≤ b ∧ b < (n : Int) ∧ P b ∧ g b = c)) 64 := by
        apply sumN_cg
        intro c _
        show cn _ = if c = g (n : Int) then 1 else cn _
        by_cases hc : c = g (n : Int)
        · rw [if_pos hc, cn_pos ⟨(n : Int), by omega, by omega, hp, hc.symm⟩]
        · rw [if_neg hc]
          apply cn_cg
          constructor
          · intro ⟨b, q0, q1, q2, q3⟩
            refine ⟨b, q0, ?_, q2, q3⟩
            rcases Classical.em (b = (n : Int)) with e | e
            · subst e; exact absurd q3.symm hc
            · omega
          · intro ⟨b, q0, q1, q2, q3⟩
            exact ⟨b, q0, by omega, q2, q3⟩
      rw [e2, sumN_upd (hg _ hp), ← ih, cn_pos hp, cn_neg (fun ⟨b, q0, q1, q2, q3⟩ => by have := hi b _ q2 hp q3; omega)]
      omega
    · rw [ih, cn_neg hp]
      have e2 : sumN (fun c => cn (∃ b : Int, 0 ≤ b ∧ b < ((n + 1 : Nat) : Int) ∧ P b ∧ g b = c)) 64 = sumN (fun c => cn (∃ b : Int, 0 ≤ b ∧ b < (n : Int) ∧ P b ∧ g b = c)) 64 := by
        apply sumN_cg
        intro c _
        apply cn_cg
        constructor
        · intro ⟨b, q0, q1, q2, q3⟩
          refine ⟨b, q0, ?_, q2, q3⟩
          rcases Classical.em (b = (n : Int)) with e | e
          · subst e; exact absurd q2 hp
          · omega
        · intro ⟨b, q0, q1, q2, q3⟩
          exact ⟨b, q0, by omega, q2, q3⟩
      rw [e2]
      omega
theorem NRC_le {o : OO} {p z : Int64} {n : Int} (hB : BoxC o) (ho : OC o) (hs : SCI o p (o.1 10 12)) (n0 : 0 ≤ n) : KP (NRC o z) n ≤ PC (p &&& z) := by
  obtain ⟨m, rfl⟩ : ∃ m : Nat, n = (m : Int) := ⟨n.toNat, by omega⟩
  rw [cnt_eq (P := NRC o z) (g := fun b => (o.1 11 b.toNat).toNat) m (fun b _ => by have := bC_11 hB b.toNat; show (o.1 11 b.toNat).toNat < 64; omega) (fun a b ha hb e => by
    have e : (o.1 11 a.toNat).toNat = (o.1 11 b.toNat).toNat := e
    have q1 := ho a ha.1 ha.2.1 ha.2.2.1
    have q2 := ho b hb.1 hb.2.1 hb.2.2.1
    rw [e] at q1
    omega)]
  apply sumN_le
  intro c hc
  show cn _ ≤ (if bt (p &&& z) c = true then 1 else 0)
  by_cases q : ∃ b : Int, 0 ≤ b ∧ b < (m : Int) ∧ NRC o z b ∧ (o.1 11 b.toNat).toNat = c
  · obtain ⟨b, q0, q1, q2, q3⟩ := q
    have h1 := hs b q2.1 q2.2.1 q2.2.2.1
    have h2 := q2.2.2.2
    rw [q3] at h1 h2
    rw [if_pos (by rw [bt_and, h1, h2]; rfl)]
    exact (cn_rng _).2
  · rw [cn_neg q]; split <;> omega
def STN (o : OO) (z : Int64) (v : Int) : Prop := ∃ p, SCI o p (o.1 10 12) ∧ v = PC (p &&& z)
theorem PC_rng (z : Int64) : 0 ≤ PC z ∧ PC z ≤ 64 := by
  have h1 : ∀ j, j < 64 → 0 ≤ (if bt z j = true then (1 : Int) else 0) := fun j _ => by split <;> omega
  have h2 : ∀ j, j < 64 → (if bt z j = true then (1 : Int) else 0) ≤ 1 := fun j _ => by split <;> omega
  have h3 := sumN_nn h1
  have h4 := sumN_ub h2
  unfold PC
  omega
theorem NRC.cg {o o' : OO} (h1 : o'.1 10 12 = o.1 10 12) (h2 : ∀ k, o'.1 17 k = o.1 17 k) (h3 : ∀ k, o'.1 11 k = o.1 11 k) (z : Int64) (b : Int) : NRC o' z b ↔ NRC o z b := by
  unfold NRC
  rw [h1, h2, h3]
/-- what row answers -/
def RWA (x1 x2 : Int) : Int := if x1 < 0 then -1 else if 5 < x1 then -1 else if 40 < x2 then -1 else if x2 < 0 then -3 else x2
