/-- how many of the first n are not below 0 -/
def CG (f : Nat → Int) (n : Int) : Int := sumN (fun i => if f i < 0 then 0 else 1) n.toNat
theorem CG_le {f : Nat → Int} {n : Int} (hn : 0 ≤ n) : CG f n ≤ n ∧ 0 ≤ CG f n := by
  have h1 : ∀ j, j < n.toNat → (if f j < 0 then (0 : Int) else 1) ≤ 1 := fun j _ => by split <;> omega
  have h2 : ∀ j, j < n.toNat → 0 ≤ (if f j < 0 then (0 : Int) else 1) := fun j _ => by split <;> omega
  have h3 := sumN_ub h1
  have h4 := sumN_nn h2
  have e : CG f n = sumN (fun i => if f i < 0 then (0 : Int) else 1) n.toNat := rfl
  omega
theorem CG_full {f : Nat → Int} {n : Int} (h : n ≤ CG f n) : ∀ i : Int, 0 ≤ i → i < n → 0 ≤ f i.toNat := by
  intro i h0 hi
  have h1 : ∀ j, j < n.toNat → (if f j < 0 then (0 : Int) else 1) ≤ 1 := fun j _ => by split <;> omega
  have hle := CG_le (f := f) (n := n) (by omega)
  have h3 : sumN (fun i => if f i < 0 then (0 : Int) else 1) n.toNat = (n.toNat : Int) := by
    have : CG f n = sumN (fun i => if f i < 0 then (0 : Int) else 1) n.toNat := rfl
    omega
  have h4 : (if f i.toNat < 0 then (0 : Int) else 1) = 1 := sumN_full h1 h3 i.toNat (by omega)
  split at h4
  · omega
  · omega
theorem CG_lt {f : Nat → Int} {n i : Int} (h0 : 0 ≤ i) (hi : i < n) (h : f i.toNat < 0) : CG f n < n := by
  rcases Classical.em (CG f n < n) with q | q
  · exact q
  · have := CG_full (f := f) (n := n) (by omega) i h0 hi
    omega
theorem CG_upd {f : Nat → Int} {n i x : Int} (h0 : 0 ≤ i) (hi : i < n) (h : f i.toNat < 0) (hx : 0 ≤ x) : CG (fun j => if j = i.toNat then x else f j) n = CG f n + 1 := by
  have e : CG (fun j => if j = i.toNat then x else f j) n = sumN (fun j => if j = i.toNat then 1 else (if f j < 0 then (0 : Int) else 1)) n.toNat := by
    apply sumN_cg
    intro j _
    show (if (if j = i.toNat then x else f j) < 0 then (0 : Int) else 1) = _
    by_cases hj : j = i.toNat
    · rw [if_pos hj, if_pos hj, if_neg (by omega)]
    · rw [if_neg hj, if_neg hj]
  rw [e, sumN_upd (by omega), if_pos h]
  show CG f n - 0 + 1 = _
  omega
theorem CG_same {f : Nat → Int} {n : Int} {i : Nat} {x : Int} (h : f i < 0 ↔ x < 0) : CG (fun j => if j = i then x else f j) n = CG f n := by
  apply sumN_cg
  intro j _
  show (if (if j = i then x else f j) < 0 then (0 : Int) else 1) = _
  by_cases hj : j = i
  · subst hj
    rw [if_pos rfl]
    by_cases hx : x < 0
    · rw [if_pos hx, if_pos (h.mpr hx)]
    · rw [if_neg hx, if_neg (fun q => hx (h.mp q))]
  · rw [if_neg hj]
theorem CG_none {f : Nat → Int} {n : Int} (h : ∀ j : Nat, (j : Int) < n → f j < 0) : CG f n = 0 := by
  have : CG f n = sumN (fun _ => 0) n.toNat := sumN_cg (fun j hj => if_pos (h j (by omega)))
  rw [this, sumN_const]
  omega
theorem CG_cg {f g : Nat → Int} {n : Int} (h : ∀ j, g j = f j) : CG g n = CG f n := by
  apply sumN_cg
  intro j _
  rw [h]
-- ACTS of the reference
def AN (o : OO) (r i m n : Int) : Prop := ∀ k : Int, 0 ≤ k → k < n → (o.1 3 (40 * r + 3 * i + 1 + k).toNat = -9 ∨ (0 ≤ o.1 3 (40 * r + 3 * i + 1 + k).toNat ∧ o.1 3 (40 * r + 3 * i + 1 + k).toNat < m))
theorem AN_0 {o : OO} {r i m : Int} : AN o r i m 0 := fun k h0 h1 => absurd h1 (by omega)
theorem AN_s {o : OO} {r i m n : Int} (h : AN o r i m n) (hn : o.1 3 (40 * r + 3 * i + 1 + n).toNat = -9 ∨ (0 ≤ o.1 3 (40 * r + 3 * i + 1 + n).toNat ∧ o.1 3 (40 * r + 3 * i + 1 + n).toNat < m)) : AN o r i m (n + 1) := by
  intro k h0 h1
  rcases Classical.em (k = n) with e | e
  · subst e; exact hn
  · exact h k h0 (by omega)
def AVm (o : OO) (r n m : Int) : Prop := ∀ i : Int, 0 ≤ i → i < n → (0 ≤ o.1 3 (40 * r + 3 * i).toNat ∧ o.1 3 (40 * r + 3 * i).toNat ≤ 200) ∧ AN o r i m 2
theorem AVm_0 {o : OO} {r m : Int} : AVm o r 0 m := fun i h0 h1 => absurd h1 (by omega)
theorem AVm_s {o : OO} {r n m : Int} (h : AVm o r n m) (h1 : 0 ≤ o.1 3 (40 * r + 3 * n).toNat ∧ o.1 3 (40 * r + 3 * n).toNat ≤ 200) (h2 : AN o r n m 2) : AVm o r (n + 1) m := by
  intro i q0 q1
  rcases Classical.em (i = n) with e | e
  · subst e; exact ⟨h1, h2⟩
  · exact h i q0 (by omega)
theorem AVm.cg {o o' : OO} {r n m : Int} (h : AVm o r n m) (hf : ∀ j, o'.1 3 j = o.1 3 j) : AVm o' r n m := by
  intro i q0 q1
  refine ⟨by rw [hf]; exact (h i q0 q1).1, ?_⟩
  intro k p0 p1
  rw [hf]
  exact (h i q0 q1).2 k p0 p1
def EN (o : OO) (n : Int) : Prop := ∀ j : Nat, (j : Int) < n → o.1 56 j = -9
theorem EN_0 {o : OO} : EN o 0 := fun j h => absurd h (by omega)
theorem EN_s {o : OO} {n : Int} (h : EN o n) (h0 : 0 ≤ n) : EN (st1 o 56 n.toNat (-9)) (n + 1) := by
  intro j hj
  show (if j = n.toNat then -9 else o.1 56 j) = -9
  by_cases hn : j = n.toNat
  · rw [if_pos hn]
  · rw [if_neg hn]; exact h j (by omega)
def DBm (o : OO) (n b : Int) : Prop := ∀ j : Int, 0 ≤ j → j < n → o.1 56 j.toNat ≤ b
theorem DBm.up {o : OO} {n b b' : Int} (h : DBm o n b) (hb : b ≤ b') : DBm o n b' := fun j q0 q1 => Int.le_trans (h j q0 q1) hb
theorem DBm_upd {o : OO} {i : Nat} {n x b b' : Int} (h : DBm o n b) (hb : b ≤ b') (hx : x ≤ b') : DBm (st1 o 56 i x) n b' := by
  intro j q0 q1
  show (if j.toNat = i then x else o.1 56 j.toNat) ≤ b'
  split
  · exact hx
  · exact Int.le_trans (h j q0 q1) hb
def LTm (o : OO) (n b : Int) : Prop := ∀ i : Int, 0 ≤ i → i < n → -b ≤ o.1 57 i.toNat ∧ o.1 57 i.toNat ≤ 200000
theorem LTm_0 {o : OO} {b : Int} : LTm o 0 b := fun i h0 h1 => absurd h1 (by omega)
theorem LTm.up {o : OO} {n b b' : Int} (h : LTm o n b) (hb : b ≤ b') : LTm o n b' := fun i q0 q1 => ⟨by have := (h i q0 q1).1; omega, (h i q0 q1).2⟩
theorem LTm_upd {o : OO} {n b b' x : Int} {k : Nat} (h : LTm o n b) (hb : b ≤ b') (hx : -b' ≤ x ∧ x ≤ 200000) : LTm (st1 o 57 k x) n b' := by
  intro i q0 q1
  show -b' ≤ (if i.toNat = k then x else o.1 57 i.toNat) ∧ (if i.toNat = k then x else o.1 57 i.toNat) ≤ 200000
  split
  · exact hx
  · exact h.up hb i q0 q1
theorem LTm_s {o : OO} {k x b : Int} (h : LTm o k b) (hk : 0 ≤ k) (hx : -b ≤ x ∧ x ≤ 200000) : LTm (st1 o 57 k.toNat x) (k + 1) b := by
  intro i q0 q1
  show -b ≤ (if i.toNat = k.toNat then x else o.1 57 i.toNat) ∧ (if i.toNat = k.toNat then x else o.1 57 i.toNat) ≤ 200000
  by_cases e : i.toNat = k.toNat
  · rw [if_pos e]; omega
  · rw [if_neg e]; exact h i q0 (by omega)
/-- the CELL beside c in a direction; -9: none -/
def bsd (c w : Int) : Int := if w = 0 then (if 8 ≤ c then c - 8 else -9) else if w = 1 then (if 0 < c % 8 then c - 1 else -9) else if w = 2 then (if c % 8 < 7 then c + 1 else -9) else if w = 3 then (if c < 56 then c + 8 else -9) else -9
/-- a way w, x2 or more, leads from x0 to x1 -/
def NB (x0 x1 x2 : Int) : Prop := ∃ w : Int, x2 ≤ w ∧ w ≤ 3 ∧ bsd x0 w = x1
theorem NB.le {x0 x1 x2 : Int} (h : NB x0 x1 x2) : x2 ≤ 3 := by obtain ⟨w, h1, h2, _⟩ := h; omega
theorem NB.s {x0 x1 x2 : Int} (h : NB x0 x1 x2) (hn : ¬ bsd x0 x2 = x1) : NB x0 x1 (x2 + 1) := by
  obtain ⟨w, h1, h2, h3⟩ := h
  refine ⟨w, ?_, h2, h3⟩
  rcases Classical.em (w = x2) with e | e
  · subst e; exact absurd h3 hn
  · omega
/-- 1 where P holds, else 0 -/
noncomputable def cn (P : Prop) : Int := @ite Int P (Classical.propDecidable P) 1 0
theorem cn_pos {P : Prop} (h : P) : cn P = 1 := by unfold cn; exact if_pos h
theorem cn_neg {P : Prop} (h : ¬ P) : cn P = 0 := by unfold cn; exact if_neg h
theorem cn_rng (P : Prop) : 0 ≤ cn P ∧ cn P ≤ 1 := by
  rcases Classical.em P with h | h
  · rw [cn_pos h]; omega
  · rw [cn_neg h]; omega
theorem cn_cg {P Q : Prop} (h : P ↔ Q) : cn P = cn Q := by
  rcases Classical.em P with p | p
  · rw [cn_pos p, cn_pos (h.mp p)]
  · rw [cn_neg p, cn_neg (fun q => p (h.mpr q))]
noncomputable def KP (P : Int → Prop) (n : Int) : Int := sumN (fun b => cn (P (b : Int))) n.toNat
theorem KP_0 {P : Int → Prop} : KP P 0 = 0 := rfl
theorem KP_s {P : Int → Prop} {n : Int} (h : 0 ≤ n) : KP P (n + 1) = KP P n + cn (P n) := by
  obtain ⟨k, rfl⟩ : ∃ k : Nat, n = (k : Int) := ⟨n.toNat, by omega⟩
  have e : ((k : Int) + 1).toNat = k + 1 := by omega
  unfold KP
  rw [e]
  rfl
theorem KP_mono {P : Int → Prop} {m n : Int} (h0 : 0 ≤ m) (h : m ≤ n) : KP P m ≤ KP P n := by
  obtain ⟨k, rfl⟩ : ∃ k : Nat, n = m + (k : Int) := ⟨(n - m).toNat, by omega⟩
  clear h
  induction k with
  | zero => simp
  | succ k ih =>
    have e := KP_s (P := P) (n := m + (k : Int)) (by omega)
    have := cn_rng (P (m + (k : Int)))
    rw [show m + ((k + 1 : Nat) : Int) = m + (k : Int) + 1 by omega]
    omega
theorem KP_cg {P Q : Int → Prop} {n : Int} (h : ∀ b : Int, 0 ≤ b → b < n → (P b ↔ Q b)) : KP P n = KP Q n := by
  apply sumN_cg
  intro j hj
  exact cn_cg (h j (by omega) (by omega))
theorem KP_lt {P : Int → Prop} {m n : Int} (h0 : 0 ≤ m) (h : m < n) (hp : P m) : KP P m + 1 ≤ KP P n := by
  have e := KP_s (P := P) h0
  rw [cn_pos hp] at e
  have := KP_mono (P := P) (m := m + 1) (n := n) (by omega) (by omega)
  omega
/-- a BUILDING near a LINE, by the reference's own test -/
def NR (o : OO) (l b : Int) : Prop := o.1 16 b.toNat = 0 ∧ ∃ v, s_X12_isNear o l (o.1 13 b.toNat) = some v ∧ ¬ v = 0
theorem isNear_cg {o o' : OO} (h1 : o'.1 30 = o.1 30) (h2 : o'.1 31 = o.1 31) (l c : Int) : s_X12_isNear o' l c = s_X12_isNear o l c := by
  simp only [s_X12_isNear, e_X12_isNear_5, l_X12_isNear_5, b_X12_isNear_84, b_X12_isNear_77, b_X12_isNear_76, b_X12_isNear_72, h1, h2]
theorem NR.cg {o o' : OO} (h1 : ∀ j, o'.1 30 j = o.1 30 j) (h2 : ∀ j, o'.1 31 j = o.1 31 j) (h3 : ∀ j, o'.1 16 j = o.1 16 j) (h4 : ∀ j, o'.1 13 j = o.1 13 j) (l b : Int) : NR o' l b ↔ NR o l b := by
  have e1 : o'.1 30 = o.1 30 := funext h1
  have e2 : o'.1 31 = o.1 31 := funext h2
  unfold NR
  rw [h3, h4, isNear_cg e1 e2]
theorem HT_tell {o o' : OO} (h : HT o) (h1 : o'.1 0 17 = o.1 0 17) (h2 : o'.1 0 23 = o.1 0 23 + 1) (h3 : ∀ k : Nat, (k : Int) < o.1 0 23 → o'.1 18 k = o.1 18 k) : HT o' := by
  intro b q0 q1
  rw [h1] at q1
  obtain ⟨k, p1, p2⟩ := h b q0 q1
  exact ⟨k, by omega, by rw [h3 k p1]; exact p2⟩
theorem HT_build {o o' : OO} (h : HT o) (e1 : o'.1 0 17 = o.1 0 17 + 1) (e2 : o'.1 0 23 = o.1 0 23) (e3 : ∀ k, o'.1 18 k = o.1 18 k) (k : Nat) (hk : (k : Int) < o.1 0 23) (ek : o.1 18 k = o.1 0 17) : HT o' := by
  intro b q0 q1
  rw [e1] at q1
  rcases Classical.em (b = o.1 0 17) with e | e
  · exact ⟨k, by rw [e2]; exact hk, by rw [e3, ek, e]⟩
  · obtain ⟨j, p1, p2⟩ := h b q0 (by omega)
    exact ⟨j, by rw [e2]; exact p1, by rw [e3]; exact p2⟩
theorem mul_bd {a b A B C : Int} (h1 : -C ≤ a) (h2 : a ≤ A) (h3 : 0 ≤ b) (h4 : b ≤ B) (hA : 0 ≤ A) (hC : 0 ≤ C) : -(C * B) ≤ a * b ∧ a * b ≤ A * B := by
  have p1 : a * b ≤ A * b := Int.mul_le_mul_of_nonneg_right h2 h3
  have p2 : A * b ≤ A * B := Int.mul_le_mul_of_nonneg_left h4 hA
  have p3 : -C * b ≤ a * b := Int.mul_le_mul_of_nonneg_right h1 h3
  have p4 : C * b ≤ C * B := Int.mul_le_mul_of_nonneg_left h4 hC
  rw [Int.neg_mul] at p3
  omega
