/-- each BUILDING of the reference has a telling -/
def HT (o : OO) : Prop := ∀ b : Int, 0 ≤ b → b < o.1 0 17 → ∃ k : Nat, (k : Int) < o.1 0 23 ∧ o.1 18 k = b
theorem HT.fr {L : List (Nat × Nat)} {o o' : OO} (h : HT o) (hf : Fr L o o') (h1 : wr L 0 17 = false) (h2 : wr L 0 23 = false) (h3 : ∀ k, wr L 18 k = false) : HT o' := by
  intro b h0 hb
  rw [hf.1 0 17 h1] at hb
  obtain ⟨k, hk, e⟩ := h b h0 hb
  exact ⟨k, by rw [hf.1 0 23 h2]; exact hk, by rw [hf.1 18 k (h3 k)]; exact e⟩
def SS (o : OO) : Int := sumN (o.1 52) 64
theorem SS_upd {o : OO} {i : Nat} {x : Int} (h : i < 64) : SS (st1 o 52 i x) = SS o - o.1 52 i + x := sumN_upd h
theorem SS_nn {o : OO} (h : BoxM o) : 0 ≤ SS o := sumN_nn (fun j _ => (bM_52 h j).1)
def SL (o : OO) : Int := sumN (o.1 38) 320
theorem SL_upd {o : OO} {i : Nat} {x : Int} (h : i < 320) : SL (st1 o 38 i x) = SL o - o.1 38 i + x := sumN_upd h
theorem SL_nn {o : OO} (h : BoxM o) : 0 ≤ SL o := sumN_nn (fun j _ => (bM_38 h j).1)
/-- n places of row r are weights -/
def W4 (o : OO) (r n : Int) : Prop := ∀ k : Int, 0 ≤ k → k < n → 0 ≤ o.1 3 (40 * r + k).toNat ∧ o.1 3 (40 * r + k).toNat ≤ 100
theorem W4_0 {o : OO} {r : Int} : W4 o r 0 := fun k h0 h1 => absurd h1 (by omega)
theorem W4_s {o : OO} {r n : Int} (h : W4 o r n) (hn : 0 ≤ o.1 3 (40 * r + n).toNat ∧ o.1 3 (40 * r + n).toNat ≤ 100) : W4 o r (n + 1) := by
  intro k h0 h1
  rcases Classical.em (k = n) with e | e
  · subst e; exact hn
  · exact h k h0 (by omega)
/-- each BUILDING of the class has a telling -/
def HTC (o : OO) : Prop := ∀ b : Int, 0 ≤ b → b < o.1 10 12 → ∃ k : Nat, (k : Int) < o.1 10 13 ∧ o.1 19 k = b
theorem HTC.fr {L : List (Nat × Nat)} {o o' : OO} (h : HTC o) (hf : Fr L o o') (h1 : wr L 10 12 = false) (h2 : wr L 10 13 = false) (h3 : ∀ k, wr L 19 k = false) : HTC o' := by
  intro b h0 hb
  rw [hf.1 10 12 h1] at hb
  obtain ⟨k, hk, e⟩ := h b h0 hb
  exact ⟨k, by rw [hf.1 10 13 h2]; exact hk, by rw [hf.1 19 k (h3 k)]; exact e⟩
/-- none of the first n tellings is of b -/
def NF (o : OO) (b n : Int) : Prop := ∀ k : Nat, (k : Int) < n → ¬ o.1 19 k = b
theorem NF_0 {o : OO} {b : Int} : NF o b 0 := fun k h => absurd h (by omega)
theorem NF_s {o : OO} {b n : Int} (h : NF o b n) (h0 : 0 ≤ n) (hn : ¬ o.1 19 n.toNat = b) : NF o b (n + 1) := by
  intro k hk
  rcases Classical.em ((k : Int) = n) with e | e
  · have : n.toNat = k := by omega
    rw [this] at hn; exact hn
  · exact h k (by omega)
-- ACTS of the class: what the row must be, what is drawn
def AV (o : OO) (r n m : Int) : Prop := ∀ i : Int, 0 ≤ i → i < n → (0 ≤ o.1 3 (r * 40 + 3 * i).toNat ∧ o.1 3 (r * 40 + 3 * i).toNat ≤ 200) ∧ (o.1 3 (r * 40 + (3 * i + 1)).toNat = -9 ∨ (0 ≤ o.1 3 (r * 40 + (3 * i + 1)).toNat ∧ o.1 3 (r * 40 + (3 * i + 1)).toNat < m)) ∧ (o.1 3 (r * 40 + (3 * i + 2)).toNat = -9 ∨ (0 ≤ o.1 3 (r * 40 + (3 * i + 2)).toNat ∧ o.1 3 (r * 40 + (3 * i + 2)).toNat < m))
theorem AV_0 {o : OO} {r m : Int} : AV o r 0 m := fun i h0 h1 => absurd h1 (by omega)
theorem AV_s {o : OO} {r n m : Int} (h : AV o r n m) (h1 : 0 ≤ o.1 3 (r * 40 + 3 * n).toNat ∧ o.1 3 (r * 40 + 3 * n).toNat ≤ 200) (h2 : o.1 3 (r * 40 + (3 * n + 1)).toNat = -9 ∨ (0 ≤ o.1 3 (r * 40 + (3 * n + 1)).toNat ∧ o.1 3 (r * 40 + (3 * n + 1)).toNat < m)) (h3 : o.1 3 (r * 40 + (3 * n + 2)).toNat = -9 ∨ (0 ≤ o.1 3 (r * 40 + (3 * n + 2)).toNat ∧ o.1 3 (r * 40 + (3 * n + 2)).toNat < m)) : AV o r (n + 1) m := by
  intro i q0 q1
  rcases Classical.em (i = n) with e | e
  · subst e; exact ⟨h1, h2, h3⟩
  · exact h i q0 (by omega)
theorem AV.cg {o o' : OO} {r n m : Int} (h : AV o r n m) (hf : ∀ j, o'.1 3 j = o.1 3 j) : AV o' r n m := by
  intro i q0 q1
  simp only [hf]
  exact h i q0 q1
def CD (o : OO) (n : Int) : Int := sumN (fun i => if o.1 69 i = -9 then 0 else 1) n.toNat
theorem CD_lt {o : OO} {n i : Int} (h0 : 0 ≤ i) (hi : i < n) (h : o.1 69 i.toNat = -9) : CD o n < n := by
  have h1 : ∀ j, j < n.toNat → (if o.1 69 j = -9 then (0 : Int) else 1) ≤ 1 := fun j _ => by split <;> omega
  have h2 := sumN_ub h1
  rcases Classical.em (CD o n < n) with q | q
  · exact q
  · have h3 : sumN (fun i => if o.1 69 i = -9 then (0 : Int) else 1) n.toNat = (n.toNat : Int) := by
      have : CD o n = sumN (fun i => if o.1 69 i = -9 then (0 : Int) else 1) n.toNat := rfl
      omega
    have h4 := sumN_full h1 h3 i.toNat (by omega)
    have h4 : (if o.1 69 i.toNat = -9 then (0 : Int) else 1) = 1 := h4
    rw [if_pos h] at h4
    omega
theorem CD_le {o : OO} {n : Int} (hn : 0 ≤ n) : CD o n ≤ n ∧ 0 ≤ CD o n := by
  have h1 : ∀ j, j < n.toNat → (if o.1 69 j = -9 then (0 : Int) else 1) ≤ 1 := fun j _ => by split <;> omega
  have h2 : ∀ j, j < n.toNat → 0 ≤ (if o.1 69 j = -9 then (0 : Int) else 1) := fun j _ => by split <;> omega
  have h3 := sumN_ub h1
  have h4 := sumN_nn h2
  have e : CD o n = sumN (fun i => if o.1 69 i = -9 then (0 : Int) else 1) n.toNat := rfl
  omega
theorem CD_upd {o : OO} {n i x : Int} (h0 : 0 ≤ i) (hi : i < n) (h : o.1 69 i.toNat = -9) (hx : ¬ x = -9) : CD (st1 o 69 i.toNat x) n = CD o n + 1 := by
  have e : CD (st1 o 69 i.toNat x) n = sumN (fun j => if j = i.toNat then 1 else (if o.1 69 j = -9 then (0 : Int) else 1)) n.toNat := by
    apply sumN_cg
    intro j _
    show (if (if j = i.toNat then x else o.1 69 j) = -9 then (0 : Int) else 1) = _
    by_cases hj : j = i.toNat
    · rw [if_pos hj, if_pos hj, if_neg hx]
    · rw [if_neg hj, if_neg hj]
  rw [e, sumN_upd (by omega), if_pos h]
  show CD o n - 0 + 1 = _
  omega
theorem CD_cg {o o' : OO} {n : Int} (h : ∀ j, o'.1 69 j = o.1 69 j) : CD o' n = CD o n := by
  apply sumN_cg
  intro j _
  rw [h]
theorem CD_none {o : OO} {n : Int} (h : ∀ j : Nat, j < 13 → o.1 69 j = -9) (hn : n ≤ 13) : CD o n = 0 := by
  have : CD o n = sumN (fun _ => 0) n.toNat := sumN_cg (fun j hj => if_pos (h j (by omega)))
  rw [this, sumN_const]
  omega
/-- the first n are drawn -/
def DS (o : OO) (n : Int) : Prop := ∀ i : Int, 0 ≤ i → i < n → 0 ≤ o.1 69 i.toNat
theorem DS_full {o : OO} {n : Int} (hB : BoxC o) (h : CD o n = n) : DS o n := by
  intro i q0 q1
  have := bC_69 hB i.toNat
  rcases this with e | e
  · have := CD_lt q0 q1 e
    omega
  · exact e.1
theorem DS.cg {o o' : OO} {n : Int} (h : DS o n) (hf : ∀ j, o'.1 69 j = o.1 69 j) : DS o' n := by
  intro i q0 q1
  rw [hf]; exact h i q0 q1
def OD (o : OO) (k n : Int) : Prop := ∀ i : Int, 0 ≤ i → i < k → 0 ≤ o.1 70 i.toNat ∧ o.1 70 i.toNat < n
theorem OD_0 {o : OO} {n : Int} : OD o 0 n := fun i h0 h1 => absurd h1 (by omega)
theorem OD_s {o : OO} {k n x : Int} (h : OD o k n) (hk : 0 ≤ k) (hx : 0 ≤ x ∧ x < n) : OD (st1 o 70 k.toNat x) (k + 1) n := by
  intro i q0 q1
  show 0 ≤ (if i.toNat = k.toNat then x else o.1 70 i.toNat) ∧ (if i.toNat = k.toNat then x else o.1 70 i.toNat) < n
  by_cases e : i.toNat = k.toNat
  · rw [if_pos e]; exact hx
  · rw [if_neg e]; exact h i q0 (by omega)
theorem OD.cg {o o' : OO} {k n : Int} (h : OD o k n) (hf : ∀ j, o'.1 70 j = o.1 70 j) : OD o' k n := by
  intro i q0 q1
  rw [hf]; exact h i q0 q1
def DB (o : OO) (b : Int) : Prop := ∀ j : Nat, j < 13 → o.1 69 j ≤ b
theorem DB.up {o : OO} {b b' : Int} (h : DB o b) (hb : b ≤ b') : DB o b' := fun j hj => Int.le_trans (h j hj) hb
theorem DB_upd {o : OO} {i : Nat} {x b b' : Int} (h : DB o b) (hb : b ≤ b') (hx : x ≤ b') : DB (st1 o 69 i x) b' := by
  intro j hj
  show (if j = i then x else o.1 69 j) ≤ b'
  split
  · exact hx
  · exact Int.le_trans (h j hj) hb
def LT (o : OO) (n b : Int) : Prop := ∀ i : Int, 0 ≤ i → i < n → -b ≤ o.1 68 i.toNat ∧ o.1 68 i.toNat ≤ 100000
theorem LT.up {o : OO} {n b b' : Int} (h : LT o n b) (hb : b ≤ b') : LT o n b' := fun i q0 q1 => ⟨by have := (h i q0 q1).1; omega, (h i q0 q1).2⟩
theorem LT_upd {o : OO} {n b x : Int} {k : Nat} (h : LT o n b) (hx : -b ≤ x ∧ x ≤ 100000) : LT (st1 o 68 k x) n b := by
  intro i q0 q1
  show -b ≤ (if i.toNat = k then x else o.1 68 i.toNat) ∧ (if i.toNat = k then x else o.1 68 i.toNat) ≤ 100000
  split
  · exact hx
  · exact h i q0 q1
theorem LT_s {o : OO} {k x : Int} (h : LT o k 0) (hk : 0 ≤ k) (hx : 0 ≤ x ∧ x ≤ 100000) : LT (st1 o 68 k.toNat x) (k + 1) 0 := by
  intro i q0 q1
  show -0 ≤ (if i.toNat = k.toNat then x else o.1 68 i.toNat) ∧ (if i.toNat = k.toNat then x else o.1 68 i.toNat) ≤ 100000
  by_cases e : i.toNat = k.toNat
  · rw [if_pos e]; omega
  · rw [if_neg e]; exact h i q0 (by omega)
/-- the first n places of array c are x -/
def FP (o : OO) (c : Nat) (n x : Int) : Prop := ∀ j : Nat, (j : Int) < n → o.1 c j = x
theorem FP_0 {o : OO} {c : Nat} {x : Int} : FP o c 0 x := fun j h => absurd h (by omega)
theorem FP_s {o : OO} {c : Nat} {n x : Int} (h : FP o c n x) (h0 : 0 ≤ n) : FP (st1 o c n.toNat x) c (n + 1) x := by
  intro j hj
  show (bif Nat.beq c c then (fun j => if j = n.toNat then x else o.1 c j) else o.1 c) j = x
  have e : Nat.beq c c = true := Nat.beq_refl c
  rw [e]
  show (if j = n.toNat then x else o.1 c j) = x
  by_cases hn : j = n.toNat
  · rw [if_pos hn]
  · rw [if_neg hn]; exact h j (by omega)
def WC (o : OO) (r n : Int) : Prop := ∀ k : Int, 0 ≤ k → k < n → 0 ≤ o.1 3 (r * 40 + k).toNat ∧ o.1 3 (r * 40 + k).toNat ≤ 100
theorem low_rng {a b : Int} (h0 : 0 ≤ a) (h1 : a ≤ 100000) (h2 : 0 ≤ b) (h3 : b ≤ 9999) : -999900000 ≤ a * (100 - b) ∧ a * (100 - b) ≤ 10000000 := by
  have h := mul_rng h0 h1 h2 h3
  have e : a * (100 - b) = a * 100 - a * b := Int.mul_sub a 100 b
  omega
/-- how many CELLS a set has not -/
def CB (z : Int64) : Int := sumN (fun c => if bt z c = true then 0 else 1) 64
theorem CB_nn (z : Int64) : 0 ≤ CB z := sumN_nn (fun c _ => by split <;> omega)
theorem CB_or {z : Int64} {d : Int} (h0 : 0 ≤ d) (h1 : d ≤ 63) (hb : bt z d.toNat = false) : CB (z ||| jshl 1 (Int32.ofInt d)) = CB z - 1 := by
  obtain ⟨n, rfl⟩ : ∃ n : Nat, d = (n : Int) := ⟨d.toNat, by omega⟩
  have hn : n < 64 := by omega
  have hb : bt z n = false := hb
  have e : CB (z ||| jshl 1 (Int32.ofInt (n : Int))) = sumN (fun c => if c = n then 0 else (if bt z c = true then (0 : Int) else 1)) 64 := by
    apply sumN_cg
    intro c hc
    show (if bt (z ||| jshl 1 (Int32.ofInt (n : Int))) c = true then (0 : Int) else 1) = _
    rw [bt_or, bt_one hn hc]
    by_cases h : c = n
    · simp [h]
    · simp [h]
  rw [e, sumN_upd hn, hb]
  show CB z - 1 + 0 = _
  omega
def WK (o : OO) (n b : Int) : Prop := ∀ j : Int, 0 ≤ j → j < n → 0 ≤ o.1 53 j.toNat ∧ o.1 53 j.toNat ≤ b
theorem WK_0 {o : OO} {b : Int} : WK o 0 b := fun j h0 h1 => absurd h1 (by omega)
theorem WK_s {o : OO} {n : Int} (h : WK o n 0) (hn : 0 ≤ n) : WK (st1 o 53 n.toNat 0) (n + 1) 0 := by
  intro j q0 q1
  show 0 ≤ (if j.toNat = n.toNat then 0 else o.1 53 j.toNat) ∧ (if j.toNat = n.toNat then 0 else o.1 53 j.toNat) ≤ 0
  by_cases e : j.toNat = n.toNat
  · rw [if_pos e]; omega
  · rw [if_neg e]; exact h j q0 (by omega)
theorem WK_upd {o : OO} {n b b' x : Int} {i : Nat} (h : WK o n b) (hx : 0 ≤ x ∧ x ≤ b') (hb : b ≤ b') : WK (st1 o 53 i x) n b' := by
  intro j q0 q1
  show 0 ≤ (if j.toNat = i then x else o.1 53 j.toNat) ∧ (if j.toNat = i then x else o.1 53 j.toNat) ≤ b'
  have := h j q0 q1
  split <;> omega
theorem WK.cg {o o' : OO} {n b : Int} (h : WK o n b) (hf : ∀ j, o'.1 53 j = o.1 53 j) : WK o' n b := by
  intro j q0 q1
  rw [hf]; exact h j q0 q1
theorem WK.up {o : OO} {n b b' : Int} (h : WK o n b) (hb : b ≤ b') : WK o n b' := fun j q0 q1 => ⟨(h j q0 q1).1, Int.le_trans (h j q0 q1).2 hb⟩
