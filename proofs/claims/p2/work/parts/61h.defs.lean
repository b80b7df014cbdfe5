/-- each BUILDING of the reference has a telling -/
def HT (o : OO) : Prop := ∀ b : Int, 0 ≤ b → b < o.1 0 17 → ∃ k : Nat, (k : Int) < o.1 0 23 ∧ o.1 18 k = b
theorem HT.fr {L : List (Nat × Nat)} {o o' : OO} (h : HT o) (hf : Fr L o o') (h1 : wr L 0 17 = false) (h2 : wr L 0 23 = false) (h3 : ∀ k, wr L 18 k = false) : HT o' := by
  intro b h0 hb
  rw [hf.1 0 17 h1] at hb
  obtain ⟨k, hk, e⟩ := h b h0 hb
  exact ⟨k, by rw [hf.1 0 23 h2]; exact hk, by rw [hf.1 18 k (h3 k)]; exact e⟩
def SS (o : OO) : Int := sumN (o.1 52) 64
theorem SS_upd {o : OO} {i : Nat} {x : Int} (h : i < 64) : SS (st1 o 52 i x) = SS o - o.1 52 i + x := sumN_upd h
theorem SS_nn {o : OO} (h : BoxM o) : 0 ≤ SS o := sumN_nn (fun j _ => (bM_52 h j).1)
def SL (o : OO) : Int := sumN (o.1 38) 320
theorem SL_upd {o : OO} {i : Nat} {x : Int} (h : i < 320) : SL (st1 o 38 i x) = SL o - o.1 38 i + x := sumN_upd h
theorem SL_nn {o : OO} (h : BoxM o) : 0 ≤ SL o := sumN_nn (fun j _ => (bM_38 h j).1)
/-- n places of row r are weights -/
def W4 (o : OO) (r n : Int) : Prop := ∀ k : Int, 0 ≤ k → k < n → 0 ≤ o.1 3 (40 * r + k).toNat ∧ o.1 3 (40 * r + k).toNat ≤ 100
theorem W4_0 {o : OO} {r : Int} : W4 o r 0 := fun k h0 h1 => absurd h1 (by omega)
theorem W4_s {o : OO} {r n : Int} (h : W4 o r n) (hn : 0 ≤ o.1 3 (40 * r + n).toNat ∧ o.1 3 (40 * r + n).toNat ≤ 100) : W4 o r (n + 1) := by
  intro k h0 h1
  rcases Classical.em (k = n) with e | e
  · subst e; exact hn
  · exact h k h0 (by omega)
/-- each BUILDING of the class has a telling -/
def HTC (o : OO) : Prop := ∀ b : Int, 0 ≤ b → b < o.1 10 12 → ∃ k : Nat, (k : Int) < o.1 10 13 ∧ o.1 19 k = b
theorem HTC.fr {L : List (Nat × Nat)} {o o' : OO} (h : HTC o) (hf : Fr L o o') (h1 : wr L 10 12 = false) (h2 : wr L 10 13 = false) (h3 : ∀ k, wr L 19 k = false) : HTC o' := by
  intro b h0 hb
  rw [hf.1 10 12 h1] at hb
  obtain ⟨k, hk, e⟩ := h b h0 hb
  exact ⟨k, by rw [hf.1 10 13 h2]; exact hk, by rw [hf.1 19 k (h3 k)]; exact e⟩
/-- none of the first n tellings is of b -/
def NF (o : OO) (b n : Int) : Prop := ∀ k : Nat, (k : Int) < n → ¬ o.1 19 k = b
theorem NF_0 {o : OO} {b : Int} : NF o b 0 := fun k h => absurd h (by omega)
theorem NF_s {o : OO} {b n : Int} (h : NF o b n) (h0 : 0 ≤ n) (hn : ¬ o.1 19 n.toNat = b) : NF o b (n + 1) := by
  intro k hk
  rcases Classical.em ((k : Int) = n) with e | e
  · have : n.toNat = k := by omega
    rw [this] at hn; exact hn
  · exact h k (by omega)
