-- 'T e Q': the pure call e ends, with an answer that Q holds of
section TT
variable {α β γ S U : Type}
def T (e : Option α) (Q : α → Prop) : Prop := ∃ v, e = some v ∧ Q v
theorem T_some {v : α} {Q : α → Prop} (h : Q v) : T (some v) Q := ⟨v, rfl, h⟩
theorem T_mono {e : Option α} {P Q : α → Prop} (h : T e P) (hq : ∀ v, e = some v → P v → Q v) : T e Q := by
  obtain ⟨v, h1, h2⟩ := h
  exact ⟨v, h1, hq v h1 h2⟩
theorem T_qIn {x : Int} {n : Nat} {e : Option α} {Q : α → Prop} (hx : 0 ≤ x ∧ x < (n : Int)) (h : T e Q) : T (qIn x n e) Q := by
  unfold qIn; rw [if_pos hx]; exact h
theorem T_qR {x : Int} {e : Option α} {Q : α → Prop} (hx : inR x) (h : T e Q) : T (qR x e) Q := by
  unfold qR; rw [if_pos hx]; exact h
theorem T_qZ {x : Int} {e : Option α} {Q : α → Prop} (hx : x = 0 ∨ x = 1) (h : T e Q) : T (qZ x e) Q := by
  unfold qZ; rw [if_pos hx]; exact h
theorem T_qDv {a b : Int} {e : Option α} {Q : α → Prop} (hx : inR a ∧ inR b ∧ 0 < b) (h : T e Q) : T (qDv a b e) Q := by
  unfold qDv; rw [if_pos hx]; exact h
theorem T_qC {sp dp k : Int} {N : Nat} {e : Option α} {Q : α → Prop} (hx : 0 ≤ sp ∧ 0 ≤ dp ∧ 0 ≤ k ∧ sp + k ≤ (N : Int) ∧ dp + k ≤ (N : Int)) (h : T e Q) : T (qC sp dp k N e) Q := by
  unfold qC; rw [if_pos hx]; exact h
theorem T_qEq {a b : Int} {t f : Option α} {Q : α → Prop} (ha : inR a) (hb : inR b) (ht : a = b → T t Q) (hf : ¬ a = b → T f Q) : T (qEq a b t f) Q := by
  unfold qEq; rw [if_pos ⟨ha, hb⟩]
  split
  · exact ht ‹_›
  · exact hf ‹_›
theorem T_qLt {a b : Int} {t f : Option α} {Q : α → Prop} (ha : inR a) (hb : inR b) (ht : a < b → T t Q) (hf : ¬ a < b → T f Q) : T (qLt a b t f) Q := by
  unfold qLt; rw [if_pos ⟨ha, hb⟩]
  split
  · exact ht ‹_›
  · exact hf ‹_›
theorem T_qJe {a b : Int64} {t f : Option α} {Q : α → Prop} (ht : a = b → T t Q) (hf : ¬ a = b → T f Q) : T (qJe a b t f) Q := by
  unfold qJe
  split
  · exact ht ‹_›
  · exact hf ‹_›
theorem T_qJl {a b : Int64} {t f : Option α} {Q : α → Prop} (ht : a < b → T t Q) (hf : ¬ a < b → T f Q) : T (qJl a b t f) Q := by
  unfold qJl
  split
  · exact ht ‹_›
  · exact hf ‹_›
theorem T_qNm {x : β} {k : β → Option α} {Q : α → Prop} (h : ∀ y, y = x → T (k y) Q) : T (qNm x k) Q := h x rfl
theorem T_qB {e : Option β} {k : β → Option α} {P : β → Prop} {Q : α → Prop} (he : T e P) (h : ∀ r, e = some r → P r → T (k r) Q) : T (qB e k) Q := by
  obtain ⟨v, h1, h2⟩ := he
  obtain ⟨w, h3, h4⟩ := h v h1 h2
  exact ⟨w, by unfold qB; rw [h1]; exact h3, h4⟩
theorem T_qB2 {e : Option (β × γ)} {k : β → γ → Option α} {P : β × γ → Prop} {Q : α → Prop} (he : T e P) (h : ∀ r o, e = some (r, o) → P (r, o) → T (k r o) Q) : T (qB2 e k) Q := by
  obtain ⟨⟨v, u⟩, h1, h2⟩ := he
  obtain ⟨w, h3, h4⟩ := h v u h1 h2
  exact ⟨w, by unfold qB2; rw [h1]; exact h3, h4⟩
theorem T_loop {step : S → Option (S ⊕ U)} {s0 : S} (I : S → Prop) (mu : S → Nat) {E : U → Prop} (h0 : I s0) (hs : ∀ s, I s → T (step s) (Sum.elim (fun s' => I s' ∧ mu s' < mu s) E)) : T (loopW step s0) E := by
  have key : ∀ n s, mu s < n → I s → ∃ x, turns step n s = some x ∧ E x := by
    intro n
    induction n with
    | zero => intro s h; omega
    | succ n ih =>
      intro s hm hI
      obtain ⟨v, h1, h2⟩ := hs s hI
      cases v with
      | inl s' =>
        obtain ⟨x, h3, h4⟩ := ih s' (by have := h2.2; omega) h2.1
        exact ⟨x, by unfold turns; rw [h1]; exact h3, h4⟩
      | inr y => exact ⟨y, by unfold turns; rw [h1]; rfl, h2⟩
  obtain ⟨x, h1, h2⟩ := key (mu s0 + 1) s0 (by omega) h0
  exact ⟨x, loopW_iff.mpr ⟨_, h1⟩, h2⟩
end TT
/-- a fact that omega doesn't look at -/
def Hid (P : Prop) : Prop := P
theorem hid {P : Prop} (h : P) : Hid P := h
/-- what stays: all places but those listed (a cell and a place; 9999: the whole cell) -/
def wr (L : List (Nat × Nat)) (k j : Nat) : Bool := L.any (fun q => Nat.beq q.1 k && (Nat.beq q.2 9999 || Nat.beq q.2 j))
def Fr (L : List (Nat × Nat)) (o o' : OO) : Prop := (∀ k j, wr L k j = false → o'.1 k j = o.1 k j) ∧ ∀ k j, wr L k j = false → o'.2 k j = o.2 k j
theorem Fr.rf {L : List (Nat × Nat)} {o : OO} : Fr L o o := ⟨fun _ _ _ => rfl, fun _ _ _ => rfl⟩
def lsub (L M : List (Nat × Nat)) : Bool := L.all (fun q => M.any (fun r => Nat.beq r.1 q.1 && (Nat.beq r.2 9999 || Nat.beq r.2 q.2)))
theorem wr_sub {L M : List (Nat × Nat)} (h : lsub L M = true) {k j : Nat} (hM : wr M k j = false) : wr L k j = false := by
  cases hL : wr L k j with
  | false => rfl
  | true =>
    exfalso
    obtain ⟨q, hq, h1⟩ := List.any_eq_true.mp hL
    obtain ⟨r, hr, h2⟩ := List.any_eq_true.mp (List.all_eq_true.mp h q hq)
    have : wr M k j = true := List.any_eq_true.mpr ⟨r, hr, by
      simp only [Bool.and_eq_true, Bool.or_eq_true, Nat.beq_eq] at h1 h2 ⊢
      refine ⟨by omega, ?_⟩
      rcases h2.2 with e | e
      · exact Or.inl e
      · rcases h1.2 with e2 | e2
        · exact Or.inl (by omega)
        · exact Or.inr (by omega)⟩
    rw [this] at hM
    cases hM
theorem Fr.tr {L M : List (Nat × Nat)} {o o1 o2 : OO} (h1 : Fr M o o1) (h2 : Fr L o1 o2) (hs : lsub L M = true) : Fr M o o2 :=
  ⟨fun k j h => (h2.1 k j (wr_sub hs h)).trans (h1.1 k j h), fun k j h => (h2.2 k j (wr_sub hs h)).trans (h1.2 k j h)⟩
theorem Fr.s1 {M : List (Nat × Nat)} {o o1 : OO} {c i : Nat} {x : Int} (h1 : Fr M o o1) (hs : wr M c i = true) : Fr M o (st1 o1 c i x) := by
  refine ⟨fun k j h => ?_, fun k j h => h1.2 k j h⟩
  show (bif Nat.beq k c then (fun j => if j = i then x else o1.1 k j) else o1.1 k) j = _
  cases hb : Nat.beq k c with
  | false => exact h1.1 k j h
  | true =>
    have e : k = c := Nat.eq_of_beq_eq_true hb
    subst e
    show (if j = i then x else o1.1 k j) = _
    by_cases hj : j = i
    · subst hj; rw [hs] at h; cases h
    · rw [if_neg hj]; exact h1.1 k j h
theorem Fr.s2 {M : List (Nat × Nat)} {o o1 : OO} {c i : Nat} {x : Int64} (h1 : Fr M o o1) (hs : wr M c i = true) : Fr M o (st2 o1 c i x) := by
  refine ⟨fun k j h => h1.1 k j h, fun k j h => ?_⟩
  show (bif Nat.beq k c then vp_updL (o1.2 k) i x else o1.2 k) j = _
  cases hb : Nat.beq k c with
  | false => exact h1.2 k j h
  | true =>
    have e : k = c := Nat.eq_of_beq_eq_true hb
    subst e
    show (if j = i then x else o1.2 k j) = _
    by_cases hj : j = i
    · subst hj; rw [hs] at h; cases h
    · rw [if_neg hj]; exact h1.2 k j h
theorem wr_all {M : List (Nat × Nat)} {c : Nat} (h : M.any (fun q => Nat.beq q.1 c && Nat.beq q.2 9999) = true) (i : Nat) : wr M c i = true := by
  obtain ⟨q, hq, h1⟩ := List.any_eq_true.mp h
  refine List.any_eq_true.mpr ⟨q, hq, ?_⟩
  simp only [Bool.and_eq_true, Bool.or_eq_true] at h1 ⊢
  exact ⟨h1.1, Or.inl h1.2⟩
theorem Fr.c1 {M : List (Nat × Nat)} {o o1 : OO} {c : Nat} {a b d : Int} (h1 : Fr M o o1) (hs : M.any (fun q => Nat.beq q.1 c && Nat.beq q.2 9999) = true) : Fr M o (cpy1 o1 c a b d) := by
  refine ⟨fun k j h => ?_, fun k j h => h1.2 k j h⟩
  show (bif Nat.beq k c then va_cpy (o1.1 c) (o1.1 c) a.toNat b.toNat d.toNat else o1.1 k) j = _
  cases hb : Nat.beq k c with
  | false => exact h1.1 k j h
  | true =>
    have e : k = c := Nat.eq_of_beq_eq_true hb
    subst e
    rw [wr_all hs] at h; cases h
theorem jq_nn {a b : Int} (h : 0 ≤ a) : jq a b = a / b := by unfold jq; rw [if_pos h]
theorem jq_rng {a b : Int} (h : 0 ≤ a) (hb : 0 < b) : 0 ≤ jq a b ∧ jq a b ≤ a := by
  rw [jq_nn h]
  exact ⟨Int.ediv_nonneg h (by omega), Int.ediv_le_self b h⟩
theorem jq_abs {a b : Int} (hb : 0 < b) : -(max a (-a)) ≤ jq a b ∧ jq a b ≤ max a (-a) := by
  by_cases h : 0 ≤ a
  · have := jq_rng h hb
    omega
  · have e : jq a b = -((-a) / b) := by unfold jq; rw [if_neg h]
    have h1 : 0 ≤ (-a) / b := Int.ediv_nonneg (by omega) (by omega)
    have h2 : (-a) / b ≤ -a := Int.ediv_le_self b (by omega)
    omega
theorem jq_or {a b : Int} : (0 ≤ a ∧ jq a b = a / b) ∨ (a < 0 ∧ jq a b = -((-a) / b)) := by
  by_cases h : 0 ≤ a
  · exact Or.inl ⟨h, jq_nn h⟩
  · exact Or.inr ⟨by omega, by unfold jq; rw [if_neg h]⟩
theorem jand_rng (a b : Int) : inR (jand a b) := by
  unfold jand
  have h1 := Int32.toInt_lt (Int32.ofInt a &&& Int32.ofInt b)
  have h2 := Int32.le_toInt (Int32.ofInt a &&& Int32.ofInt b)
  exact ⟨by omega, by omega⟩
theorem ji_rng (a : Int64) : inR (ji a) := by
  unfold ji
  have h1 := Int32.toInt_lt a.toInt32
  have h2 := Int32.le_toInt a.toInt32
  exact ⟨by omega, by omega⟩
theorem mul_rng {a b A B : Int} (h0 : 0 ≤ a) (h1 : a ≤ A) (h2 : 0 ≤ b) (h3 : b ≤ B) : 0 ≤ a * b ∧ a * b ≤ A * B :=
  ⟨Int.mul_nonneg h0 h2, Int.mul_le_mul h1 h3 h2 (by omega)⟩
def Box (P : Nat → Nat → Int → Prop) (o : OO) : Prop := ∀ k j, P k j (o.1 k j)
theorem Box.s1 {P : Nat → Nat → Int → Prop} {o : OO} (h : Box P o) {c i : Nat} {x : Int} (hx : P c i x) : Box P (st1 o c i x) := by
  intro k j
  show P k j ((bif Nat.beq k c then (fun j => if j = i then x else o.1 k j) else o.1 k) j)
  cases hb : Nat.beq k c with
  | false => exact h k j
  | true =>
    have e : k = c := Nat.eq_of_beq_eq_true hb
    subst e
    show P k j (if j = i then x else o.1 k j)
    by_cases hj : j = i
    · subst hj; rw [if_pos rfl]; exact hx
    · rw [if_neg hj]; exact h k j
theorem Box.s2 {P : Nat → Nat → Int → Prop} {o : OO} (h : Box P o) {c i : Nat} {x : Int64} : Box P (st2 o c i x) := h
theorem Box.c1 {P : Nat → Nat → Int → Prop} {o : OO} (h : Box P o) {c : Nat} {a b d : Int} (hc : ∀ j j' x, P c j x → P c j' x) : Box P (cpy1 o c a b d) := by
  intro k j
  show P k j ((bif Nat.beq k c then va_cpy (o.1 c) (o.1 c) a.toNat b.toNat d.toNat else o.1 k) j)
  cases hb : Nat.beq k c with
  | false => exact h k j
  | true =>
    have e : k = c := Nat.eq_of_beq_eq_true hb
    subst e
    show P k j (va_cpy (o.1 k) (o.1 k) a.toNat b.toNat d.toNat j)
    unfold va_cpy
    split
    · exact hc _ _ _ (h k _)
    · exact h k j
theorem jb_rng (x : Int) : -128 ≤ jb x ∧ jb x ≤ 127 := by
  unfold jb
  rw [Int8.toInt_toInt32]
  have h1 := Int8.toInt_lt (Int32.ofInt x).toInt8
  have h2 := Int8.le_toInt (Int32.ofInt x).toInt8
  exact ⟨by omega, by omega⟩
theorem jl_to {a : Int} (h : inR a) : (jl a).toInt = a := by
  unfold jl
  rw [Int32.toInt_toInt64, oi_to h]
theorem jl_sum {a b c : Int} (hc : inR c) (ha : inR a) (hb : inR b) (h : ¬ jl c < jl a + jl b) : a + b ≤ c := by
  rw [Int64.lt_iff_toInt_lt, Int64.toInt_add, jl_to hc, jl_to ha, jl_to hb] at h
  obtain ⟨a1, a2⟩ := ha
  obtain ⟨b1, b2⟩ := hb
  have e : (a + b).bmod (2 ^ 64) = a + b := by
    apply Int.bmod_eq_of_le
    · show -(18446744073709551616 / 2) ≤ a + b
      omega
    · show a + b < (18446744073709551616 + 1) / 2
      omega
  rw [e] at h
  omega
