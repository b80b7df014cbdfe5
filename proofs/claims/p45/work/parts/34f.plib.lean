-- 'Pa e Q': if the pure call e answers, then so that Q holds of it (nothing is said of its end)
section PA
variable {α β γ S U : Type}
def Pa (e : Option α) (Q : α → Prop) : Prop := ∀ v, e = some v → Q v
theorem Pa_some {v : α} {Q : α → Prop} (h : Q v) : Pa (some v) Q := fun w e => by cases e; exact h
theorem Pa_none {Q : α → Prop} : Pa (none : Option α) Q := fun w e => by cases e
theorem Pa_mono {e : Option α} {P Q : α → Prop} (h : Pa e P) (hq : ∀ v, P v → Q v) : Pa e Q := fun v hv => hq v (h v hv)
theorem Pa_qIn {x : Int} {n : Nat} {e : Option α} {Q : α → Prop} (h : 0 ≤ x ∧ x < (n : Int) → Pa e Q) : Pa (qIn x n e) Q :=
  fun v hv => h (qIn_of hv).1 v (qIn_of hv).2
theorem Pa_qR {x : Int} {e : Option α} {Q : α → Prop} (h : inR x → Pa e Q) : Pa (qR x e) Q :=
  fun v hv => h (qR_of hv).1 v (qR_of hv).2
theorem Pa_qZ {x : Int} {e : Option α} {Q : α → Prop} (h : x = 0 ∨ x = 1 → Pa e Q) : Pa (qZ x e) Q :=
  fun v hv => h (qZ_of hv).1 v (qZ_of hv).2
theorem Pa_qDv {a b : Int} {e : Option α} {Q : α → Prop} (h : inR a ∧ inR b ∧ 0 < b → Pa e Q) : Pa (qDv a b e) Q :=
  fun v hv => h (qDv_of hv).1 v (qDv_of hv).2
theorem Pa_qC {sp dp k : Int} {N : Nat} {e : Option α} {Q : α → Prop} (h : 0 ≤ sp ∧ 0 ≤ dp ∧ 0 ≤ k ∧ sp + k ≤ (N : Int) ∧ dp + k ≤ (N : Int) → Pa e Q) : Pa (qC sp dp k N e) Q :=
  fun v hv => h (qC_of hv).1 v (qC_of hv).2
theorem Pa_qEq {a b : Int} {t f : Option α} {Q : α → Prop} (ht : a = b → Pa t Q) (hf : ¬ a = b → Pa f Q) : Pa (qEq a b t f) Q :=
  fun v hv => (qEq_of hv).2.2.elim (fun q => ht q.1 v q.2) (fun q => hf q.1 v q.2)
theorem Pa_qLt {a b : Int} {t f : Option α} {Q : α → Prop} (ht : inR a → inR b → a < b → Pa t Q) (hf : inR a → inR b → ¬ a < b → Pa f Q) : Pa (qLt a b t f) Q :=
  fun v hv => (qLt_of hv).2.2.elim (fun q => ht (qLt_of hv).1 (qLt_of hv).2.1 q.1 v q.2) (fun q => hf (qLt_of hv).1 (qLt_of hv).2.1 q.1 v q.2)
theorem Pa_qJl {a b : Int64} {t f : Option α} {Q : α → Prop} (ht : a < b → Pa t Q) (hf : ¬ a < b → Pa f Q) : Pa (qJl a b t f) Q :=
  fun v hv => (qJl_of hv).elim (fun q => ht q.1 v q.2) (fun q => hf q.1 v q.2)
theorem Pa_qNm {x : β} {k : β → Option α} {Q : α → Prop} (h : Pa (k x) Q) : Pa (qNm x k) Q := h
theorem Pa_qB {e : Option β} {k : β → Option α} {P : β → Prop} {Q : α → Prop} (he : Pa e P) (h : ∀ r, P r → Pa (k r) Q) : Pa (qB e k) Q := by
  intro v hv
  unfold qB at hv
  cases e1 : e with
  | none => rw [e1] at hv; cases hv
  | some r => rw [e1] at hv; exact h r (he r e1) v hv
theorem Pa_qB2 {e : Option (β × γ)} {k : β → γ → Option α} {P : β × γ → Prop} {Q : α → Prop} (he : Pa e P) (h : ∀ (r : β) (o : γ), P (r, o) → Pa (k r o) Q) : Pa (qB2 e k) Q := by
  intro v hv
  unfold qB2 at hv
  cases e1 : e with
  | none => rw [e1] at hv; cases hv
  | some r =>
    obtain ⟨r, o⟩ := r
    rw [e1] at hv
    exact h r o (he (r, o) e1) v hv
theorem Pa_loop {step : S → Option (S ⊕ U)} {s0 : S} (I : S → Prop) {E : U → Prop} (h0 : I s0) (hs : ∀ s, I s → Pa (step s) (Sum.elim I E)) : Pa (loopW step s0) E := by
  intro x hx
  have key : I s0 → E x := loop_rule (Head := fun s => I s → E x) hx (fun s v hv h1 h2 hI => by
    have q := hs s hI v hv
    cases v with
    | inl s' => exact h1 s' rfl q
    | inr y =>
      have q : E y := q
      rw [h2 y rfl] at q
      exact q)
  exact key h0
end PA
theorem st1_s (o : OO) (c i : Nat) (x : Int) (j : Nat) : (st1 o c i x).1 c j = if j = i then x else o.1 c j := by
  show (bif Nat.beq c c then (fun j => if j = i then x else o.1 c j) else o.1 c) j = _
  rw [Nat.beq_refl]
  rfl
theorem st1_n {o : OO} {c i k : Nat} {x : Int} (h : ¬ k = c) (j : Nat) : (st1 o c i x).1 k j = o.1 k j := by
  show (bif Nat.beq k c then (fun j => if j = i then x else o.1 k j) else o.1 k) j = _
  cases hb : Nat.beq k c with
  | false => rfl
  | true => exact absurd (Nat.eq_of_beq_eq_true hb) h
/-- only the cell c has changed -/
def Sm (c : Nat) (o o' : OO) : Prop := ∀ k j, ¬ k = c → o'.1 k j = o.1 k j
/-- of the cell c the places from a to b hold x -/
def FL (c : Nat) (o v : OO) (a b x : Int) : Prop := (∀ j : Nat, v.1 c j = if a ≤ (j : Int) ∧ (j : Int) < b then x else o.1 c j) ∧ Sm c o v
theorem FL_0 {c : Nat} {o : OO} {a x : Int} : FL c o o a a x := ⟨fun j => by rw [if_neg (by omega)], fun _ _ _ => rfl⟩
theorem FL_s {c : Nat} {o u : OO} {a i x : Int} (h : FL c o u a i x) (h0 : 0 ≤ i) (ha : a ≤ i) : FL c o (st1 u c i.toNat x) a (i + 1) x := by
  refine ⟨fun j => ?_, fun k j hk => ?_⟩
  · rw [st1_s, h.1 j]
    by_cases q : j = i.toNat
    · rw [if_pos q, if_pos (by omega)]
    · rw [if_neg q]
      by_cases q2 : a ≤ (j : Int) ∧ (j : Int) < i
      · rw [if_pos q2, if_pos (by omega)]
      · rw [if_neg q2, if_neg (by omega)]
  · rw [st1_n hk, h.2 k j hk]
