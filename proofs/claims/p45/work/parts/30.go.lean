-- the second way to walk: a method is told by a pure function of whole numbers (ints) and Int64 (longs) over the places of its cells; 'Go' is W over a world, a list of locals, a stack
abbrev OO : Type := (Nat → Nat → Int) × (Nat → Nat → Int64)
abbrev iv (x : Int) : Value := .int (Int32.ofInt x)
abbrev inR (x : Int) : Prop := -2147483648 ≤ x ∧ x ≤ 2147483647
section COMB
variable {α β γ : Type}
def qIn (x : Int) (n : Nat) (e : Option α) : Option α := if 0 ≤ x ∧ x < (n : Int) then e else none
def qR (x : Int) (e : Option α) : Option α := if inR x then e else none
def qEq (a b : Int) (t f : Option α) : Option α := if inR a ∧ inR b then (if a = b then t else f) else none
def qLt (a b : Int) (t f : Option α) : Option α := if inR a ∧ inR b then (if a < b then t else f) else none
def qZ (x : Int) (e : Option α) : Option α := if x = 0 ∨ x = 1 then e else none
def qDv (a b : Int) (e : Option α) : Option α := if inR a ∧ inR b ∧ 0 < b then e else none
def qJe (a b : Int64) (t f : Option α) : Option α := if a = b then t else f
def qJl (a b : Int64) (t f : Option α) : Option α := if a < b then t else f
def qNm (x : β) (k : β → Option α) : Option α := k x
def qB (e : Option β) (k : β → Option α) : Option α := e.bind k
def qB2 (e : Option (β × γ)) (k : β → γ → Option α) : Option α := e.bind (fun v => k v.1 v.2)
def qC (sp dp k : Int) (N : Nat) (e : Option α) : Option α := if 0 ≤ sp ∧ 0 ≤ dp ∧ 0 ≤ k ∧ sp + k ≤ (N : Int) ∧ dp + k ≤ (N : Int) then e else none
def jq (a b : Int) : Int := if 0 ≤ a then a / b else -((-a) / b)
theorem qIn_of {x : Int} {n : Nat} {e : Option α} {v : α} (h : qIn x n e = some v) : (0 ≤ x ∧ x < (n : Int)) ∧ e = some v := by
  unfold qIn at h; split at h
  · exact ⟨‹_›, h⟩
  · cases h
theorem qC_of {sp dp k : Int} {N : Nat} {e : Option α} {v : α} (h : qC sp dp k N e = some v) : (0 ≤ sp ∧ 0 ≤ dp ∧ 0 ≤ k ∧ sp + k ≤ (N : Int) ∧ dp + k ≤ (N : Int)) ∧ e = some v := by
  unfold qC at h; split at h
  · exact ⟨‹_›, h⟩
  · cases h
theorem qNm_of {x : β} {k : β → Option α} {v : α} (h : qNm x k = some v) : ∃ y, y = x ∧ k y = some v := ⟨x, rfl, h⟩
theorem qR_of {x : Int} {e : Option α} {v : α} (h : qR x e = some v) : inR x ∧ e = some v := by
  unfold qR at h; split at h
  · exact ⟨‹_›, h⟩
  · cases h
theorem qZ_of {x : Int} {e : Option α} {v : α} (h : qZ x e = some v) : (x = 0 ∨ x = 1) ∧ e = some v := by
  unfold qZ at h; split at h
  · exact ⟨‹_›, h⟩
  · cases h
theorem qDv_of {a b : Int} {e : Option α} {v : α} (h : qDv a b e = some v) : (inR a ∧ inR b ∧ 0 < b) ∧ e = some v := by
  unfold qDv at h; split at h
  · exact ⟨‹_›, h⟩
  · cases h
theorem qEq_of {a b : Int} {t f : Option α} {v : α} (h : qEq a b t f = some v) : inR a ∧ inR b ∧ ((a = b ∧ t = some v) ∨ (¬ a = b ∧ f = some v)) := by
  unfold qEq at h; split at h
  · refine ⟨(‹_ ∧ _›).1, (‹_ ∧ _›).2, ?_⟩
    split at h
    · exact Or.inl ⟨‹_›, h⟩
    · exact Or.inr ⟨‹_›, h⟩
  · cases h
theorem qLt_of {a b : Int} {t f : Option α} {v : α} (h : qLt a b t f = some v) : inR a ∧ inR b ∧ ((a < b ∧ t = some v) ∨ (¬ a < b ∧ f = some v)) := by
  unfold qLt at h; split at h
  · refine ⟨(‹_ ∧ _›).1, (‹_ ∧ _›).2, ?_⟩
    split at h
    · exact Or.inl ⟨‹_›, h⟩
    · exact Or.inr ⟨‹_›, h⟩
  · cases h
theorem qJe_of {a b : Int64} {t f : Option α} {v : α} (h : qJe a b t f = some v) : (a = b ∧ t = some v) ∨ (¬ a = b ∧ f = some v) := by
  unfold qJe at h; split at h
  · exact Or.inl ⟨‹_›, h⟩
  · exact Or.inr ⟨‹_›, h⟩
theorem qJl_of {a b : Int64} {t f : Option α} {v : α} (h : qJl a b t f = some v) : (a < b ∧ t = some v) ∨ (¬ a < b ∧ f = some v) := by
  unfold qJl at h; split at h
  · exact Or.inl ⟨‹_›, h⟩
  · exact Or.inr ⟨‹_›, h⟩
theorem qB_of {e : Option β} {k : β → Option α} {v : α} (h : qB e k = some v) : ∃ r, e = some r ∧ k r = some v := by
  unfold qB at h
  cases e with
  | none => cases h
  | some r => exact ⟨r, rfl, h⟩
theorem qB2_of {e : Option (β × γ)} {k : β → γ → Option α} {v : α} (h : qB2 e k = some v) : ∃ r o, e = some (r, o) ∧ k r o = some v := by
  unfold qB2 at h
  cases e with
  | none => cases h
  | some r => exact ⟨r.1, r.2, rfl, h⟩
end COMB
section LOOP
variable {S T : Type}
/-- n turns at most -/
def turns (step : S → Option (S ⊕ T)) : Nat → S → Option T
  | 0, _ => none
  | n + 1, s => (step s).bind (Sum.elim (turns step n) some)
theorem turns_more {step : S → Option (S ⊕ T)} {x : T} : ∀ (n : Nat) (s : S), turns step n s = some x → turns step (n + 1) s = some x := by
  intro n
  induction n with
  | zero => intro s h; cases h
  | succ n ih =>
    intro s h
    unfold turns at h ⊢
    cases hs : step s with
    | none => rw [hs] at h; cases h
    | some v =>
      rw [hs] at h
      cases v with
      | inl s' => exact ih s' h
      | inr y => exact h
theorem turns_le {step : S → Option (S ⊕ T)} {x : T} {s : S} {n m : Nat} (h : turns step n s = some x) (hm : n ≤ m) : turns step m s = some x := by
  induction m with
  | zero =>
    obtain rfl : n = 0 := by omega
    exact h
  | succ m ih =>
    rcases Nat.lt_or_ge n (m + 1) with q | q
    · exact turns_more m s (ih (by omega))
    · obtain rfl : n = m + 1 := by omega
      exact h
theorem turns_all (step : S → Option (S ⊕ T)) (s : S) : ∃ o : Option T, ∀ x, o = some x ↔ ∃ n, turns step n s = some x := by
  by_cases h : ∃ x, ∃ n, turns step n s = some x
  · obtain ⟨x, n, hx⟩ := h
    refine ⟨some x, fun y => ⟨fun e => ⟨n, by rw [hx, e]⟩, fun ⟨m, hm⟩ => ?_⟩⟩
    have h1 := turns_le hx (Nat.le_max_left n m)
    have h2 := turns_le hm (Nat.le_max_right n m)
    rw [h1] at h2
    exact h2
  · exact ⟨none, fun y => ⟨fun e => (by cases e), fun ⟨m, hm⟩ => absurd ⟨y, m, hm⟩ h⟩⟩
noncomputable def loopW (step : S → Option (S ⊕ T)) (s : S) : Option T := Classical.choose (turns_all step s)
theorem loopW_iff {step : S → Option (S ⊕ T)} {s : S} {x : T} : loopW step s = some x ↔ ∃ n, turns step n s = some x := Classical.choose_spec (turns_all step s) x
/-- what a loop of the machine needs: from its head, a turn goes back to the head, or out -/
theorem loop_rule {step : S → Option (S ⊕ T)} {s0 : S} {x : T} {Head : S → Prop} (h : loopW step s0 = some x) (body : ∀ s v, step s = some v → (∀ s', v = .inl s' → Head s') → (∀ y, v = .inr y → y = x) → Head s) : Head s0 := by
  obtain ⟨n, hn⟩ := loopW_iff.mp h
  revert s0
  induction n with
  | zero => intro s0 _ hn; cases hn
  | succ n ih =>
    intro s0 _ hn
    unfold turns at hn
    cases hs : step s0 with
    | none => rw [hs] at hn; cases hn
    | some v =>
      rw [hs] at hn
      refine body s0 v hs (fun s' e => ?_) (fun y e => ?_)
      · subst e
        have hn : turns step n s' = some x := hn
        exact ih (loopW_iff.mpr ⟨n, hn⟩) hn
      · subst e
        exact Option.some.inj hn
end LOOP
section ARITH
theorem pick_t {α : Type} {P : Prop} {t f : Option α} {v : α} (h : (P ∧ t = some v) ∨ (¬ P ∧ f = some v)) (hp : P) : t = some v := h.elim (fun q => q.2) (fun q => absurd hp q.1)
theorem pick_f {α : Type} {P : Prop} {t f : Option α} {v : α} (h : (P ∧ t = some v) ∨ (¬ P ∧ f = some v)) (hp : ¬ P) : f = some v := h.elim (fun q => absurd q.1 hp) (fun q => q.2)
theorem oi_add (a b : Int) : Int32.ofInt a + Int32.ofInt b = Int32.ofInt (a + b) := by simp
theorem oi_sub (a b : Int) : Int32.ofInt a - Int32.ofInt b = Int32.ofInt (a - b) := by simp
theorem oi_mul (a b : Int) : Int32.ofInt a * Int32.ofInt b = Int32.ofInt (a * b) := by simp
theorem oi_neg (a : Int) : -Int32.ofInt a = Int32.ofInt (-a) := by simp
theorem oi_to {a : Int} (h : inR a) : (Int32.ofInt a).toInt = a := by
  obtain ⟨h1, h2⟩ := h
  rw [Int32.toInt_ofInt]
  show a.bmod 4294967296 = a
  exact Int.bmod_eq_of_le (by omega) (by omega)
theorem oi_eq {a b : Int} (ha : inR a) (hb : inR b) : Int32.ofInt a = Int32.ofInt b ↔ a = b := by
  rw [i32eq, oi_to ha, oi_to hb]
theorem oi_lt {a b : Int} (ha : inR a) (hb : inR b) : Int32.ofInt a < Int32.ofInt b ↔ a < b := by
  rw [i32lt, oi_to ha, oi_to hb]
theorem oi_le {a b : Int} (ha : inR a) (hb : inR b) : Int32.ofInt a ≤ Int32.ofInt b ↔ a ≤ b := by
  rw [i32le, oi_to ha, oi_to hb]
theorem oi_in {x : Int} {n : Nat} (h : 0 ≤ x ∧ x < (n : Int)) (hn : n < 2 ^ 31) : vp_in (Int32.ofInt x) n ∧ (Int32.ofInt x).toNatClampNeg = x.toNat := by
  have h1 : (Int32.ofInt x).toInt = x := oi_to ⟨by omega, by omega⟩
  refine ⟨vp_in_iff.mpr (by rw [h1]; exact h), ?_⟩
  show (Int32.ofInt x).toInt.toNat = x.toNat
  rw [h1]
theorem oi_div {a b : Int} (h : inR a ∧ inR b ∧ 0 < b) : Int32.ofInt a / Int32.ofInt b = Int32.ofInt (jq a b) := by
  obtain ⟨ha, hb, h0⟩ := h
  rw [i32eq, Int32.toInt_div, oi_to ha, oi_to hb]
  unfold jq
  split
  · rw [Int.tdiv_eq_ediv_of_nonneg (by assumption)]
    have h1 : a / b ≤ a := Int.ediv_le_self b (by assumption)
    have h2 : 0 ≤ a / b := Int.ediv_nonneg (by assumption) (by omega)
    rw [Int.bmod_eq_of_le (by omega) (by omega), oi_to ⟨by omega, by omega⟩]
  · have e : a.tdiv b = -((-a) / b) := by
      have := Int.neg_tdiv (-a) b
      rw [Int.neg_neg] at this
      rw [this, Int.tdiv_eq_ediv_of_nonneg (by omega)]
    rw [e]
    have h1 : (-a) / b ≤ -a := Int.ediv_le_self b (by omega)
    have h2 : 0 ≤ (-a) / b := Int.ediv_nonneg (by omega) (by omega)
    rw [Int.bmod_eq_of_le (by omega) (by omega), oi_to ⟨by omega, by omega⟩]
theorem updI (f : Nat → Int) (i : Nat) (x : Int) : upd (fun j => Int32.ofInt (f j)) i (Int32.ofInt x) = fun j => Int32.ofInt (if j = i then x else f j) := by
  funext j
  unfold upd
  split <;> rfl
theorem nar0 : vp_nar .boolean (Int32.ofInt 0) = Int32.ofInt 0 := by decide
theorem nar1 : vp_nar .boolean (Int32.ofInt 1) = Int32.ofInt 1 := by decide
theorem narZ {x : Int} (h : x = 0 ∨ x = 1) : vp_nar .boolean (Int32.ofInt x) = Int32.ofInt x := by
  rcases h with rfl | rfl
  · exact nar0
  · exact nar1
def st1 (o : OO) (c : Nat) (i : Nat) (x : Int) : OO := (fun k => bif Nat.beq k c then (fun j => if j = i then x else o.1 k j) else o.1 k, o.2)
def st2 (o : OO) (c : Nat) (i : Nat) (x : Int64) : OO := (o.1, fun k => bif Nat.beq k c then vp_updL (o.2 k) i x else o.2 k)
def cpy1 (o : OO) (c : Nat) (sp dp k : Int) : OO := (fun q => bif Nat.beq q c then va_cpy (o.1 c) (o.1 c) sp.toNat dp.toNat k.toNat else o.1 q, o.2)
def jl (x : Int) : Int64 := (Int32.ofInt x).toInt64
def ji (x : Int64) : Int := x.toInt32.toInt
def jand (a b : Int) : Int := (Int32.ofInt a &&& Int32.ofInt b).toInt
theorem oi_max {a b : Int} (ha : inR a) (hb : inR b) : (if Int32.ofInt a < Int32.ofInt b then Int32.ofInt b else Int32.ofInt a) = Int32.ofInt (max a b) := by
  by_cases h : a < b
  · rw [if_pos ((oi_lt ha hb).mpr h), Int.max_eq_right (by omega)]
  · rw [if_neg (fun q => h ((oi_lt ha hb).mp q)), Int.max_eq_left (by omega)]
theorem oi_min {a b : Int} (ha : inR a) (hb : inR b) : (if Int32.ofInt b < Int32.ofInt a then Int32.ofInt b else Int32.ofInt a) = Int32.ofInt (min a b) := by
  by_cases h : b < a
  · rw [if_pos ((oi_lt hb ha).mpr h), Int.min_eq_right (by omega)]
  · rw [if_neg (fun q => h ((oi_lt hb ha).mp q)), Int.min_eq_left (by omega)]
theorem oi_abs {a : Int} (ha : inR a) : (if 0 ≤ Int32.ofInt a then Int32.ofInt a else 0 - Int32.ofInt a) = Int32.ofInt (max a (-a)) := by
  have hz : inR 0 := ⟨by decide, by decide⟩
  have e0 : (0 : Int32) = Int32.ofInt 0 := rfl
  rw [e0]
  by_cases h : 0 ≤ a
  · rw [if_pos (show Int32.ofInt 0 ≤ Int32.ofInt a from (oi_le hz ha).mpr h), Int.max_eq_left (by omega)]
  · rw [if_neg (fun q => h ((oi_le hz ha).mp q)), Int.max_eq_right (by omega)]
    rw [oi_sub, Int.zero_sub]
def jb (x : Int) : Int := (Int32.ofInt x).toInt8.toInt32.toInt
theorem oi_ot (x : Int32) : Int32.ofInt x.toInt = x := by simp
end ARITH
abbrev CC : Type := Program × Launch × Env × Room × State × MethodId × Array Value × List Frame × Method × Code × (State → Prop) × Nat × GG × (Nat → Prop)
def Go (X : CC) (pc : Nat) (ws : va_W) (lv : List (Nat × Value)) (st : List Value) : Prop :=
  match X with
  | (p, l, e, R, s, m, args, below, meth, c, Q, n, g, A) => ∀ (H : Heap) (locs : List Loc) (ls : Array Slot), va_P g.1 classes ws H → va_D A ws → va_S A s.heap H locs → lv_has ls n lv → W p l e R s m args below meth c H locs 0 0 Q (F0 m pc ls st)
def EnX (X : CC) (l : Launch) (g : GG) (cc : ByteArray) (n : Nat) (ret : Option FieldType) (own : String) (fr lo : Nat) : Prop :=
  match X with
  | (p, l', e, R, s, m, args, below, meth, c, Q, n', g', A) => l' = l ∧ g' = g ∧ n' = n ∧ R = { frames := fr, cells := 0, slots := 0, locals := lo } ∧ (∃ nm, En p s m args meth c cc n ret own nm) ∧ va_K g.1 classes (tyG g) s ∧ (∀ q, s.heap.size ≤ q → A q) ∧ stS g A s s.heap
def QI (X : CC) (r : Int) (w : va_W) : Prop :=
  match X with
  | (p, l, e, R, s, m, args, below, meth, c, Q, n, g, A) => Q = MQ below (va_Qi (fun rr ww => rr = Int32.ofInt r ∧ ww = w) (bW g A) A) args s 0 0 A
def QL (X : CC) (r : Int64) (w : va_W) : Prop :=
  match X with
  | (p, l, e, R, s, m, args, below, meth, c, Q, n, g, A) => Q = MQ below (va_Ql (fun rr ww => rr = r ∧ ww = w) (bW g A) A) args s 0 0 A
def QV (X : CC) (w : va_W) : Prop :=
  match X with
  | (p, l, e, R, s, m, args, below, meth, c, Q, n, g, A) => Q = MQ below (va_Qv (fun ww => ww = w) (bW g A) A) args s 0 0 A
def CI (l : Launch) (g : GG) (y : MethodName) (cc : ByteArray) (n : Nat) (ret : Option FieldType) (fr lo : Nat) (ws : va_W) (av : List Value) (r : Int) (w : va_W) : Prop := MI l g y cc n ret fr lo 0 0 ws av (fun rr ww => rr = Int32.ofInt r ∧ ww = w)
def CL (l : Launch) (g : GG) (y : MethodName) (cc : ByteArray) (n : Nat) (ret : Option FieldType) (fr lo : Nat) (ws : va_W) (av : List Value) (r : Int64) (w : va_W) : Prop := ML l g y cc n ret fr lo 0 0 ws av (fun rr ww => rr = r ∧ ww = w)
def CV (l : Launch) (g : GG) (y : MethodName) (cc : ByteArray) (n : Nat) (fr lo : Nat) (ws : va_W) (av : List Value) (w : va_W) : Prop := MV l g y cc n fr lo 0 0 ws av (fun ww => ww = w)
section MET
variable {l : Launch} {g : GG} {y : MethodName} {cc : ByteArray} {n fr lo : Nat} {ws w : va_W} {av : List Value} {ret : Option FieldType}
theorem met_I {r : Int} (hy : plainName y.cls = true) (hav : (lg_sl av).length ≤ n) (body : ∀ X : CC, EnX X l g cc n ret y.cls fr lo → QI X r w → Go X 0 ws (lv_args 0 av) []) : CI l g y cc n ret fr lo ws av r w := by
  intro sz
  refine met_of (fun A => va_Qi _ (bW g A) A) hy hav ?_ sz
  intro p e s m below meth c A ls X hK hP hD hA hZ hS hl
  exact body (p, l, e, { frames := fr, cells := 0, slots := 0, locals := lo }, s, m, av.toArray, below, meth, c, _, n, g, A) ⟨rfl, rfl, rfl, rfl, ⟨_, X⟩, hK, hA, hZ⟩ rfl s.heap [] ls hP hD hS hl
theorem met_L {r : Int64} (hy : plainName y.cls = true) (hav : (lg_sl av).length ≤ n) (body : ∀ X : CC, EnX X l g cc n ret y.cls fr lo → QL X r w → Go X 0 ws (lv_args 0 av) []) : CL l g y cc n ret fr lo ws av r w := by
  intro sz
  refine met_of (fun A => va_Ql _ (bW g A) A) hy hav ?_ sz
  intro p e s m below meth c A ls X hK hP hD hA hZ hS hl
  exact body (p, l, e, { frames := fr, cells := 0, slots := 0, locals := lo }, s, m, av.toArray, below, meth, c, _, n, g, A) ⟨rfl, rfl, rfl, rfl, ⟨_, X⟩, hK, hA, hZ⟩ rfl s.heap [] ls hP hD hS hl
theorem met_V (hy : plainName y.cls = true) (hav : (lg_sl av).length ≤ n) (body : ∀ X : CC, EnX X l g cc n none y.cls fr lo → QV X w → Go X 0 ws (lv_args 0 av) []) : CV l g y cc n fr lo ws av w := by
  intro sz
  refine met_of (fun A => va_Qv _ (bW g A) A) hy hav ?_ sz
  intro p e s m below meth c A ls X hK hP hD hA hZ hS hl
  exact body (p, l, e, { frames := fr, cells := 0, slots := 0, locals := lo }, s, m, av.toArray, below, meth, c, _, n, g, A) ⟨rfl, rfl, rfl, rfl, ⟨_, X⟩, hK, hA, hZ⟩ rfl s.heap [] ls hP hD hS hl
end MET
