-- WHITHER of the reference: cheapest chains
noncomputable def WF (o : OO) (p b : Int) : Int := max 0 (min 14 ((s_X12_walk o p b).getD 0))
theorem WF_rng (o : OO) (p b : Int) : 0 ≤ WF o p b ∧ WF o p b ≤ 14 := by unfold WF; omega
theorem WF_eq {o : OO} {p b r : Int} (h : s_X12_walk o p b = some r) (hr : 0 ≤ r ∧ r ≤ 14) : WF o p b = r := by
  unfold WF
  rw [h]
  show max 0 (min 14 r) = r
  omega
theorem WF.cg {o o' : OO} (h13 : o'.1 13 = o.1 13) (h22 : o'.1 22 = o.1 22) (p b : Int) : WF o' p b = WF o p b := by
  unfold WF
  simp only [s_X12_walk, b_X12_walk_28, h13, h22]
def AL (o : OO) (b : Int) : Prop := 0 ≤ b ∧ b < o.1 0 17 ∧ 0 ≤ o.1 48 b.toNat
def PN (o : OO) (p : Int) : Prop := 0 ≤ p ∧ p < o.1 0 27 ∧ ¬ o.1 47 p.toNat = 0
def AS (o : OO) (p h : Int) : Prop := PN o p ∧ o.1 46 p.toNat = h ∧ 0 ≤ h
def UN (o : OO) (p : Int) : Prop := PN o p ∧ o.1 46 p.toNat < 0
def POT (o : OO) (f : Int → Int) (lo : Int) : Prop := (∀ p h, AS o p h → AL o h ∧ ∀ b, AL o b → WF o p h - f h ≤ WF o p b - f b) ∧ ∀ b, AL o b → lo ≤ f b ∧ f b ≤ 14
def PTX (o : OO) (k : Int) : Prop := ∃ f, POT o f (-14 * k)
def KX (o : OO) : Prop := ∃ k, 0 ≤ k ∧ k ≤ 1000 ∧ PTX o k
/-- o' is o but for reach, byPerson, byHouse -/
def S49 (o o' : OO) : Prop := o'.1 13 = o.1 13 ∧ o'.1 22 = o.1 22 ∧ o'.1 46 = o.1 46 ∧ o'.1 47 = o.1 47 ∧ o'.1 48 = o.1 48 ∧ o'.1 0 17 = o.1 0 17 ∧ o'.1 0 27 = o.1 0 27
theorem S49.of {L : List (Nat × Nat)} {o o' : OO} (hf : Fr L o o') (h1 : ∀ k, wr L 13 k = false) (h2 : ∀ k, wr L 22 k = false) (h3 : ∀ k, wr L 46 k = false) (h4 : ∀ k, wr L 47 k = false) (h5 : ∀ k, wr L 48 k = false) (h6 : wr L 0 17 = false) (h7 : wr L 0 27 = false) : S49 o o' :=
  ⟨funext (fun k => hf.1 13 k (h1 k)), funext (fun k => hf.1 22 k (h2 k)), funext (fun k => hf.1 46 k (h3 k)), funext (fun k => hf.1 47 k (h4 k)), funext (fun k => hf.1 48 k (h5 k)), hf.1 0 17 h6, hf.1 0 27 h7⟩
theorem AL.cg {o o' : OO} (s : S49 o o') (b : Int) : AL o' b ↔ AL o b := by
  obtain ⟨s1, s2, s3, s4, s5, s6, s7⟩ := s
  unfold AL
  rw [s5, s6]
theorem AS.cg {o o' : OO} (s : S49 o o') (p h : Int) : AS o' p h ↔ AS o p h := by
  obtain ⟨s1, s2, s3, s4, s5, s6, s7⟩ := s
  unfold AS PN
  rw [s3, s4, s7]
theorem UN.cg {o o' : OO} (s : S49 o o') (p : Int) : UN o' p ↔ UN o p := by
  obtain ⟨s1, s2, s3, s4, s5, s6, s7⟩ := s
  unfold UN PN
  rw [s3, s4, s7]
theorem POT.cg {o o' : OO} {f : Int → Int} {lo : Int} (s : S49 o o') (h : POT o f lo) : POT o' f lo := by
  have e := fun p b => WF.cg (o := o) (o' := o') s.1 s.2.1 p b
  refine ⟨fun p h' ha => ?_, fun b hb => h.2 b ((AL.cg s b).mp hb)⟩
  obtain ⟨q1, q2⟩ := h.1 p h' ((AS.cg s p h').mp ha)
  exact ⟨(AL.cg s h').mpr q1, fun b hb => by rw [e, e]; exact q2 b ((AL.cg s b).mp hb)⟩
-- chains
def ED (f : Nat → Int) : Nat → Int → Prop
  | 0, x => x < 0
  | k + 1, x => x < 0 ∨ ED f k (f x.toNat)
def IH (f : Nat → Int) (y : Int) : Nat → Int → Prop
  | 0, _ => False
  | k + 1, x => 0 ≤ x ∧ (x = y ∨ IH f y k (f x.toNat))
theorem ED_neg {f : Nat → Int} {x : Int} (h : x < 0) : ∀ k, ED f k x := by
  intro k
  cases k with
  | zero => exact h
  | succ k => exact Or.inl h
theorem ED_av {f : Nat → Int} {b : Int} {v : Int} (b0 : 0 ≤ b) : ∀ (k : Nat) (x : Int), ED f k x → ¬ IH f b k x → ED (fun j => if j = b.toNat then v else f j) k x := by
  intro k
  induction k with
  | zero => intro x h _; exact h
  | succ k ih =>
    intro x h hn
    rcases h with h | h
    · exact Or.inl h
    · by_cases hx : x < 0
      · exact Or.inl hx
      · right
        have hxb : ¬ x = b := fun e => hn ⟨by omega, Or.inl e⟩
        have e : (if x.toNat = b.toNat then v else f x.toNat) = f x.toNat := if_neg (by omega)
        show ED (fun j => if j = b.toNat then v else f j) k (if x.toNat = b.toNat then v else f x.toNat)
        rw [e]
        exact ih _ h (fun q => hn ⟨by omega, Or.inr q⟩)
theorem ED_upd {f : Nat → Int} {b v : Int} (b0 : 0 ≤ b) (hv : ∃ m, ED (fun j => if j = b.toNat then v else f j) m v) : ∀ (k : Nat) (x : Int), ED f k x → ∃ m, ED (fun j => if j = b.toNat then v else f j) m x := by
  intro k
  induction k with
  | zero => intro x h; exact ⟨0, h⟩
  | succ k ih =>
    intro x h
    by_cases hx : x < 0
    · exact ⟨0, hx⟩
    · by_cases hb : x = b
      · obtain ⟨m, hm⟩ := hv
        refine ⟨m + 1, Or.inr ?_⟩
        show ED _ m (if x.toNat = b.toNat then v else f x.toNat)
        rw [if_pos (by omega)]
        exact hm
      · have h : ED f k (f x.toNat) := h.elim (fun q => absurd q hx) id
        obtain ⟨m, hm⟩ := ih _ h
        refine ⟨m + 1, Or.inr ?_⟩
        show ED _ m (if x.toNat = b.toNat then v else f x.toNat)
        rw [if_neg (by omega)]
        exact hm
theorem ED_min {f : Nat → Int} {x : Int} : ∀ k, ED f k x → ∃ k, ED f k x ∧ ∀ j, j < k → ¬ ED f j x := by
  intro k
  induction k using Nat.strongRecOn with
  | ind k ih =>
    intro h
    rcases Classical.em (∃ j, j < k ∧ ED f j x) with ⟨j, q1, q2⟩ | q
    · exact ih j q1 q2
    · exact ⟨k, h, fun j hj hq => q ⟨j, hj, hq⟩⟩
noncomputable def LEN (f : Nat → Int) (x : Int) : Nat := @dite Nat (∃ k, ED f k x ∧ ∀ j, j < k → ¬ ED f j x) (Classical.propDecidable _) (fun h => Classical.choose h) (fun _ => 0)
theorem LEN_spec {f : Nat → Int} {x : Int} (h : ∃ k, ED f k x) : ED f (LEN f x) x ∧ ∀ j, j < LEN f x → ¬ ED f j x := by
  obtain ⟨k, hk⟩ := h
  have q := ED_min k hk
  have e : LEN f x = Classical.choose q := by unfold LEN; exact dif_pos q
  rw [e]
  exact Classical.choose_spec q
theorem LEN_lt {f : Nat → Int} {x : Int} (h : ∃ k, ED f k x) (x0 : 0 ≤ x) : LEN f (f x.toNat) < LEN f x := by
  obtain ⟨h1, h2⟩ := LEN_spec h
  generalize hn : LEN f x = n at *
  cases n with
  | zero =>
    have h1 : x < 0 := h1
    omega
  | succ n =>
    have h1 : ED f n (f x.toNat) := h1.elim (fun q => absurd q (by omega)) id
    have q := LEN_spec ⟨n, h1⟩
    rcases Nat.lt_or_ge (LEN f (f x.toNat)) (n + 1) with p | p
    · exact p
    · exact absurd h1 (q.2 n (by omega))
-- what holds while chains are sought
def NV (o : OO) (b : Int) : Prop := o.1 49 b.toNat = 100000000
def FI9 (o : OO) (b : Int) : Prop := o.1 49 b.toNat < 100000000
def R1 (o : OO) (f : Int → Int) : Prop := ∀ b, AL o b → NV o b ∨ (f b - 14 ≤ o.1 49 b.toNat ∧ o.1 49 b.toNat ≤ 14)
def R2 (o : OO) : Prop := ∀ b, AL o b → FI9 o b → (o.1 51 b.toNat = -9 ∧ UN o (o.1 50 b.toNat) ∧ o.1 49 b.toNat = WF o (o.1 50 b.toNat) b) ∨ (AL o (o.1 51 b.toNat) ∧ FI9 o (o.1 51 b.toNat) ∧ AS o (o.1 50 b.toNat) (o.1 51 b.toNat) ∧ o.1 49 (o.1 51 b.toNat).toNat - WF o (o.1 50 b.toNat) (o.1 51 b.toNat) + WF o (o.1 50 b.toNat) b ≤ o.1 49 b.toNat)
def R3 (o : OO) : Prop := ∀ b, AL o b → FI9 o b → ∃ k, ED (o.1 51) k b
def R4a (o : OO) (m : Int) : Prop := ∀ p, p < m → UN o p → ∀ b, AL o b → o.1 49 b.toNat ≤ WF o p b
def R4c (o : OO) (m : Int) : Prop := (∃ p, p < m ∧ UN o p) ∨ ∀ b, AL o b → NV o b
def RV (i o : OO) : Prop := R2 o ∧ R3 o ∧ ∀ f lo, POT i f lo → R1 o f
theorem rel_at {o : OO} {b by' p v : Int} {k : Nat} : (st1 (st1 (st1 o 49 b.toNat by') 50 b.toNat p) 51 b.toNat v).1 49 k = (if k = b.toNat then by' else o.1 49 k) ∧ (st1 (st1 (st1 o 49 b.toNat by') 50 b.toNat p) 51 b.toNat v).1 50 k = (if k = b.toNat then p else o.1 50 k) ∧ (st1 (st1 (st1 o 49 b.toNat by') 50 b.toNat p) 51 b.toNat v).1 51 k = (if k = b.toNat then v else o.1 51 k) := ⟨rfl, rfl, rfl⟩
theorem rel_S {o : OO} {b by' p v : Int} : S49 o (st1 (st1 (st1 o 49 b.toNat by') 50 b.toNat p) 51 b.toNat v) := ⟨rfl, rfl, rfl, rfl, rfl, rfl, rfl⟩
/-- a relaxation keeps all that -/
theorem RV_rel {i o : OO} {b by' p v : Int} (hk : KX i) (s : S49 i o) (h : RV i o) (hb : AL o b) (hl : by' < o.1 49 b.toNat) (h14 : by' ≤ 14)
    (hc : (v = -9 ∧ UN o p ∧ by' = WF o p b) ∨ (AL o v ∧ FI9 o v ∧ AS o p v ∧ ¬ b = v ∧ by' = o.1 49 v.toNat - WF o p v + WF o p b)) : RV i (st1 (st1 (st1 o 49 b.toNat by') 50 b.toNat p) 51 b.toNat v) := by
  obtain ⟨h2, h3, h1⟩ := h
  have b0 : 0 ≤ b := hb.1
  have sr := rel_S (o := o) (b := b) (by' := by') (p := p) (v := v)
  generalize hn : st1 (st1 (st1 o 49 b.toNat by') 50 b.toNat p) 51 b.toNat v = n at *
  have e49 : ∀ k, n.1 49 k = if k = b.toNat then by' else o.1 49 k := fun k => by rw [← hn]; exact rel_at.1
  have e50 : ∀ k, n.1 50 k = if k = b.toNat then p else o.1 50 k := fun k => by rw [← hn]; exact rel_at.2.1
  have e51 : ∀ k, n.1 51 k = if k = b.toNat then v else o.1 51 k := fun k => by rw [← hn]; exact rel_at.2.2
  have eW : ∀ q c, WF n q c = WF o q c := WF.cg sr.1 sr.2.1
  have le49 : ∀ k, n.1 49 k ≤ o.1 49 k := fun k => by
    rw [e49]
    by_cases e : k = b.toNat
    · rw [if_pos e, e]; omega
    · rw [if_neg e]; exact Int.le_refl _
  have hfn : ∀ c, FI9 o c → FI9 n c := fun c q => Int.lt_of_le_of_lt (le49 c.toNat) q
  have key : ∀ f lo, POT i f lo → (∀ c, AL o c → FI9 o c → 0 ≤ o.1 51 c.toNat → o.1 49 (o.1 51 c.toNat).toNat - f (o.1 51 c.toNat) ≤ o.1 49 c.toNat - f c) := by
    intro f lo hp c c1 c2 c3
    have hp := hp.cg s
    rcases h2 c c1 c2 with q | ⟨q1, q2, q3, q4⟩
    · omega
    · have := (hp.1 _ _ q3).2 c c1
      omega
  refine ⟨?_, ?_, ?_⟩
  · intro c hc1 hc2
    have hco : AL o c := (AL.cg sr c).mp hc1
    by_cases e : c = b
    · subst e
      rw [e51, e50, e49, if_pos rfl, if_pos rfl, if_pos rfl]
      rcases hc with ⟨q1, q2, q3⟩ | ⟨q1, q2, q3, q4, q5⟩
      · exact Or.inl ⟨q1, (UN.cg sr p).mpr q2, by rw [eW]; exact q3⟩
      · refine Or.inr ⟨(AL.cg sr v).mpr q1, hfn v q2, (AS.cg sr p v).mpr q3, ?_⟩
        rw [eW, eW, e49, if_neg (by have := q1.1; omega)]
        omega
    · have c0 := hco.1
      have ne : ¬ c.toNat = b.toNat := by omega
      rw [e51, e50, e49, if_neg ne, if_neg ne, if_neg ne]
      have hf : FI9 o c := by unfold FI9 at hc2 ⊢; rw [e49, if_neg ne] at hc2; exact hc2
      rcases h2 c hco hf with ⟨q1, q2, q3⟩ | ⟨q1, q2, q3, q4⟩
      · exact Or.inl ⟨q1, (UN.cg sr _).mpr q2, by rw [eW]; exact q3⟩
      · refine Or.inr ⟨(AL.cg sr _).mpr q1, hfn _ q2, (AS.cg sr _ _).mpr q3, ?_⟩
        rw [eW, eW]
        have := le49 (o.1 51 c.toNat).toNat
        omega
  · intro c hc1 hc2
    have hco : AL o c := (AL.cg sr c).mp hc1
    have ef : n.1 51 = fun j => if j = b.toNat then v else o.1 51 j := funext e51
    rw [ef]
    have hv : ∃ m, ED (fun j => if j = b.toNat then v else o.1 51 j) m v := by
      rcases hc with ⟨q1, _⟩ | ⟨q1, q2, q3, q4, q5⟩
      · exact ⟨0, by show v < 0; omega⟩
      · obtain ⟨k, hk'⟩ := h3 v q1 q2
        refine ⟨k, ED_av b0 k v hk' ?_⟩
        obtain ⟨k0, _, _, f, hf⟩ := hk
        have hfo := hf.cg s
        have mono : ∀ (m : Nat) (x : Int), AL o x → FI9 o x → IH (o.1 51) b m x → o.1 49 b.toNat - f b ≤ o.1 49 x.toNat - f x := by
          intro m
          induction m with
          | zero => intro x _ _ q; exact absurd q id
          | succ m ih =>
            intro x x1 x2 q
            rcases q.2 with e | q'
            · rw [e]; exact Int.le_refl _
            · have hx0 : 0 ≤ o.1 51 x.toNat := by
                cases m with
                | zero => exact absurd q' id
                | succ m => exact q'.1
              have k1 := key f _ hf x x1 x2 hx0
              rcases h2 x x1 x2 with p1 | ⟨p1, p2, _, _⟩
              · omega
              · have := ih _ p1 p2 q'
                omega
        intro hin
        have m1 := mono k v q1 q2 hin
        have m2 := (hfo.1 p v q3).2 b hb
        omega
    by_cases e : c = b
    · subst e
      obtain ⟨m, hm⟩ := hv
      refine ⟨m + 1, Or.inr ?_⟩
      show ED _ m (if c.toNat = c.toNat then v else o.1 51 c.toNat)
      rw [if_pos rfl]
      exact hm
    · have hf : FI9 o c := by unfold FI9 at hc2 ⊢; rw [e49, if_neg (by have := hco.1; omega)] at hc2; exact hc2
      obtain ⟨k, hk'⟩ := h3 c hco hf
      exact ED_upd b0 hv k c hk'
  · intro f lo hp c hc1
    have hco : AL o c := (AL.cg sr c).mp hc1
    have hpo := hp.cg s
    unfold NV
    rw [e49]
    by_cases e : c = b
    · subst e
      rw [if_pos rfl]
      right
      refine ⟨?_, h14⟩
      rcases hc with ⟨q1, q2, q3⟩ | ⟨q1, q2, q3, q4, q5⟩
      · have := (hpo.2 c hb).2
        have := WF_rng o p c
        omega
      · have m2 := (hpo.1 p v q3).2 c hb
        rcases h1 f lo hp v q1 with r | r
        · unfold NV at r; unfold FI9 at q2; omega
        · omega
    · rw [if_neg (by have := hco.1; have := hb.1; omega)]
      exact h1 f lo hp c hco
/-- what a search leaves -/
def FX (o : OO) (p b : Int) : Prop := ∀ h, AS o p h → FI9 o h → AL o b → o.1 49 b.toNat ≤ o.1 49 h.toNat - WF o p h + WF o p b
def INE (o : OO) : Prop := ∀ a, AL o a → PN o (o.1 50 a.toNat) ∧ (o.1 51 a.toNat = -9 ∨ AL o (o.1 51 a.toNat)) ∧ (∃ k, ED (o.1 51) k a) ∧ ∀ b, AL o b → WF o (o.1 50 a.toNat) a - o.1 49 a.toNat ≤ WF o (o.1 50 a.toNat) b - o.1 49 b.toNat
def RES (o : OO) (v k : Int) : Prop := v = -9 ∨ (0 ≤ v ∧ v < o.1 0 17 ∧ 0 < o.1 48 v.toNat ∧ INE o ∧ POT o (fun b => o.1 49 b.toNat) (-14 * (k + 1)))
theorem RES_of {i o : OO} {v k : Int} (s : S49 i o) (hp : PTX i k) (h : RV i o) (ha : R4a o (o.1 0 27)) (hc : R4c o (o.1 0 27)) (hx : ∀ p b, 0 ≤ p → p < o.1 0 27 → 0 ≤ b → b < o.1 0 17 → FX o p b) (v0 : 0 ≤ v ∧ v < o.1 0 17) (hs : 0 < o.1 48 v.toNat) (hf : FI9 o v) : RES o v k := by
  obtain ⟨h2, h3, h1⟩ := h
  obtain ⟨f, hpf⟩ := hp
  have hpo := hpf.cg s
  have hAv : AL o v := ⟨v0.1, v0.2, by omega⟩
  obtain ⟨p0, p1, p2⟩ : ∃ p, p < o.1 0 27 ∧ UN o p := by
    rcases hc with q | q
    · exact q
    · have := q v hAv
      unfold NV at this
      unfold FI9 at hf
      omega
  have fin : ∀ b, AL o b → FI9 o b ∧ o.1 49 b.toNat ≤ 14 := by
    intro b hb
    have := ha p0 p1 p2 b hb
    have := WF_rng o p0 b
    refine ⟨?_, by omega⟩
    unfold FI9
    omega
  refine Or.inr ⟨v0.1, v0.2, hs, ?_, ?_, ?_⟩
  · intro a haa
    have hfa := (fin a haa).1
    rcases h2 a haa hfa with ⟨q1, q2, q3⟩ | ⟨q1, q2, q3, q4⟩
    · refine ⟨q2.1, Or.inl q1, h3 a haa hfa, fun b hb => ?_⟩
      have := ha _ q2.1.2.1 q2 b hb
      omega
    · refine ⟨q3.1, Or.inr q1, h3 a haa hfa, fun b hb => ?_⟩
      have := hx _ b q3.1.1 q3.1.2.1 hb.1 hb.2.1 _ q3 q2 hb
      omega
  · intro p h' hs'
    refine ⟨(hpo.1 p h' hs').1, fun b hb => ?_⟩
    have hA := (hpo.1 p h' hs').1
    have := hx p b hs'.1.1 hs'.1.2.1 hb.1 hb.2.1 h' hs' (fin h' hA).1 hb
    show WF o p h' - o.1 49 h'.toNat ≤ WF o p b - o.1 49 b.toNat
    omega
  · intro b hb
    show -14 * (k + 1) ≤ o.1 49 b.toNat ∧ o.1 49 b.toNat ≤ 14
    have := fin b hb
    have hb2 := hpo.2 b hb
    rcases h1 f _ hpf b hb with r | r
    · unfold NV at r; omega
    · omega
def RESX (i o : OO) (v : Int) : Prop := ∀ k, 0 ≤ k → PTX i k → RES o v k
theorem S49.rf (o : OO) : S49 o o := ⟨rfl, rfl, rfl, rfl, rfl, rfl, rfl⟩
theorem S49.tr {a b c : OO} (h1 : S49 a b) (h2 : S49 b c) : S49 a c := by
  obtain ⟨s1, s2, s3, s4, s5, s6, s7⟩ := h1
  obtain ⟨t1, t2, t3, t4, t5, t6, t7⟩ := h2
  exact ⟨t1.trans s1, t2.trans s2, t3.trans s3, t4.trans s4, t5.trans s5, t6.trans s6, t7.trans s7⟩
theorem S49.sy {a b : OO} (h : S49 a b) : S49 b a := by
  obtain ⟨s1, s2, s3, s4, s5, s6, s7⟩ := h
  exact ⟨s1.symm, s2.symm, s3.symm, s4.symm, s5.symm, s6.symm, s7.symm⟩
theorem PTX.cg {a b : OO} {k : Int} (s : S49 a b) (h : PTX a k) : PTX b k := by
  obtain ⟨f, hf⟩ := h
  exact ⟨f, hf.cg s⟩
theorem KX.cg {a b : OO} (s : S49 a b) (h : KX a) : KX b := by
  obtain ⟨k, h0, h1, h2⟩ := h
  exact ⟨k, h0, h1, h2.cg s⟩
theorem RV.tr {i j o : OO} (s : S49 i j) (h : RV i o) : RV j o := ⟨h.1, h.2.1, fun f lo hp => h.2.2 f lo (hp.cg s.sy)⟩
def NVN (o : OO) (n : Int) : Prop := ∀ b : Int, 0 ≤ b → b < n → NV o b
theorem NVN_0 {o : OO} : NVN o 0 := fun b h0 h1 => absurd h1 (by omega)
theorem NVN_s {o : OO} {n : Int} (h : NVN o n) (n0 : 0 ≤ n) : NVN (st1 o 49 n.toNat 100000000) (n + 1) := by
  intro b h0 h1
  unfold NV
  by_cases e : b = n
  · rw [e]; exact st1_eq
  · rw [st1_ne (by omega)]; exact h b h0 (by omega)
theorem RV_0 {o : OO} (h : NVN o (o.1 0 17)) : RV o o := by
  refine ⟨fun b hb hf => ?_, fun b hb hf => ?_, fun f lo hp b hb => Or.inl (h b hb.1 hb.2.1)⟩
  · have := h b hb.1 hb.2.1
    unfold NV at this; unfold FI9 at hf; omega
  · have := h b hb.1 hb.2.1
    unfold NV at this; unfold FI9 at hf; omega
theorem R4a_0 {o : OO} : R4a o 0 := fun p h hu => by have := hu.1.1; omega
theorem R4c_0 {o : OO} (h : NVN o (o.1 0 17)) : R4c o 0 := Or.inr (fun b hb => h b hb.1 hb.2.1)
theorem R4a_skip {o : OO} {m : Int} (h : R4a o m) (hn : ¬ UN o m) : R4a o (m + 1) := by
  intro p hp hu
  rcases Classical.em (p = m) with e | e
  · subst e; exact absurd hu hn
  · exact h p (by omega) hu
theorem R4c_up {o : OO} {m n : Int} (h : R4c o m) (hn : m ≤ n) : R4c o n := h.imp (fun ⟨p, q1, q2⟩ => ⟨p, by omega, q2⟩) id
def R4d (o : OO) (p n : Int) : Prop := UN o p → ∀ b, AL o b → b < n → o.1 49 b.toNat ≤ WF o p b
theorem R4d_0 {o : OO} {p : Int} : R4d o p 0 := fun _ b hb h => by have := hb.1; omega
theorem R4a_s {o : OO} {m : Int} (h : R4a o m) (hd : R4d o m (o.1 0 17)) : R4a o (m + 1) := by
  intro p hp hu b hb
  rcases Classical.em (p = m) with e | e
  · subst e; exact hd hu b hb hb.2.1
  · exact h p (by omega) hu b hb
abbrev RP (o o' : OO) (v b by' p f : Int) : Prop := (v = 0 ∧ o' = o ∧ (o.1 48 b.toNat < 0 ∨ o.1 49 b.toNat ≤ by')) ∨ (v = 1 ∧ o' = st1 (st1 (st1 o 49 b.toNat by') 50 b.toNat p) 51 b.toNat f ∧ by' < o.1 49 b.toNat ∧ 0 ≤ o.1 48 b.toNat)
theorem RP_le {o o' : OO} {v b by' p f : Int} (h : RP o o' v b by' p f) : S49 o o' ∧ ∀ k, o'.1 49 k ≤ o.1 49 k := by
  rcases h with ⟨_, e, _⟩ | ⟨_, e, q, _⟩
  · subst e; exact ⟨S49.rf _, fun k => Int.le_refl _⟩
  · subst e
    refine ⟨rel_S, fun k => ?_⟩
    rw [rel_at.1]
    by_cases e : k = b.toNat
    · rw [if_pos e, e]; omega
    · rw [if_neg e]; exact Int.le_refl _
theorem R4a.dn {o o' : OO} {m : Int} (s : S49 o o') (hl : ∀ k, o'.1 49 k ≤ o.1 49 k) (h : R4a o m) : R4a o' m := by
  intro p hp hu b hb
  rw [WF.cg s.1 s.2.1]
  have := h p hp ((UN.cg s p).mp hu) b ((AL.cg s b).mp hb)
  have := hl b.toNat
  omega
theorem RV_root {i o o' : OO} {v b p w : Int} (hk : KX i) (s : S49 i o) (h : RV i o) (b0 : 0 ≤ b ∧ b < o.1 0 17) (hu : UN o p) (hw : w = WF o p b) (hr : RP o o' v b w p (-9)) : RV i o' ∧ (AL o' b → o'.1 49 b.toNat ≤ WF o' p b) := by
  have wr := WF_rng o p b
  rcases hr with ⟨_, e, q⟩ | ⟨_, e, q, q2⟩
  · subst e
    refine ⟨h, fun hb => ?_⟩
    have := hb.2.2
    omega
  · subst e
    refine ⟨RV_rel hk s h ⟨b0.1, b0.2, q2⟩ q (by omega) (Or.inl ⟨rfl, hu, hw⟩), fun _ => ?_⟩
    rw [rel_at.1, if_pos rfl, WF.cg rel_S.1 rel_S.2.1]
    omega
theorem R4d_s {o o' : OO} {p n : Int} (s : S49 o o') (hl : ∀ k, o'.1 49 k ≤ o.1 49 k) (h : R4d o p n) (hn : AL o' n → o'.1 49 n.toNat ≤ WF o' p n) : R4d o' p (n + 1) := by
  intro hu b hb hlt
  rcases Classical.em (b = n) with e | e
  · subst e; exact hn hb
  · rw [WF.cg s.1 s.2.1]
    have := h ((UN.cg s p).mp hu) b ((AL.cg s b).mp hb) (by omega)
    have := hl b.toNat
    omega
def SR (o : OO) : Int := sumN (o.1 49) 32
theorem SR_lo {o : OO} (hB : BoxM o) : -68719476736 ≤ SR o := by
  have h : sumN (fun _ => (-2147483648 : Int)) 32 ≤ sumN (o.1 49) 32 := sumN_le (fun j _ => (bM_49 hB j).1)
  rw [sumN_const] at h
  unfold SR
  omega
theorem RP_SR {o o' : OO} {v b by' p f : Int} (b0 : 0 ≤ b ∧ b ≤ 31) (h : RP o o' v b by' p f) : (v = 0 ∧ SR o' = SR o) ∨ (v = 1 ∧ SR o' < SR o) := by
  rcases h with ⟨e0, e, _⟩ | ⟨e0, e, q, _⟩
  · subst e; exact Or.inl ⟨e0, rfl⟩
  · subst e
    refine Or.inr ⟨e0, ?_⟩
    have : SR (st1 (st1 (st1 o 49 b.toNat by') 50 b.toNat p) 51 b.toNat f) = SR o - o.1 49 b.toNat + by' := sumN_upd (f := o.1 49) (by omega)
    omega
theorem KX_AL {i o : OO} {p h : Int} (hk : KX i) (s : S49 i o) (ha : AS o p h) : AL o h := by
  obtain ⟨k, _, _, f, hf⟩ := hk
  exact ((hf.cg s).1 p h ha).1
theorem RV_bd {i o : OO} {b : Int} (hk : KX i) (s : S49 i o) (h : RV i o) (hb : AL o b) (hf : FI9 o b) : -14014 ≤ o.1 49 b.toNat ∧ o.1 49 b.toNat ≤ 14 := by
  obtain ⟨k, k0, k1, f, hpf⟩ := hk
  have := (hpf.cg s).2 b hb
  rcases h.2.2 f _ hpf b hb with r | r
  · unfold NV at r; unfold FI9 at hf; omega
  · omega
theorem RV_in {i o o' : OO} {v b p at' w : Int} (hk : KX i) (s : S49 i o) (h : RV i o) (b0 : 0 ≤ b ∧ b < o.1 0 17) (ha : AS o p at') (hf : FI9 o at') (hne : ¬ b = at') (hw : w = o.1 49 at'.toNat - WF o p at' + WF o p b) (hc : R4c o (o.1 0 27)) (hA : R4a o (o.1 0 27)) (hr : RP o o' v b w p at') : RV i o' ∧ R4c o' (o'.1 0 27) ∧ (v = 0 → FX o' p b) := by
  have hAt := KX_AL hk s ha
  obtain ⟨q0, q1, q2⟩ : ∃ q, q < o.1 0 27 ∧ UN o q := by
    rcases hc with q | q
    · exact q
    · have := q at' hAt
      unfold NV at this; unfold FI9 at hf; omega
  have hle := RP_le hr
  refine ⟨?_, Or.inl ⟨q0, by rw [hle.1.2.2.2.2.2.2]; exact q1, (UN.cg hle.1 q0).mpr q2⟩, ?_⟩
  · rcases hr with ⟨_, e, q⟩ | ⟨_, e, q, p2⟩
    · subst e; exact h
    · subst e
      have hb : AL o b := ⟨b0.1, b0.2, p2⟩
      have := hA q0 q1 q2 b hb
      have := WF_rng o q0 b
      exact RV_rel hk s h hb q (by omega) (Or.inr ⟨hAt, hf, ha, hne, hw⟩)
  · intro v0
    rcases hr with ⟨_, e, q⟩ | ⟨e1, _⟩
    · subst e
      intro h' a1 a2 a3
      have : h' = at' := by have x1 := a1.2.1; have x2 := ha.2.1; omega
      subst this
      have := a3.2.2
      omega
    · omega
def ATX (o : OO) (p a : Int) : Prop := (0 ≤ a → AS o p a) ∧ (a < 0 → ∀ h, ¬ AS o p h)
def FXB (o : OO) (p n : Int) : Prop := ∀ b : Int, 0 ≤ b → b < n → FX o p b
theorem FXB_0 {o : OO} {p : Int} : FXB o p 0 := fun b h0 h1 => absurd h1 (by omega)
theorem FX.cg {o o' : OO} (s : S49 o o') (hs : ∀ k, o'.1 49 k = o.1 49 k) {p b : Int} (h : FX o p b) : FX o' p b := by
  intro h' a1 a2 a3
  rw [WF.cg s.1 s.2.1, WF.cg s.1 s.2.1, hs, hs]
  exact h h' ((AS.cg s p h').mp a1) (by unfold FI9 at a2 ⊢; rw [hs] at a2; exact a2) ((AL.cg s b).mp a3)
theorem FXB_s {o o' : OO} (s : S49 o o') (hs : ∀ k, o'.1 49 k = o.1 49 k) {p n : Int} (h : FXB o p n) (hn : FX o' p n) : FXB o' p (n + 1) := by
  intro b h0 h1
  rcases Classical.em (b = n) with e | e
  · subst e; exact hn
  · exact (h b h0 (by omega)).cg s hs
theorem FX_self {o : OO} {p a : Int} (ha : AS o p a) : FX o p a := by
  intro h' a1 _ _
  have : h' = a := by have x1 := a1.2.1; have x2 := ha.2.1; omega
  subst this
  omega
theorem FXB_no {o : OO} {p n : Int} (h : ∀ h', ¬ AS o p h') : FXB o p n := fun b _ _ h' a1 => absurd a1 (h h')
theorem FXB_nv {o : OO} {p n a : Int} (ha : AS o p a) (hn : ¬ o.1 49 a.toNat < 100000000) : FXB o p n := fun b _ _ h' a1 a2 => by
  have : h' = a := by have x1 := a1.2.1; have x2 := ha.2.1; omega
  subst this
  exact absurd a2 hn
def FXA (o : OO) (m : Int) : Prop := ∀ p b : Int, 0 ≤ p → p < m → 0 ≤ b → b < o.1 0 17 → FX o p b
theorem FXA_0 {o : OO} : FXA o 0 := fun p b h0 h1 => absurd h1 (by omega)
theorem FXA_s {o o' : OO} {m : Int} (s : S49 o o') (hs : ∀ k, o'.1 49 k = o.1 49 k) (h : FXA o m) (hn : FXB o' m (o'.1 0 17)) : FXA o' (m + 1) := by
  intro p b p0 p1 b0 b1
  rcases Classical.em (p = m) with e | e
  · subst e; exact hn b b0 b1
  · exact (h p b p0 (by omega) b0 (by rw [s.2.2.2.2.2.1] at b1; exact b1)).cg s hs
theorem RESX_of {j i o : OO} {v : Int} (s1 : S49 j i) (s2 : S49 i o) (h : RV i o) (ha : R4a o (o.1 0 27)) (hc : R4c o (o.1 0 27)) (hx : FXA o (o.1 0 27)) (hv : v = -9 ∨ (0 ≤ v ∧ v < o.1 0 17 ∧ 0 < o.1 48 v.toNat ∧ o.1 49 v.toNat < 100000000)) : RESX j o v := by
  intro k _ hp
  rcases hv with e | ⟨v0, v1, v2, v3⟩
  · exact Or.inl e
  · exact RES_of s2 (hp.cg s1) h ha hc hx ⟨v0, v1⟩ v2 v3
-- the outer loop
def SPS (o : OO) : Int := sumN (fun b => if o.1 48 b < 0 then 0 else o.1 48 b) 32
theorem SPS_rng {o : OO} (hB : BoxM o) : 0 ≤ SPS o ∧ SPS o ≤ 640 := by
  have h1 : ∀ j, j < 32 → 0 ≤ (if o.1 48 j < 0 then 0 else o.1 48 j) := fun j _ => by split <;> omega
  have h2 : ∀ j, j < 32 → (if o.1 48 j < 0 then 0 else o.1 48 j) ≤ 20 := fun j _ => by have := bM_48 hB j; split <;> omega
  have h3 := sumN_nn h1
  have h4 := sumN_ub h2
  unfold SPS
  omega
theorem SPS_one {o : OO} {v : Int} (v0 : 0 ≤ v ∧ v ≤ 31) (hv : 0 < o.1 48 v.toNat) : SPS (st1 o 48 v.toNat (o.1 48 v.toNat - 1)) = SPS o - 1 := by
  have e : SPS (st1 o 48 v.toNat (o.1 48 v.toNat - 1)) = sumN (fun b => if b = v.toNat then o.1 48 v.toNat - 1 else (if o.1 48 b < 0 then 0 else o.1 48 b)) 32 := by
    apply sumN_cg
    intro j _
    show (if (if j = v.toNat then o.1 48 v.toNat - 1 else o.1 48 j) < 0 then 0 else (if j = v.toNat then o.1 48 v.toNat - 1 else o.1 48 j)) = _
    by_cases h : j = v.toNat
    · rw [if_pos h, if_pos h, if_neg (by omega)]
    · rw [if_neg h, if_neg h]
  rw [e, sumN_upd (by omega), if_neg (by omega)]
  show SPS o - o.1 48 v.toNat + (o.1 48 v.toNat - 1) = _
  omega
theorem SPS_cg {o o' : OO} (h : ∀ j, o'.1 48 j = o.1 48 j) : SPS o' = SPS o := sumN_cg (fun j _ => by show (if o'.1 48 j < 0 then 0 else o'.1 48 j) = _; rw [h])
def GN (o : OO) (n : Int) : Prop := ∀ p : Int, 0 ≤ p → p < n → o.1 46 p.toNat = -9
theorem GN_0 {o : OO} : GN o 0 := fun b h0 h1 => absurd h1 (by omega)
theorem GN_s {o : OO} {n : Int} (h : GN o n) (n0 : 0 ≤ n) : GN (st1 o 46 n.toNat (-9)) (n + 1) := by
  intro b h0 h1
  by_cases e : b = n
  · rw [e]; exact st1_eq
  · rw [st1_ne (by omega)]; exact h b h0 (by omega)
theorem PTX_0 {o : OO} (h : GN o (o.1 0 27)) : PTX o 0 := by
  refine ⟨fun _ => 0, fun p h' ha => ?_, fun b _ => ?_⟩
  · have := h p ha.1.1 ha.1.2.1
    have := ha.2.1
    have := ha.2.2
    omega
  · show -14 * 0 ≤ (0 : Int) ∧ (0 : Int) ≤ 14
    omega
theorem KX_of {o : OO} {k : Int} (h : PTX o k) (k0 : 0 ≤ k ∧ k ≤ 1000) : KX o := ⟨k, k0.1, k0.2, h⟩
def PTR (o : OO) : Prop := ∀ p h, AS o p h → AL o h ∧ ∀ b, AL o b → WF o p h - o.1 49 h.toNat ≤ WF o p b - o.1 49 b.toNat
def BN9 (o : OO) (k : Int) : Prop := ∀ b, AL o b → -14 * (k + 1) ≤ o.1 49 b.toNat ∧ o.1 49 b.toNat ≤ 14
/-- one ROOM less where there are some -/
theorem al48 {o : OO} {v : Int} (v0 : 0 ≤ v) (hv : 0 < o.1 48 v.toNat) (b : Int) : AL (st1 o 48 v.toNat (o.1 48 v.toNat - 1)) b ↔ AL o b := by
  have h : 0 ≤ (st1 o 48 v.toNat (o.1 48 v.toNat - 1)).1 48 b.toNat ↔ 0 ≤ o.1 48 b.toNat := by
    by_cases e : b.toNat = v.toNat
    · rw [e, st1_eq]; omega
    · rw [st1_ne e]
  unfold AL
  rw [h]
  exact Iff.rfl
theorem RES_48 {o : OO} {v k : Int} (h : RES o v k) (hv : ¬ v < 0) : 0 < o.1 48 v.toNat ∧ INE (st1 o 48 v.toNat (o.1 48 v.toNat - 1)) ∧ PTR (st1 o 48 v.toNat (o.1 48 v.toNat - 1)) ∧ BN9 (st1 o 48 v.toNat (o.1 48 v.toNat - 1)) k ∧ AL (st1 o 48 v.toNat (o.1 48 v.toNat - 1)) v := by
  rcases h with e | ⟨v0, v1, v2, hi, hp⟩
  · omega
  · have al := al48 (o := o) v0 v2
    refine ⟨v2, ?_, ?_, ?_, (al v).mpr ⟨v0, v1, by omega⟩⟩
    · intro a ha
      obtain ⟨q1, q2, q3, q4⟩ := hi a ((al a).mp ha)
      exact ⟨q1, q2.imp id (fun q => (al _).mpr q), q3, fun b hb => q4 b ((al b).mp hb)⟩
    · intro p h' ha
      obtain ⟨q1, q2⟩ := hp.1 p h' ha
      exact ⟨(al h').mpr q1, fun b hb => q2 b ((al b).mp hb)⟩
    · intro b hb
      exact hp.2 b ((al b).mp hb)
/-- o' is o but for goes -/
def S46 (o o' : OO) : Prop := o'.1 13 = o.1 13 ∧ o'.1 22 = o.1 22 ∧ o'.1 47 = o.1 47 ∧ o'.1 48 = o.1 48 ∧ o'.1 49 = o.1 49 ∧ o'.1 50 = o.1 50 ∧ o'.1 51 = o.1 51 ∧ o'.1 0 17 = o.1 0 17 ∧ o'.1 0 27 = o.1 0 27
theorem AL.c6 {o o' : OO} (s : S46 o o') (b : Int) : AL o' b ↔ AL o b := by
  obtain ⟨s1, s2, s3, s4, s5, s6, s7, s8, s9⟩ := s
  unfold AL
  rw [s4, s8]
theorem INE.c6 {o o' : OO} (s : S46 o o') (h : INE o) : INE o' := by
  have al := AL.c6 s
  have eW := WF.cg (o := o) (o' := o') s.1 s.2.1
  obtain ⟨s1, s2, s3, s4, s5, s6, s7, s8, s9⟩ := s
  intro a ha
  obtain ⟨⟨p1, p2, p3⟩, q2, q3, q4⟩ := h a ((al a).mp ha)
  rw [s5, s6, s7]
  refine ⟨⟨p1, by rw [s9]; exact p2, by rw [s3]; exact p3⟩, q2.imp id (fun q => (al _).mpr q), q3, fun b hb => ?_⟩
  rw [eW, eW]
  exact q4 b ((al b).mp hb)
theorem PTR_st {o : OO} {x : Int} (hi : INE o) (hp : PTR o) (hx : AL o x) : PTR (st1 o 46 (o.1 50 x.toNat).toNat x) := by
  intro p h' ha
  obtain ⟨⟨p1, p2, p3⟩, q2, q3, q4⟩ := hi x hx
  obtain ⟨⟨a1, a2, a3⟩, a4, a5⟩ := ha
  have a1 : 0 ≤ p := a1
  by_cases e : p = o.1 50 x.toNat
  · have : (st1 o 46 (o.1 50 x.toNat).toNat x).1 46 p.toNat = x := by rw [e]; exact st1_eq
    have e2 : h' = x := by omega
    subst e2
    refine ⟨hx, fun b hb => ?_⟩
    have := q4 b hb
    rw [e]
    exact this
  · rw [st1_ne (by omega)] at a4
    exact hp p h' ⟨⟨a1, a2, a3⟩, a4, a5⟩
theorem PTX_next {o o' : OO} {k : Int} (s : S46 o o') (hb : BN9 o k) (hp : PTR o') : PTX o' (k + 1) := by
  have al := AL.c6 s
  refine ⟨fun b => o'.1 49 b.toNat, fun p h' ha => hp p h' ha, fun b hb' => ?_⟩
  show -14 * (k + 1) ≤ o'.1 49 b.toNat ∧ o'.1 49 b.toNat ≤ 14
  rw [s.2.2.2.2.1]
  exact hb b ((al b).mp hb')
theorem S46.of {L : List (Nat × Nat)} {o o' : OO} (hf : Fr L o o') (h1 : ∀ k, wr L 13 k = false) (h2 : ∀ k, wr L 22 k = false) (h4 : ∀ k, wr L 47 k = false) (h5 : ∀ k, wr L 48 k = false) (h8 : ∀ k, wr L 49 k = false) (h9 : ∀ k, wr L 50 k = false) (h3 : ∀ k, wr L 51 k = false) (h6 : wr L 0 17 = false) (h7 : wr L 0 27 = false) : S46 o o' :=
  ⟨funext (fun k => hf.1 13 k (h1 k)), funext (fun k => hf.1 22 k (h2 k)), funext (fun k => hf.1 47 k (h4 k)), funext (fun k => hf.1 48 k (h5 k)), funext (fun k => hf.1 49 k (h8 k)), funext (fun k => hf.1 50 k (h9 k)), funext (fun k => hf.1 51 k (h3 k)), hf.1 0 17 h6, hf.1 0 27 h7⟩
