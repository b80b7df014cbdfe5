-- ---------- rules
/-- which rule decides, of the first k: told, from, val are their days and what they say of the letter -/
def DC (told from_ val : Nat → Int) (day known : Int) : Nat → Int
  | 0 => -9
  | k + 1 => if val k < 0 ∨ known < told k ∨ day < from_ k then DC told from_ val day known k else if DC told from_ val day known k = -9 then (k : Int) else if from_ k < from_ (DC told from_ val day known k).toNat then DC told from_ val day known k else (k : Int)
theorem DC_no {told from_ val : Nat → Int} {day known : Int} {k : Nat} (h : val k < 0 ∨ known < told k ∨ day < from_ k) : DC told from_ val day known (k + 1) = DC told from_ val day known k := by
  show (if val k < 0 ∨ known < told k ∨ day < from_ k then DC told from_ val day known k else _) = _
  rw [if_pos h]
theorem DC_new {told from_ val : Nat → Int} {day known : Int} {k : Nat} (h : ¬ (val k < 0 ∨ known < told k ∨ day < from_ k)) (h2 : DC told from_ val day known k = -9) : DC told from_ val day known (k + 1) = (k : Int) := by
  show (if val k < 0 ∨ known < told k ∨ day < from_ k then DC told from_ val day known k else if DC told from_ val day known k = -9 then (k : Int) else _) = _
  rw [if_neg h, if_pos h2]
theorem DC_old {told from_ val : Nat → Int} {day known : Int} {k : Nat} (h : ¬ (val k < 0 ∨ known < told k ∨ day < from_ k)) (h2 : ¬ DC told from_ val day known k = -9) (h3 : from_ k < from_ (DC told from_ val day known k).toNat) : DC told from_ val day known (k + 1) = DC told from_ val day known k := by
  show (if val k < 0 ∨ known < told k ∨ day < from_ k then DC told from_ val day known k else if DC told from_ val day known k = -9 then (k : Int) else if from_ k < from_ (DC told from_ val day known k).toNat then DC told from_ val day known k else (k : Int)) = _
  rw [if_neg h, if_neg h2, if_pos h3]
theorem DC_lat {told from_ val : Nat → Int} {day known : Int} {k : Nat} (h : ¬ (val k < 0 ∨ known < told k ∨ day < from_ k)) (h2 : ¬ DC told from_ val day known k = -9) (h3 : ¬ from_ k < from_ (DC told from_ val day known k).toNat) : DC told from_ val day known (k + 1) = (k : Int) := by
  show (if val k < 0 ∨ known < told k ∨ day < from_ k then DC told from_ val day known k else if DC told from_ val day known k = -9 then (k : Int) else if from_ k < from_ (DC told from_ val day known k).toNat then DC told from_ val day known k else (k : Int)) = _
  rw [if_neg h, if_neg h2, if_neg h3]
theorem DC_rng (told from_ val : Nat → Int) (day known : Int) : ∀ k : Nat, DC told from_ val day known k = -9 ∨ (0 ≤ DC told from_ val day known k ∧ DC told from_ val day known k < (k : Int) ∧ 0 ≤ val (DC told from_ val day known k).toNat) := by
  intro k
  induction k with
  | zero => exact Or.inl rfl
  | succ k ih =>
    by_cases h : val k < 0 ∨ known < told k ∨ day < from_ k
    · rw [DC_no h]
      exact ih.imp id (fun q => ⟨q.1, by omega, q.2.2⟩)
    · by_cases h2 : DC told from_ val day known k = -9
      · rw [DC_new h h2]
        exact Or.inr ⟨by omega, by omega, by rw [Int.toNat_natCast]; omega⟩
      · by_cases h3 : from_ k < from_ (DC told from_ val day known k).toNat
        · rw [DC_old h h2 h3]
          exact ih.imp id (fun q => ⟨q.1, by omega, q.2.2⟩)
        · rw [DC_lat h h2 h3]
          exact Or.inr ⟨by omega, by omega, by rw [Int.toNat_natCast]; omega⟩
theorem DC_cg {t t' f f' v v' : Nat → Int} {day known : Int} {n : Nat} (ht : ∀ k, k < n → t k = t' k) (hf : ∀ k, k < n → f k = f' k) (hv : ∀ k, k < n → (v k < 0 ↔ v' k < 0)) : ∀ k, k ≤ n → DC t f v day known k = DC t' f' v' day known k := by
  intro k
  induction k with
  | zero => intro _; rfl
  | succ k ih =>
    intro hk
    have ih := ih (by omega)
    have e1 := ht k (by omega)
    have e2 := hf k (by omega)
    have e3 := hv k (by omega)
    by_cases h : v k < 0 ∨ known < t k ∨ day < f k
    · rw [DC_no h, DC_no (by rw [← e1, ← e2, ← e3]; exact h), ih]
    · have h' : ¬ (v' k < 0 ∨ known < t' k ∨ day < f' k) := by rw [← e1, ← e2, ← e3]; exact h
      by_cases h2 : DC t f v day known k = -9
      · rw [DC_new h h2, DC_new h' (by rw [← ih]; exact h2)]
      · have r := DC_rng t f v day known k
        have e4 := hf (DC t f v day known k).toNat (by omega)
        by_cases h3 : f k < f (DC t f v day known k).toNat
        · rw [DC_old h h2 h3, DC_old h' (by rw [← ih]; exact h2) (by rw [← ih, ← e2, ← e4]; exact h3), ih]
        · rw [DC_lat h h2 h3, DC_lat h' (by rw [← ih]; exact h2) (by rw [← ih, ← e2, ← e4]; exact h3)]
def VC (o : OO) (w : Int) (k : Nat) : Int := o.1 31 (8 * k + w.toNat)
def VM (o : OO) (w : Int) (k : Nat) : Int := o.1 9 (8 * k + w.toNat)
theorem ra_deciding {o : OO} (hb : ∀ j, -1 ≤ o.1 31 j) (hn : 0 ≤ o.1 28 3) {x1 x2 x3 : Int} (h1 : 0 ≤ x1) : Pa (s_X7_deciding o x1 x2 x3) (fun v => v = DC (o.1 29) (o.1 30) (VC o x1) x2 x3 (o.1 28 3).toNat) := by
  unfold s_X7_deciding e_X7_deciding_7
  refine Pa_qB (P := fun v => v = DC (o.1 29) (o.1 30) (VC o x1) x2 x3 (o.1 28 3).toNat) ?_ (fun v hv => by unfold b_X7_deciding_94; exact Pa_some hv)
  refine Pa_loop (I := fun s => (0 ≤ s.2 ∧ s.2 ≤ o.1 28 3) ∧ s.1 = DC (o.1 29) (o.1 30) (VC o x1) x2 x3 s.2.toNat) ⟨⟨by exact Int.le_refl _, hn⟩, rfl⟩ (fun s hs => ?_)
  obtain ⟨b, k⟩ := s
  obtain ⟨⟨k1, k2⟩, k3⟩ := hs
  replace k1 : 0 ≤ k := k1
  replace k2 : k ≤ o.1 28 3 := k2
  replace k3 : b = DC (o.1 29) (o.1 30) (VC o x1) x2 x3 k.toNat := k3
  show Pa (l_X7_deciding_7 o x1 x2 x3 b k) _
  unfold l_X7_deciding_7 b_X7_deciding_84 b_X7_deciding_88
  have rng := DC_rng (o.1 29) (o.1 30) (VC o x1) x2 x3 k.toNat
  have ek : (k + 1).toNat = k.toNat + 1 := by omega
  have ev : o.1 31 (k * 8 + x1).toNat = VC o x1 k.toNat := by
    show o.1 31 (k * 8 + x1).toNat = o.1 31 (8 * k.toNat + x1.toNat)
    exact congrArg (o.1 31) (by omega)
  have hb9 := hb (k * 8 + x1).toNat
  have old : DC (o.1 29) (o.1 30) (VC o x1) x2 x3 (k.toNat + 1) = DC (o.1 29) (o.1 30) (VC o x1) x2 x3 k.toNat → k < o.1 28 3 → Sum.elim (fun s : Int × Int => (0 ≤ s.2 ∧ s.2 ≤ o.1 28 3) ∧ s.1 = DC (o.1 29) (o.1 30) (VC o x1) x2 x3 s.2.toNat) (fun v => v = DC (o.1 29) (o.1 30) (VC o x1) x2 x3 (o.1 28 3).toNat) (.inl (b, k + 1)) := fun q q2 => by
    show (0 ≤ k + 1 ∧ k + 1 ≤ o.1 28 3) ∧ b = DC (o.1 29) (o.1 30) (VC o x1) x2 x3 (k + 1).toNat
    exact ⟨⟨by omega, by omega⟩, by rw [ek, q]; exact k3⟩
  have new : DC (o.1 29) (o.1 30) (VC o x1) x2 x3 (k.toNat + 1) = (k.toNat : Int) → k < o.1 28 3 → Sum.elim (fun s : Int × Int => (0 ≤ s.2 ∧ s.2 ≤ o.1 28 3) ∧ s.1 = DC (o.1 29) (o.1 30) (VC o x1) x2 x3 s.2.toNat) (fun v => v = DC (o.1 29) (o.1 30) (VC o x1) x2 x3 (o.1 28 3).toNat) (.inl (k, k + 1)) := fun q q2 => by
    show (0 ≤ k + 1 ∧ k + 1 ≤ o.1 28 3) ∧ k = DC (o.1 29) (o.1 30) (VC o x1) x2 x3 (k + 1).toNat
    exact ⟨⟨by omega, by omega⟩, by rw [ek, q]; omega⟩
  refine Pa_qLt (fun _ _ h => Pa_qIn (fun _ => Pa_qNm ?_)) (fun _ _ h => Pa_some ?_)
  · refine Pa_qEq (fun h2 => Pa_some (old (DC_no (Or.inl (by omega))) h)) (fun h2 => Pa_qIn (fun _ => Pa_qNm (Pa_qLt (fun _ _ h3 => Pa_some (old (DC_no (Or.inr (Or.inl h3))) h)) (fun _ _ h3 => Pa_qIn (fun _ => Pa_qNm (Pa_qLt (fun _ _ h4 => Pa_some (old (DC_no (Or.inr (Or.inr h4))) h)) (fun _ _ h4 => ?_)))))))
    have hh : ¬ (VC o x1 k.toNat < 0 ∨ x3 < o.1 29 k.toNat ∨ x2 < o.1 30 k.toNat) := by omega
    refine Pa_qEq (fun h5 => Pa_some (new (DC_new hh (by rw [← k3]; exact h5)) h)) (fun h5 => Pa_qIn (fun _ => Pa_qNm (Pa_qIn (fun _ => Pa_qNm (Pa_qLt (fun _ _ h6 => Pa_some (old (DC_old hh (by rw [← k3]; exact h5) (by rw [← k3]; exact h6)) h)) (fun _ _ h6 => Pa_some (new (DC_lat hh (by rw [← k3]; exact h5) (by rw [← k3]; exact h6)) h)))))))
  · show b = DC (o.1 29) (o.1 30) (VC o x1) x2 x3 (o.1 28 3).toNat
    rw [k3, show k.toNat = (o.1 28 3).toNat by omega]
theorem ra_ruleFor {o : OO} (hn : 0 ≤ o.1 0 10) {x1 x2 x3 : Int} (h1 : 0 ≤ x1) : Pa (s_X12_ruleFor o x1 x2 x3) (fun v => v = DC (o.1 7) (o.1 8) (VM o x1) x2 x3 (o.1 0 10).toNat) := by
  unfold s_X12_ruleFor e_X12_ruleFor_7
  refine Pa_qB (P := fun v => v = DC (o.1 7) (o.1 8) (VM o x1) x2 x3 (o.1 0 10).toNat) ?_ (fun v hv => by unfold b_X12_ruleFor_102; exact Pa_some hv)
  refine Pa_loop (I := fun s => (0 ≤ s.2 ∧ s.2 ≤ o.1 0 10) ∧ s.1 = DC (o.1 7) (o.1 8) (VM o x1) x2 x3 s.2.toNat) ⟨⟨by exact Int.le_refl _, hn⟩, rfl⟩ (fun s hs => ?_)
  obtain ⟨b, k⟩ := s
  obtain ⟨⟨k1, k2⟩, k3⟩ := hs
  replace k1 : 0 ≤ k := k1
  replace k2 : k ≤ o.1 0 10 := k2
  replace k3 : b = DC (o.1 7) (o.1 8) (VM o x1) x2 x3 k.toNat := k3
  show Pa (l_X12_ruleFor_7 o x1 x2 x3 b k) _
  unfold l_X12_ruleFor_7 b_X12_ruleFor_57 b_X12_ruleFor_58 b_X12_ruleFor_92 b_X12_ruleFor_87 b_X12_ruleFor_94
  have rng := DC_rng (o.1 7) (o.1 8) (VM o x1) x2 x3 k.toNat
  have ek : (k + 1).toNat = k.toNat + 1 := by omega
  have ev : o.1 9 (8 * k + x1).toNat = VM o x1 k.toNat := by
    show o.1 9 (8 * k + x1).toNat = o.1 9 (8 * k.toNat + x1.toNat)
    exact congrArg (o.1 9) (by omega)
  have old : DC (o.1 7) (o.1 8) (VM o x1) x2 x3 (k.toNat + 1) = DC (o.1 7) (o.1 8) (VM o x1) x2 x3 k.toNat → k < o.1 0 10 → Sum.elim (fun s : Int × Int => (0 ≤ s.2 ∧ s.2 ≤ o.1 0 10) ∧ s.1 = DC (o.1 7) (o.1 8) (VM o x1) x2 x3 s.2.toNat) (fun v => v = DC (o.1 7) (o.1 8) (VM o x1) x2 x3 (o.1 0 10).toNat) (.inl (b, k + 1)) := fun q q2 => by
    show (0 ≤ k + 1 ∧ k + 1 ≤ o.1 0 10) ∧ b = DC (o.1 7) (o.1 8) (VM o x1) x2 x3 (k + 1).toNat
    exact ⟨⟨by omega, by omega⟩, by rw [ek, q]; exact k3⟩
  have new : DC (o.1 7) (o.1 8) (VM o x1) x2 x3 (k.toNat + 1) = (k.toNat : Int) → k < o.1 0 10 → Sum.elim (fun s : Int × Int => (0 ≤ s.2 ∧ s.2 ≤ o.1 0 10) ∧ s.1 = DC (o.1 7) (o.1 8) (VM o x1) x2 x3 s.2.toNat) (fun v => v = DC (o.1 7) (o.1 8) (VM o x1) x2 x3 (o.1 0 10).toNat) (.inl (k, k + 1)) := fun q q2 => by
    show (0 ≤ k + 1 ∧ k + 1 ≤ o.1 0 10) ∧ k = DC (o.1 7) (o.1 8) (VM o x1) x2 x3 (k + 1).toNat
    exact ⟨⟨by omega, by omega⟩, by rw [ek, q]; omega⟩
  have no : (VM o x1 k.toNat < 0 ∨ x3 < o.1 7 k.toNat ∨ x2 < o.1 8 k.toNat) → k < o.1 0 10 → Pa (α := (Int × Int) ⊕ Int) (qEq (0 : Int) 0 (some (.inl (b, k + 1))) (qLt b 0 (some (.inl (k, k + 1))) (qIn k 16 (qNm (o.1 8 k.toNat) (fun n2 => qIn b 16 (qNm (o.1 8 b.toNat) (fun n4 => qLt n2 n4 (some (.inl (b, k + 1))) (some (.inl (k, k + 1)))))))))) (Sum.elim (fun s : Int × Int => (0 ≤ s.2 ∧ s.2 ≤ o.1 0 10) ∧ s.1 = DC (o.1 7) (o.1 8) (VM o x1) x2 x3 s.2.toNat) (fun v => v = DC (o.1 7) (o.1 8) (VM o x1) x2 x3 (o.1 0 10).toNat)) := fun q q2 => Pa_qEq (fun _ => Pa_some (old (DC_no q) q2)) (fun c => absurd rfl c)
  refine Pa_qLt (fun _ _ h => Pa_qIn (fun _ => Pa_qNm ?_)) (fun _ _ h => Pa_some ?_)
  · refine Pa_qLt (fun _ _ h3 => no (Or.inr (Or.inl h3)) h) (fun _ _ h3 => Pa_qIn (fun _ => Pa_qNm (Pa_qLt (fun _ _ h4 => no (Or.inr (Or.inr h4)) h) (fun _ _ h4 => Pa_qIn (fun _ => Pa_qNm (Pa_qLt (fun _ _ h2 => no (Or.inl (by omega)) h) (fun _ _ h2 => ?_)))))))
    have hh : ¬ (VM o x1 k.toNat < 0 ∨ x3 < o.1 7 k.toNat ∨ x2 < o.1 8 k.toNat) := by omega
    refine Pa_qEq (fun c => absurd c (by decide)) (fun _ => Pa_qLt (fun _ _ h5 => Pa_some (new (DC_new hh (by omega)) h)) (fun _ _ h5 => Pa_qIn (fun _ => Pa_qNm (Pa_qIn (fun _ => Pa_qNm (Pa_qLt (fun _ _ h6 => Pa_some (old (DC_old hh (by omega) (by rw [← k3]; exact h6)) h)) (fun _ _ h6 => Pa_some (new (DC_lat hh (by omega) (by rw [← k3]; exact h6)) h))))))))
  · show b = DC (o.1 7) (o.1 8) (VM o x1) x2 x3 (o.1 0 10).toNat
    rw [k3, show k.toNat = (o.1 0 10).toNat by omega]
/-- the rules are alike on both sides -/
def RU (oC oM : OO) : Prop := oC.1 28 3 = oM.1 0 10 ∧ (∀ k : Nat, (k : Int) < oM.1 0 10 → oC.1 29 k = oM.1 7 k ∧ oC.1 30 k = oM.1 8 k) ∧ ∀ k w : Nat, (k : Int) < oM.1 0 10 → w < 8 → oC.1 31 (8 * k + w) = SZ (oM.1 9 (8 * k + w))
theorem RU.dc {oC oM : OO} (h : RU oC oM) (hn : 0 ≤ oM.1 0 10) {w x2 x3 : Int} (h0 : 0 ≤ w) (h7 : w ≤ 7) : DC (oC.1 29) (oC.1 30) (VC oC w) x2 x3 (oC.1 28 3).toNat = DC (oM.1 7) (oM.1 8) (VM oM w) x2 x3 (oM.1 0 10).toNat := by
  rw [h.1]
  refine DC_cg (n := (oM.1 0 10).toNat) (fun k hk => (h.2.1 k (by omega)).1) (fun k hk => (h.2.1 k (by omega)).2) (fun k hk => ?_) _ (Nat.le_refl _)
  show oC.1 31 (8 * k + w.toNat) < 0 ↔ oM.1 9 (8 * k + w.toNat) < 0
  rw [h.2.2 k w.toNat (by omega) (by omega)]
  unfold SZ
  split <;> omega
theorem ra_isDay_C (x0 : Int) : Pa (s_X11_isDay x0) (fun v => (v = 1 ∧ 0 ≤ x0 ∧ x0 ≤ 999) ∨ (v = 0 ∧ ¬ (0 ≤ x0 ∧ x0 ≤ 999))) := by
  unfold s_X11_isDay b_X11_isDay_15 b_X11_isDay_16
  refine Pa_qLt (fun _ _ h => Pa_qZ (fun _ => Pa_some (Or.inr ⟨rfl, by omega⟩))) (fun _ _ h => Pa_qLt (fun _ _ h2 => Pa_qZ (fun _ => Pa_some (Or.inr ⟨rfl, by omega⟩))) (fun _ _ h2 => Pa_qZ (fun _ => Pa_some (Or.inl ⟨rfl, by omega, by omega⟩))))
theorem ra_isDay_M (x0 : Int) : Pa (s_X12_isDay x0) (fun v => (v = 1 ∧ 0 ≤ x0 ∧ x0 ≤ 999) ∨ (v = 0 ∧ ¬ (0 ≤ x0 ∧ x0 ≤ 999))) := by
  unfold s_X12_isDay
  exact Pa_qB (ra_in x0 0 999) (fun r hr => Pa_qZ (fun _ => Pa_some hr))
theorem ra_isLetter (x0 : Int) : Pa (s_X7_isLetter x0) (fun v => (v = 1 ∧ 0 ≤ x0 ∧ x0 ≤ 7) ∨ (v = 0 ∧ ¬ (0 ≤ x0 ∧ x0 ≤ 7))) := by
  unfold s_X7_isLetter b_X7_isLetter_14 b_X7_isLetter_15
  refine Pa_qLt (fun _ _ h => Pa_qZ (fun _ => Pa_some (Or.inr ⟨rfl, by omega⟩))) (fun _ _ h => Pa_qLt (fun _ _ h2 => Pa_qZ (fun _ => Pa_some (Or.inl ⟨rfl, by omega, by omega⟩))) (fun _ _ h2 => Pa_qZ (fun _ => Pa_some (Or.inr ⟨rfl, by omega⟩))))
theorem ra_isAsked (x0 x1 x2 : Int) : Pa (s_X12_isAsked x0 x1 x2) (fun v => (v = 1 ∧ (0 ≤ x0 ∧ x0 ≤ 7) ∧ (0 ≤ x1 ∧ x1 ≤ 999) ∧ (0 ≤ x2 ∧ x2 ≤ 999)) ∨ (v = 0 ∧ ¬ ((0 ≤ x0 ∧ x0 ≤ 7) ∧ (0 ≤ x1 ∧ x1 ≤ 999) ∧ (0 ≤ x2 ∧ x2 ≤ 999)))) := by
  unfold s_X12_isAsked b_X12_isAsked_28 b_X12_isAsked_29
  refine Pa_qB (ra_in x0 0 7) (fun r hr => Pa_qEq (fun h => Pa_qZ (fun _ => Pa_some (Or.inr ⟨rfl, by omega⟩))) (fun h => Pa_qB (ra_isDay_M x1) (fun r2 hr2 => Pa_qEq (fun h2 => Pa_qZ (fun _ => Pa_some (Or.inr ⟨rfl, by omega⟩))) (fun h2 => Pa_qB (ra_isDay_M x2) (fun r3 hr3 => Pa_qEq (fun h3 => Pa_qZ (fun _ => Pa_some (Or.inr ⟨rfl, by omega⟩))) (fun h3 => Pa_qZ (fun _ => Pa_some (Or.inl ⟨rfl, by omega, by omega, by omega⟩))))))))
/-- what is asked of the rules -/
def ASR (x1 x2 x3 : Int) : Prop := (0 ≤ x1 ∧ x1 ≤ 7) ∧ (0 ≤ x2 ∧ x2 ≤ 999) ∧ (0 ≤ x3 ∧ x3 ≤ 999)
def ASA (x1 x2 x3 d r : Int) : Prop := (¬ ASR x1 x2 x3 ∧ r = -1) ∨ (ASR x1 x2 x3 ∧ r = d)
theorem ra_why_C {o : OO} (hb : ∀ j, -1 ≤ o.1 31 j) (hn : 0 ≤ o.1 28 3) (x1 x2 x3 : Int) : Pa (s_X11_why o x1 x2 x3) (fun v => ASA x1 x2 x3 (DC (o.1 29) (o.1 30) (VC o x1) x2 x3 (o.1 28 3).toNat) v) := by
  unfold s_X11_why b_X11_why_21 ASA ASR
  refine Pa_qB (ra_isLetter x1) (fun r hr => Pa_qEq (fun h => Pa_some (Or.inl ⟨by omega, rfl⟩)) (fun h => Pa_qB (ra_isDay_C x2) (fun r2 hr2 => Pa_qEq (fun h2 => Pa_some (Or.inl ⟨by omega, rfl⟩)) (fun h2 => Pa_qB (ra_isDay_C x3) (fun r3 hr3 => Pa_qEq (fun h3 => Pa_some (Or.inl ⟨by omega, rfl⟩)) (fun h3 => Pa_qB (ra_deciding hb hn (by omega)) (fun r4 hr4 => Pa_some (Or.inr ⟨by omega, hr4⟩))))))))
theorem ra_why_M {o : OO} (hn : 0 ≤ o.1 0 10) (x1 x2 x3 : Int) : Pa (s_X12_why o x1 x2 x3) (fun v => ASA x1 x2 x3 (DC (o.1 7) (o.1 8) (VM o x1) x2 x3 (o.1 0 10).toNat) v) := by
  unfold s_X12_why b_X12_why_20 ASA ASR
  refine Pa_qB (ra_isAsked x1 x2 x3) (fun r hr => Pa_qEq (fun h => Pa_some (Or.inl ⟨by omega, rfl⟩)) (fun h => Pa_qB (ra_ruleFor hn (by omega)) (fun r4 hr4 => Pa_some (Or.inr ⟨by omega, hr4⟩))))
theorem RU.why {oC oM : OO} (h : RU oC oM) (hn : 0 ≤ oM.1 0 10) {x1 x2 x3 r r' : Int} (hC : ASA x1 x2 x3 (DC (oC.1 29) (oC.1 30) (VC oC x1) x2 x3 (oC.1 28 3).toNat) r) (hM : ASA x1 x2 x3 (DC (oM.1 7) (oM.1 8) (VM oM x1) x2 x3 (oM.1 0 10).toNat) r') : r = r' := by
  rcases hC with ⟨a, e⟩ | ⟨a, e⟩ <;> rcases hM with ⟨a', e'⟩ | ⟨a', e'⟩
  · exact e.trans e'.symm
  · exact absurd a' a
  · exact absurd a a'
  · rw [e, e']
    exact h.dc hn a.1.1 a.1.2
-- ---------- force
def VFC (o : OO) (x1 x2 x3 : Int) : Int := if DC (o.1 29) (o.1 30) (VC o x1) x2 x3 (o.1 28 3).toNat = -9 then defaultsN x1.toNat else VC o x1 (DC (o.1 29) (o.1 30) (VC o x1) x2 x3 (o.1 28 3).toNat).toNat
def VFM (o : OO) (x1 x2 x3 : Int) : Int := if DC (o.1 7) (o.1 8) (VM o x1) x2 x3 (o.1 0 10).toNat = -9 then defaultsN x1.toNat else VM o x1 (DC (o.1 7) (o.1 8) (VM o x1) x2 x3 (o.1 0 10).toNat).toNat
theorem ra_valueFor {o : OO} (hb : ∀ j, -1 ≤ o.1 31 j) (hn : 0 ≤ o.1 28 3) {x1 x2 x3 : Int} (h1 : 0 ≤ x1) : Pa (s_X7_valueFor o x1 x2 x3) (fun v => v = VFC o x1 x2 x3) := by
  unfold s_X7_valueFor b_X7_valueFor_36 VFC
  refine Pa_qB (ra_deciding hb hn h1) (fun r hr => Pa_qEq (fun h => Pa_qIn (fun _ => Pa_qNm (Pa_some ?_))) (fun h => Pa_qIn (fun _ => Pa_qNm (Pa_some ?_))))
  · rw [if_pos (by rw [← hr]; exact h)]
  · have rng := DC_rng (o.1 29) (o.1 30) (VC o x1) x2 x3 (o.1 28 3).toNat
    rw [if_neg (by rw [← hr]; exact h), ← hr]
    show o.1 31 (r * 8 + x1).toNat = o.1 31 (8 * r.toNat + x1.toNat)
    rw [← hr] at rng
    exact congrArg (o.1 31) (by omega)
theorem ra_inForce {o : OO} (hn : 0 ≤ o.1 0 10) {x1 x2 x3 : Int} (h1 : 0 ≤ x1) (h7 : x1 ≤ 7) : Pa (s_X12_inForce o x1 x2 x3) (fun v => v = VFM o x1 x2 x3) := by
  unfold s_X12_inForce VFM
  refine Pa_qB (ra_ruleFor hn h1) (fun r hr => Pa_qLt (fun _ _ h => ?_) (fun _ _ h => Pa_qIn (fun _ => Pa_qNm (Pa_some ?_))))
  · have rng := DC_rng (o.1 7) (o.1 8) (VM o x1) x2 x3 (o.1 0 10).toNat
    rw [if_pos (by rw [← hr] at rng ⊢; omega)]
    refine Pa_qEq (fun h2 => Pa_some (by rw [h2]; rfl)) (fun h20 => ?_)
    refine Pa_qEq (fun h2 => Pa_some (by rw [h2]; rfl)) (fun h21 => ?_)
    refine Pa_qEq (fun h2 => Pa_some (by rw [h2]; rfl)) (fun h22 => ?_)
    refine Pa_qEq (fun h2 => Pa_some (by rw [h2]; rfl)) (fun h23 => ?_)
    refine Pa_qEq (fun h2 => Pa_some (by rw [h2]; rfl)) (fun h24 => ?_)
    refine Pa_qEq (fun h2 => Pa_some (by rw [h2]; rfl)) (fun h25 => ?_)
    refine Pa_qEq (fun h2 => Pa_some (by rw [h2]; rfl)) (fun h26 => ?_)
    exact Pa_some (by rw [show x1 = 7 by omega]; rfl)
  · have rng := DC_rng (o.1 7) (o.1 8) (VM o x1) x2 x3 (o.1 0 10).toNat
    rw [← hr] at rng
    rw [if_neg (by rw [← hr]; omega), ← hr]
    show o.1 9 (8 * r + x1).toNat = o.1 9 (8 * r.toNat + x1.toNat)
    exact congrArg (o.1 9) (by omega)
theorem ra_force_C {o : OO} (hb : ∀ j, -1 ≤ o.1 31 j) (hn : 0 ≤ o.1 28 3) (x1 x2 x3 : Int) : Pa (s_X11_force o x1 x2 x3) (fun v => ASA x1 x2 x3 (VFC o x1 x2 x3) v) := by
  unfold s_X11_force b_X11_force_21 ASA ASR
  refine Pa_qB (ra_isLetter x1) (fun r hr => Pa_qEq (fun h => Pa_some (Or.inl ⟨by omega, rfl⟩)) (fun h => Pa_qB (ra_isDay_C x2) (fun r2 hr2 => Pa_qEq (fun h2 => Pa_some (Or.inl ⟨by omega, rfl⟩)) (fun h2 => Pa_qB (ra_isDay_C x3) (fun r3 hr3 => Pa_qEq (fun h3 => Pa_some (Or.inl ⟨by omega, rfl⟩)) (fun h3 => Pa_qB (ra_valueFor hb hn (by omega)) (fun r4 hr4 => Pa_some (Or.inr ⟨by omega, hr4⟩))))))))
theorem ra_force_M {o : OO} (hn : 0 ≤ o.1 0 10) (x1 x2 x3 : Int) : Pa (s_X12_force o x1 x2 x3) (fun v => ASA x1 x2 x3 (VFM o x1 x2 x3) v) := by
  unfold s_X12_force b_X12_force_20 ASA ASR
  refine Pa_qB (ra_isAsked x1 x2 x3) (fun r hr => Pa_qEq (fun h => Pa_some (Or.inl ⟨by omega, rfl⟩)) (fun h => Pa_qB (ra_inForce hn (by omega) (by omega)) (fun r4 hr4 => Pa_some (Or.inr ⟨by omega, hr4⟩))))
theorem RU.force {oC oM : OO} (h : RU oC oM) (hn : 0 ≤ oM.1 0 10) {x1 x2 x3 r r' : Int} (hC : ASA x1 x2 x3 (VFC oC x1 x2 x3) r) (hM : ASA x1 x2 x3 (VFM oM x1 x2 x3) r') : r = r' := by
  rcases hC with ⟨a, e⟩ | ⟨a, e⟩ <;> rcases hM with ⟨a', e'⟩ | ⟨a', e'⟩
  · exact e.trans e'.symm
  · exact absurd a' a
  · exact absurd a a'
  · rw [e, e']
    unfold VFC VFM
    rw [h.dc hn a.1.1 a.1.2]
    have rng := DC_rng (oM.1 7) (oM.1 8) (VM oM x1) x2 x3 (oM.1 0 10).toNat
    obtain ⟨d, hd⟩ : ∃ d, d = DC (oM.1 7) (oM.1 8) (VM oM x1) x2 x3 (oM.1 0 10).toNat := ⟨_, rfl⟩
    rw [← hd] at rng ⊢
    by_cases q : d = -9
    · rw [if_pos q, if_pos q]
    · rw [if_neg q, if_neg q]
      have a1 := a.1
      show oC.1 31 (8 * d.toNat + x1.toNat) = oM.1 9 (8 * d.toNat + x1.toNat)
      have r2 : 0 ≤ oM.1 9 (8 * d.toNat + x1.toNat) := by
        rcases rng with c | c
        · exact absurd c q
        · exact c.2.2
      rw [h.2.2 d.toNat x1.toNat (by omega) (by omega), SZ_nn r2]
