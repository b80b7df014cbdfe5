-- the grid of CELLS: who is beside whom, how far, and what a pass over it does to a set
def hasM (z : Int64) (x : Nat) : Prop := lg_cmp (jshr z (nI x) &&& 1) 1 = 0
theorem lN_bv (n : Nat) : (lN n).toBitVec = BitVec.ofNat 64 n := rfl
theorem sh63 : ∀ k, k < 64 → ((nI k).toInt64 &&& 63) = lN k := by decide +kernel
theorem smod63 : ∀ k, k < 64 → (BitVec.ofNat 64 k).smod 64 = BitVec.ofNat 64 k := by decide +kernel
theorem hasM_iff (z : Int64) {x : Nat} (hx : x < 64) : hasM z x ↔ z.toBitVec.getLsbD x = true := by
  unfold hasM jshr
  rw [lg_cmp_eq, sh63 x hx, ← Int64.toBitVec_inj, Int64.toBitVec_and, Int64.toBitVec_shiftRight, lN_bv, smod63 x hx]
  have e : (BitVec.ofNat 64 x).toNat = x := by rw [BitVec.toNat_ofNat]; omega
  have h1 : (1 : Int64).toBitVec = 1#64 := rfl
  rw [h1]
  show z.toBitVec.sshiftRight (BitVec.ofNat 64 x).toNat &&& 1#64 = 1#64 ↔ _
  rw [e]
  constructor
  · intro h
    have h2 : ((z.toBitVec.sshiftRight x) &&& 1#64).getLsbD 0 = (1#64).getLsbD 0 := by rw [h]
    rw [BitVec.getLsbD_and, BitVec.getLsbD_sshiftRight, Nat.add_zero, if_pos hx] at h2
    have h3 : (1#64).getLsbD 0 = true := by decide
    rw [h3] at h2
    rcases Bool.eq_false_or_eq_true (z.toBitVec.getLsbD x) with q | q
    · exact q
    · rw [q] at h2
      simp at h2
  · intro h
    apply BitVec.eq_of_getLsbD_eq
    intro i hi
    by_cases h0 : i = 0
    · subst h0
      simp [BitVec.getLsbD_sshiftRight, hx, h]
    · simp [BitVec.getLsbD_one, h0]
theorem jshl_bv {d : Nat} (hd : d < 64) : (jshl 1 (nI d)).toBitVec = BitVec.twoPow 64 d := by
  unfold jshl
  rw [sh63 d hd, Int64.toBitVec_shiftLeft, lN_bv, smod63 d hd]
  have e : (BitVec.ofNat 64 d).toNat = d := by rw [BitVec.toNat_ofNat]; omega
  have h1 : (1 : Int64).toBitVec = 1#64 := rfl
  rw [h1, BitVec.shiftLeft_eq', e, BitVec.twoPow_eq]
theorem hasM_or {z : Int64} {x d : Nat} (hx : x < 64) (hd : d < 64) (h : hasM z x ∨ x = d) : hasM (z ||| jshl 1 (nI d)) x := by
  rw [hasM_iff _ hx, Int64.toBitVec_or, BitVec.getLsbD_or, jshl_bv hd, BitVec.getLsbD_twoPow]
  rcases h with h | h
  · rw [(hasM_iff z hx).mp h]; rfl
  · subst h; simp [hx]
theorem hasM_bit {d : Nat} (hd : d < 64) : hasM (jshl 1 (nI d)) d := by
  rw [hasM_iff _ hd, jshl_bv hd, BitVec.getLsbD_twoPow]
  simp [hd]
def nb (c w : Nat) : Option Nat := match w with
  | 0 => if 8 ≤ c then some (c - 8) else none
  | 1 => if 0 < c % 8 then some (c - 1) else none
  | 2 => if c % 8 < 7 then some (c + 1) else none
  | _ => if c < 56 then some (c + 8) else none
def bd (a c : Nat) : Nat := (a % 8 - c % 8) + (c % 8 - a % 8) + (a / 8 - c / 8) + (c / 8 - a / 8)
def prd (a d : Nat) : Nat × Nat := if d % 8 < a % 8 then (d + 1, 1) else if a % 8 < d % 8 then (d - 1, 2) else if d / 8 < a / 8 then (d + 8, 0) else (d - 8, 3)
theorem prd_ok : ∀ a, a < 64 → ∀ d, d < 64 → (bd a d = 0 ∧ d = a) ∨ ((prd a d).1 < 64 ∧ (prd a d).2 < 4 ∧ nb (prd a d).1 (prd a d).2 = some d ∧ bd a (prd a d).1 + 1 = bd a d) := by decide +kernel
theorem bd_le : ∀ a, a < 64 → ∀ d, d < 64 → bd a d ≤ 14 := by decide +kernel
theorem nb_lt : ∀ c, c < 64 → ∀ w, w < 4 → ∀ d, nb c w = some d → d < 64 := by
  intro c hc w hw d h
  unfold nb at h
  split at h <;> split at h <;> first | (cases h; done) | (have := Option.some.inj h; omega)
/-- what is closed under NEIGHBOURS and holds one CELL holds all -/
theorem nb_all (P : Nat → Prop) {a : Nat} (ha : a < 64) (hP : P a) (hcl : ∀ c, c < 64 → ∀ w, w < 4 → ∀ d, nb c w = some d → P c → P d) : ∀ d, d < 64 → P d := by
  have key : ∀ k d, d < 64 → bd a d = k → P d := by
    intro k
    induction k with
    | zero =>
      intro d hd h
      rcases prd_ok a ha d hd with ⟨_, q⟩ | ⟨_, _, _, q⟩
      · rw [q]; exact hP
      · omega
    | succ k ih =>
      intro d hd h
      rcases prd_ok a ha d hd with ⟨q, _⟩ | ⟨h1, h2, h3, q⟩
      · omega
      · exact hcl _ h1 _ h2 d h3 (ih _ h1 (by omega))
  exact fun d hd => key _ d hd rfl
/-- a pass over the CELLS from the set z0 on, c CELLS done and w ways of the next: the set z, whether it grew -/
def cI' (z0 : Int64) (c w : Nat) (z : Int64) (m : Int32) : Prop :=
  (m = 0 ∨ m = 1) ∧ (∀ x, x < 64 → hasM z0 x → hasM z x) ∧ (∀ c' w' d, c' < 64 → w' < 4 → (c' < c ∨ (c' = c ∧ w' < w)) → nb c' w' = some d → hasM z0 c' → hasM z d) ∧ (m = 0 → z = z0) ∧ ((∀ x, x < 64 → hasM z0 x) → m = 0)
theorem cI_0 (z : Int64) : cI' z 0 0 z 0 := ⟨Or.inl rfl, fun _ _ h => h, fun _ _ _ _ _ h => by omega, fun _ => rfl, fun _ => rfl⟩
theorem cI_row {z0 z : Int64} {m : Int32} {c : Nat} (h : cI' z0 c 4 z m) : cI' z0 (c + 1) 0 z m :=
  ⟨h.1, h.2.1, fun c' w' d h1 h2 h3 => h.2.2.1 c' w' d h1 h2 (by omega), h.2.2.2⟩
theorem cI_keep {z0 z : Int64} {m : Int32} {c w : Nat} (h : cI' z0 c w z m) (hn : ∀ d, nb c w = some d → hasM z0 c → hasM z d) : cI' z0 c (w + 1) z m :=
  ⟨h.1, h.2.1, fun c' w' d h1 h2 h3 h4 h5 => by
    by_cases q : c' = c ∧ w' = w
    · rw [q.1, q.2] at h4
      exact hn d h4 (by rw [← q.1]; exact h5)
    · exact h.2.2.1 c' w' d h1 h2 (by omega) h4 h5, h.2.2.2⟩
theorem cI_none {z0 z : Int64} {m : Int32} {c w : Nat} (h : cI' z0 c w z m) (hn : nb c w = none) : cI' z0 c (w + 1) z m := cI_keep h (fun d q => by rw [hn] at q; cases q)
theorem cI_not {z0 z : Int64} {m : Int32} {c w : Nat} (h : cI' z0 c w z m) (hc : c < 64) (hn : ¬ hasM z c) : cI' z0 c (w + 1) z m := cI_keep h (fun d _ q => absurd (h.2.1 c hc q) hn)
theorem cI_has {z0 z : Int64} {m : Int32} {c w d : Nat} (h : cI' z0 c w z m) (hn : nb c w = some d) (hd : hasM z d) : cI' z0 c (w + 1) z m := cI_keep h (fun d' q _ => by rw [hn] at q; cases q; exact hd)
theorem cI_set {z0 z : Int64} {m : Int32} {c w d : Nat} (h : cI' z0 c w z m) (hc : c < 64) (hw : w < 4) (hn : nb c w = some d) (hd : ¬ hasM z d) : cI' z0 c (w + 1) (z ||| jshl 1 (nI d)) 1 := by
  have hd64 := nb_lt c hc w hw d hn
  refine ⟨Or.inr rfl, fun x hx q => hasM_or hx hd64 (Or.inl (h.2.1 x hx q)), fun c' w' d' h1 h2 h3 h4 h5 => ?_, fun q => absurd q (by decide), fun q => absurd (h.2.1 d hd64 (q d hd64)) hd⟩
  have hd' := nb_lt c' h1 w' h2 d' h4
  by_cases q : c' = c ∧ w' = w
  · rw [q.1, q.2, hn] at h4
    cases h4
    exact hasM_or hd' hd64 (Or.inr rfl)
  · exact hasM_or hd' hd64 (Or.inl (h.2.2.1 c' w' d' h1 h2 (by omega) h4 h5))
/-- what a whole pass gives: nothing grew, and all are reached; or the reached ones are a step more -/
theorem cI_end {z0 z : Int64} {a : Nat} (ha : a < 64) (h0 : hasM z0 a) (h : cI' z0 64 0 z 0) : ∀ d, d < 64 → hasM z d := by
  have e := h.2.2.2.1 rfl
  subst e
  exact nb_all (fun d => hasM z d) ha h0 (fun c hc w hw d hn q => h.2.2.1 c w d hc hw (Or.inl hc) hn q)
def ballM (a k : Nat) (z : Int64) : Prop := ∀ d, d < 64 → bd a d ≤ k → hasM z d
theorem ball_0 {a : Nat} (ha : a < 64) : ballM a 0 (jshl 1 (nI a)) := fun d hd h => by
  rcases prd_ok a ha d hd with ⟨_, q⟩ | ⟨_, _, _, q⟩
  · rw [q]; exact hasM_bit ha
  · omega
theorem bd_self (a : Nat) : bd a a = 0 := by unfold bd; omega
theorem ball_a {a k : Nat} {z : Int64} (ha : a < 64) (h : ballM a k z) : hasM z a := h a ha (by rw [bd_self]; exact Nat.zero_le k)
theorem ball_S {a k : Nat} {z0 z : Int64} {m : Int32} (ha : a < 64) (hb : ballM a k z0) (h : cI' z0 64 0 z m) : ballM a (k + 1) z := fun d hd hk => by
  rcases prd_ok a ha d hd with ⟨_, q⟩ | ⟨h1, h2, h3, q⟩
  · rw [q]; exact h.2.1 a ha (ball_a ha hb)
  · exact h.2.2.1 _ _ d h1 h2 (Or.inl h1) h3 (hb _ h1 (by omega))
theorem ball_lt {a k : Nat} {z0 z : Int64} (ha : a < 64) (hb : ballM a k z0) (h : cI' z0 64 0 z 1) : k < 14 := by
  rcases Nat.lt_or_ge k 14 with q | q
  · exact q
  · exact absurd (h.2.2.2.2 (fun x hx => hb x hx (Nat.le_trans (bd_le a ha x hx) q))) (by decide)
theorem updz (k : Nat) : upd (fun _ => 0) k (vp_nar .boolean 0) = fun _ => 0 := updc 0 k
