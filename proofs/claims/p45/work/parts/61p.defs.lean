-- of the class: lists that are filled, what they hold
def WKC (o : OO) (b : Int) : Prop := ∀ j : Nat, j < 32 → 0 ≤ o.1 22 j ∧ o.1 22 j ≤ b
theorem WKC_0 {o : OO} (h : FP o 22 32 0) : WKC o 0 := fun j hj => by rw [h j (by omega)]; omega
theorem WKC.up {o : OO} {b b' : Int} (h : WKC o b) (hb : b ≤ b') : WKC o b' := fun j hj => ⟨(h j hj).1, Int.le_trans (h j hj).2 hb⟩
theorem WKC_st {o : OO} {b b' x : Int} {i : Nat} (h : WKC o b) (hb : b ≤ b') (hx : 0 ≤ x ∧ x ≤ b') : WKC (st1 o 22 i x) b' := by
  intro j hj
  by_cases e : j = i
  · rw [e, st1_eq]; exact hx
  · rw [st1_ne e]; exact h.up hb j hj
def HBT (z : Int64) (c v : Int) : Prop := 0 ≤ c → c ≤ 63 → (v = 1 ∧ bt z c.toNat = true) ∨ (v = 0 ∧ bt z c.toNat = false)
theorem HBT_1 {z : Int64} {c : Int} (h : (jushr z (Int32.ofInt c)) &&& 1 = 1) : HBT z c 1 := fun h0 h1 => Or.inl ⟨rfl, (bt_ushr h0 (by omega)).mp h⟩
theorem HBT_0 {z : Int64} {c : Int} (h : ¬ (jushr z (Int32.ofInt c)) &&& 1 = 1) : HBT z c 0 := fun h0 h1 => Or.inr ⟨rfl, by
  have q : ¬ bt z c.toNat = true := fun e => h ((bt_ushr h0 (by omega)).mpr e)
  simpa using q⟩
theorem HBT.yes {z : Int64} {c v : Int} (h : HBT z c v) (c0 : 0 ≤ c ∧ c ≤ 63) (hv : ¬ v = 0) : bt z c.toNat = true := (h c0.1 c0.2).elim (fun q => q.2) (fun q => absurd q.1 hv)
theorem HBT.no {z : Int64} {c v : Int} (h : HBT z c v) (c0 : 0 ≤ c ∧ c ≤ 63) (hv : v = 0) : bt z c.toNat = false := (h c0.1 c0.2).elim (fun q => absurd (q.1.symm.trans hv) (by decide)) (fun q => q.2)
/-- where a step may be gone there is a CELL -/
def OPW (o : OO) (w : Int) : Prop := ∀ c : Int, 0 ≤ c → c ≤ 63 → bt (o.2 72 w.toNat) c.toNat = true → 0 ≤ bsd c w
def OPN (o : OO) (n : Int) : Prop := ∀ w : Int, 0 ≤ w → w < n → OPW o w
theorem OPN_0 {o : OO} : OPN o 0 := fun w h0 h1 => absurd h1 (by omega)
theorem st2_eq {o : OO} {c i : Nat} {x : Int64} : (st2 o c i x).2 c i = x := by
  show (bif Nat.beq c c then vp_updL (o.2 c) i x else o.2 c) i = x
  rw [Nat.beq_refl]
  show (if i = i then x else o.2 c i) = x
  rw [if_pos rfl]
theorem st2_ne {o : OO} {c i j : Nat} {x : Int64} (h : ¬ j = i) : (st2 o c i x).2 c j = o.2 c j := by
  show (bif Nat.beq c c then vp_updL (o.2 c) i x else o.2 c) j = _
  rw [Nat.beq_refl]
  show (if j = i then x else o.2 c j) = _
  rw [if_neg h]
theorem OPW_0 {o : OO} {w : Int} : OPW (st2 o 72 w.toNat 0) w := by
  intro c c0 c1 h
  rw [st2_eq, bt_zero] at h
  cases h
theorem OPW_or {o : OO} {w c : Int} (h : OPW o w) (c0 : 0 ≤ c ∧ c ≤ 63) (hc : 0 ≤ bsd c w) : OPW (st2 o 72 w.toNat (o.2 72 w.toNat ||| jshl 1 (Int32.ofInt c))) w := by
  obtain ⟨n, rfl⟩ : ∃ n : Nat, c = (n : Int) := ⟨c.toNat, by omega⟩
  intro d d0 d1 hd
  rw [st2_eq, bt_or, bt_one (by omega) (by omega)] at hd
  by_cases e : d.toNat = n
  · have : d = (n : Int) := by omega
    rw [this]; exact hc
  · simp [e] at hd
    exact h d d0 d1 hd
theorem OPN_72 {o : OO} {n : Int} (h : OPN o n) (n0 : 0 ≤ n) (x : Int64) : OPN (st2 o 72 n.toNat x) n := by
  intro w w0 w1 c c0 c1 hb
  rw [st2_ne (by omega)] at hb
  exact h w w0 w1 c c0 c1 hb
theorem OPN_s {o : OO} {n : Int} (h : OPN o n) (hn : OPW o n) : OPN o (n + 1) := by
  intro w w0 w1
  rcases Classical.em (w = n) with e | e
  · subst e; exact hn
  · exact h w w0 (by omega)
theorem OPN.cg {o o' : OO} {n : Int} (h : OPN o n) (hf : ∀ j, o'.2 72 j = o.2 72 j) : OPN o' n := by
  intro w w0 w1 c c0 c1 hb
  rw [hf] at hb
  exact h w w0 w1 c c0 c1 hb
def BDC (o : OO) (K : Int) : Prop := (∀ c : Nat, c < 64 → -K ≤ o.1 75 c ∧ o.1 75 c ≤ K) ∧ ∀ k : Nat, k < 256 → -K ≤ o.1 76 k ∧ o.1 76 k ≤ K
theorem BDC.up {o : OO} {K K' : Int} (h : BDC o K) (hk : K ≤ K') : BDC o K' := ⟨fun c hc => by have := h.1 c hc; omega, fun c hc => by have := h.2 c hc; omega⟩
theorem BDC_75 {o : OO} {K x : Int} {i : Nat} (h : BDC o K) (hi : i < 64) (hx : -1 ≤ x - o.1 75 i ∧ x - o.1 75 i ≤ 1) : BDC (st1 o 75 i x) (K + 1) := by
  refine ⟨fun c hc => ?_, fun k hk => ?_⟩
  · by_cases e : c = i
    · rw [e, st1_eq]; have := h.1 i hi; omega
    · rw [st1_ne e]; have := h.1 c hc; omega
  · show -(K + 1) ≤ o.1 76 k ∧ o.1 76 k ≤ K + 1
    have := h.2 k hk; omega
theorem BDC_76 {o : OO} {K x : Int} {i : Nat} (h : BDC o K) (hi : i < 256) (hx : -1 ≤ x - o.1 76 i ∧ x - o.1 76 i ≤ 1) : BDC (st1 o 76 i x) (K + 1) := by
  refine ⟨fun c hc => ?_, fun k hk => ?_⟩
  · show -(K + 1) ≤ o.1 75 c ∧ o.1 75 c ≤ K + 1
    have := h.1 c hc; omega
  · by_cases e : k = i
    · rw [e, st1_eq]; have := h.2 i hi; omega
    · rw [st1_ne e]; have := h.2 k hk; omega
theorem BDC.cg {o o' : OO} {K : Int} (h1 : ∀ j, o'.1 75 j = o.1 75 j) (h2 : ∀ j, o'.1 76 j = o.1 76 j) (h : BDC o K) : BDC o' K :=
  ⟨fun c hc => by rw [h1]; exact h.1 c hc, fun c hc => by rw [h2]; exact h.2 c hc⟩
theorem BDC_0 {o : OO} (h1 : FP o 75 64 0) (h2 : FP o 76 256 0) : BDC o (128 * 0) :=
  ⟨fun c hc => by rw [h1 c (by omega)]; omega, fun c hc => by rw [h2 c (by omega)]; omega⟩
-- least COSTS of the class
def CFC (o : OO) : Int := CG (fun k => 999999999 - o.1 56 k) 256
def FNB (o : OO) : Prop := (∀ k : Nat, k < 256 → o.1 56 k < 1000000000 → o.1 56 k ≤ 3000 * CFC o) ∧ ∀ c : Nat, c < 64 → o.1 57 c < 1000000000 → o.1 57 c ≤ 3000 * CFC o
theorem CFC_rng (o : OO) : 0 ≤ CFC o ∧ CFC o ≤ 256 := by
  have := CG_le (f := fun k => 999999999 - o.1 56 k) (n := 256) (by omega)
  unfold CFC
  omega
theorem FNB_0 {o : OO} (h1 : FP o 56 256 1000000000) (h2 : FP o 57 64 1000000000) : FNB o := by
  refine ⟨fun k hk hf => ?_, fun c hc hf => ?_⟩
  · rw [h1 k (by omega)] at hf; omega
  · rw [h2 c (by omega)] at hf; omega
theorem FNB.cg {o o' : OO} (h1 : ∀ j, o'.1 56 j = o.1 56 j) (h2 : ∀ j, o'.1 57 j = o.1 57 j) (h : FNB o) : FNB o' := by
  have e : CFC o' = CFC o := CG_cg (fun k => by rw [h1])
  refine ⟨fun k hk hf => ?_, fun c hc hf => ?_⟩
  · rw [h1] at hf ⊢; rw [e]; exact h.1 k hk hf
  · rw [h2] at hf ⊢; rw [e]; exact h.2 c hc hf
theorem FNB_st {o : OO} {k c x l : Int} (h : FNB o) (k0 : 0 ≤ k ∧ k < 256) (c0 : 0 ≤ c ∧ c < 64) (hx : x < o.1 56 k.toNat) (hx0 : x ≤ 2995 + 3000 * CFC o) (hb : o.1 56 k.toNat ≤ 1000000000) (hl : l = min (o.1 57 c.toNat) x) : FNB (st1 (st1 o 56 k.toNat x) 57 c.toNat l) := by
  have e56 : ∀ j, (st1 (st1 o 56 k.toNat x) 57 c.toNat l).1 56 j = (st1 o 56 k.toNat x).1 56 j := fun _ => rfl
  have e57 : ∀ j, (st1 (st1 o 56 k.toNat x) 57 c.toNat l).1 57 j = if j = c.toNat then l else o.1 57 j := fun _ => rfl
  have e0 : CFC (st1 (st1 o 56 k.toNat x) 57 c.toNat l) = CG (fun j => if j = k.toNat then 999999999 - x else 999999999 - o.1 56 j) 256 := CG_cg (fun j => by
    show 999999999 - (if j = k.toNat then x else o.1 56 j) = _
    split <;> rfl)
  have key : x ≤ 3000 * CFC (st1 (st1 o 56 k.toNat x) 57 c.toNat l) ∧ CFC o ≤ CFC (st1 (st1 o 56 k.toNat x) 57 c.toNat l) := by
    by_cases q : o.1 56 k.toNat < 1000000000
    · have e : CFC (st1 (st1 o 56 k.toNat x) 57 c.toNat l) = CFC o := by
        rw [e0]
        exact CG_same (f := fun j => 999999999 - o.1 56 j) (i := k.toNat) (x := 999999999 - x) (by show 999999999 - o.1 56 k.toNat < 0 ↔ _; omega)
      have := h.1 k.toNat (by omega) q
      omega
    · have e : CFC (st1 (st1 o 56 k.toNat x) 57 c.toNat l) = CFC o + 1 := by
        rw [e0]
        exact CG_upd (f := fun j => 999999999 - o.1 56 j) (n := 256) (i := k) (x := 999999999 - x) k0.1 k0.2 (by show 999999999 - o.1 56 k.toNat < 0; omega) (by omega)
      omega
  refine ⟨fun j hj hf => ?_, fun j hj hf => ?_⟩
  · rw [e56] at hf ⊢
    by_cases e : j = k.toNat
    · rw [e, st1_eq]; omega
    · rw [st1_ne e] at hf ⊢
      have := h.1 j hj hf
      omega
  · rw [e57] at hf ⊢
    by_cases e : j = c.toNat
    · rw [if_pos e] at hf ⊢
      by_cases q : o.1 57 c.toNat < x
      · have := h.2 c.toNat (by omega) (by omega)
        omega
      · omega
    · rw [if_neg e] at hf ⊢
      have := h.2 j hj hf
      omega
-- WHITHER of the class: how low the leasts can come
def LB (o : OO) (b : Int) : Prop := ∀ j : Nat, j < 33 → (-b ≤ o.1 64 j ∧ o.1 64 j ≤ 14) ∧ -b ≤ o.1 61 j ∧ o.1 61 j ≤ 640
theorem LB.up {o : OO} {b b' : Int} (h : LB o b) (hb : b ≤ b') : LB o b' := fun j hj => by have := h j hj; omega
theorem LB_64 {o : OO} {b b' x : Int} {i : Nat} (h : LB o b) (hb : b ≤ b') (hx : -b' ≤ x ∧ x ≤ 14) : LB (st1 o 64 i x) b' := by
  intro j hj
  have q := h j hj
  refine ⟨?_, by show -b' ≤ o.1 61 j ∧ o.1 61 j ≤ 640; omega⟩
  by_cases e : j = i
  · rw [e, st1_eq]; exact hx
  · rw [st1_ne e]; omega
theorem LB_61 {o : OO} {b b' x : Int} {i : Nat} (h : LB o b) (hb : b ≤ b') (hx : -b' ≤ x ∧ x ≤ 640) : LB (st1 o 61 i x) b' := by
  intro j hj
  have q := h j hj
  refine ⟨by show -b' ≤ o.1 64 j ∧ o.1 64 j ≤ 14; omega, ?_⟩
  by_cases e : j = i
  · rw [e, st1_eq]; exact hx
  · rw [st1_ne e]; omega
theorem LB.cg {o o' : OO} {b : Int} (h1 : ∀ j, o'.1 64 j = o.1 64 j) (h2 : ∀ j, o'.1 61 j = o.1 61 j) (h : LB o b) : LB o' b := by
  intro j hj
  rw [h1, h2]
  exact h j hj
theorem LB_dec {o o' : OO} {b v n : Int} (h : LB o b) (e : o' = st1 o 61 v.toNat (n - 1)) (hn : n = o.1 61 v.toNat) (v0 : 0 ≤ v ∧ v ≤ 32) : LB o' (b + 20) := by
  subst e
  have q := h v.toNat (by omega)
  exact LB_61 h (by omega) (by omega)
theorem LB_st {o o' : OO} {b x : Int} {i : Nat} (h : LB o b) (b0 : 0 ≤ b) (e : o' = st1 o 61 i x) (hx : 0 ≤ x ∧ x ≤ 640) : LB o' b := by
  subst e
  exact LB_61 h (by omega) (by omega)
theorem LB_s4 {o o' : OO} {b x : Int} {i : Nat} (h : LB o b) (b0 : 0 ≤ b) (e : o' = st1 o 64 i x) (hx : 0 ≤ x ∧ x ≤ 14) : LB o' b := by
  subst e
  exact LB_64 h (by omega) (by omega)
