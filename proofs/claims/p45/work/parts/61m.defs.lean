-- TO STOP, of the reference: which CELLS can be come to
def CCt (o : OO) (s al : Int) (z : Int64) (c w : Int) : Prop := bt z c.toNat = true → LD o c (bsd c w) s → (¬ al = 0 ∨ o.1 58 (bsd c w).toNat = 0) → bt z (bsd c w).toNat = true
def CCW (o : OO) (s al : Int) (z : Int64) (c n : Int) : Prop := ∀ w : Int, 0 ≤ w → w < n → CCt o s al z c w
theorem CCW_0 {o : OO} {s al : Int} {z : Int64} {c : Int} : CCW o s al z c 0 := fun w h0 h1 => absurd h1 (by omega)
theorem CCW_s {o : OO} {s al : Int} {z : Int64} {c n : Int} (h : CCW o s al z c n) (hn : CCt o s al z c n) : CCW o s al z c (n + 1) := by
  intro w h0 h1
  rcases Classical.em (w = n) with e | e
  · subst e; exact hn
  · exact h w h0 (by omega)
def CCC (o : OO) (s al : Int) (z : Int64) (n : Int) : Prop := ∀ c : Int, 0 ≤ c → c < n → CCW o s al z c 4
theorem CCC_0 {o : OO} {s al : Int} {z : Int64} : CCC o s al z 0 := fun w h0 h1 => absurd h1 (by omega)
theorem CCC_s {o : OO} {s al : Int} {z z' : Int64} {n : Int} (e : z' = z) (h : CCC o s al z n) (hn : CCW o s al z' n 4) : CCC o s al z' (n + 1) := by
  subst e
  intro c h0 h1
  rcases Classical.em (c = n) with e | e
  · subst e; exact hn
  · exact h c h0 (by omega)
def ZG (o : OO) (al : Int) (y z : Int64) : Prop := ∀ c : Nat, c < 64 → (bt y c = true → bt z c = true) ∧ (bt z c = true → bt y c = true ∨ ¬ al = 0 ∨ o.1 58 c = 0)
theorem ZG_rf {o : OO} {al : Int} {z : Int64} : ZG o al z z := fun _ _ => ⟨id, Or.inl⟩
theorem ZG_tr {o : OO} {al : Int} {x y z : Int64} (h1 : ZG o al x y) (h2 : ZG o al y z) : ZG o al x z := by
  intro c hc
  refine ⟨fun h => (h2 c hc).1 ((h1 c hc).1 h), fun h => ?_⟩
  rcases (h2 c hc).2 h with q | q
  · exact (h1 c hc).2 q
  · exact Or.inr q
theorem ZG_or {o : OO} {al : Int} {y z : Int64} {d : Int} (h : ZG o al y z) (d0 : 0 ≤ d) (d1 : d ≤ 63) (hd : ¬ al = 0 ∨ o.1 58 d.toNat = 0) : ZG o al y (z ||| jshl 1 (Int32.ofInt d)) := by
  obtain ⟨n, rfl⟩ : ∃ n : Nat, d = (n : Int) := ⟨d.toNat, by omega⟩
  have hd : ¬ al = 0 ∨ o.1 58 n = 0 := hd
  intro c hc
  rw [bt_or, bt_one (by omega) hc]
  refine ⟨fun q => by rw [(h c hc).1 q]; rfl, fun q => ?_⟩
  by_cases e : c = n
  · subst e; exact Or.inr hd
  · simp [e] at q
    exact (h c hc).2 q
def CMS (o : OO) (a b s al : Int) : Prop := ∃ z : Int64, bt z a.toNat = true ∧ bt z b.toNat = false ∧ (∀ c : Int, 0 ≤ c → c ≤ 63 → bt z c.toNat = true → c = a ∨ ¬ al = 0 ∨ o.1 58 c.toNat = 0) ∧ CCC o s al z 64
theorem CMS_of {o : OO} {a b s al : Int} {z : Int64} (a0 : 0 ≤ a ∧ a ≤ 63) (hb : bt z b.toNat = false) (hg : ZG o al (jshl 1 (Int32.ofInt a)) z) (hc : CCC o s al z 64) : CMS o a b s al := by
  obtain ⟨n, rfl⟩ : ∃ n : Nat, a = (n : Int) := ⟨a.toNat, by omega⟩
  have hn : n < 64 := by omega
  refine ⟨z, (hg n hn).1 (by rw [bt_one hn hn]; simp), hb, fun c c0 c1 h => ?_, hc⟩
  rcases (hg c.toNat (by omega)).2 h with q | q
  · rw [bt_one hn (by omega)] at q
    have : c.toNat = n := by simpa using q
    exact Or.inl (by omega)
  · exact Or.inr q
/-- an arc that may be gone from node y to node x: 2c is CELL c come to, 2c+1 CELL c left -/
def ARC (o : OO) (s y x : Int) : Prop :=
  (y % 2 = 1 ∧ x % 2 = 0 ∧ ∃ w : Int, 0 ≤ w ∧ w ≤ 3 ∧ x / 2 = bsd (y / 2) w ∧ LD o (y / 2) (x / 2) s) ∨
  (y % 2 = 0 ∧ x % 2 = 1 ∧ ∃ w : Int, 0 ≤ w ∧ w ≤ 3 ∧ x / 2 = bsd (y / 2) w ∧ 0 < o.1 60 (4 * (x / 2) + 3 - w).toNat) ∨
  (y % 2 = 0 ∧ x = y + 1 ∧ (o.1 58 (y / 2).toNat = 0 ∨ o.1 59 (y / 2).toNat ≤ 0)) ∨
  (y % 2 = 1 ∧ x = y - 1 ∧ 0 < o.1 59 (y / 2).toNat)
theorem ARC_A {o : OO} {s y c d w r : Int} (hy : y % 2 = 1) (hc : c = y / 2) (hd : d = bsd c w) (w0 : 0 ≤ w ∧ w ≤ 3) (hl : s_X12_leads o c d s = some r) (hr : ¬ r = 0) : ARC o s y (2 * d) := by
  have e : (2 * d) / 2 = d := by omega
  refine Or.inl ⟨hy, by omega, w, w0.1, w0.2, ?_, ?_⟩
  · rw [e, ← hc]; exact hd
  · rw [e, ← hc]; exact ⟨r, hl, hr⟩
theorem ARC_B {o : OO} {s y c d w : Int} (hy : y % 2 = 0) (hc : c = y / 2) (hd : d = bsd c w) (w0 : 0 ≤ w ∧ w ≤ 3) (hn : 0 < o.1 60 (4 * d + 3 - w).toNat) : ARC o s y (2 * d + 1) := by
  have e : (2 * d + 1) / 2 = d := by omega
  refine Or.inr (Or.inl ⟨hy, by omega, w, w0.1, w0.2, ?_, ?_⟩)
  · rw [e, ← hc]; exact hd
  · rw [e]; exact hn
theorem ARC_C {o : OO} {s y c : Int} (hy : y % 2 = 0) (hc : c = y / 2) (h : o.1 58 c.toNat = 0 ∨ o.1 59 c.toNat ≤ 0) : ARC o s y (y + 1) := by
  subst hc
  exact Or.inr (Or.inr (Or.inl ⟨hy, rfl, h⟩))
theorem ARC_D {o : OO} {s y c : Int} (hy : y % 2 = 1) (hc : c = y / 2) (h : 0 < o.1 59 c.toNat) : ARC o s y (y - 1) := by
  subst hc
  exact Or.inr (Or.inr (Or.inr ⟨hy, rfl, h⟩))
theorem ARC.cg {o o' : OO} (h11 : o'.1 11 = o.1 11) (h12 : o'.1 12 = o.1 12) (h58 : o'.1 58 = o.1 58) (h59 : o'.1 59 = o.1 59) (h60 : o'.1 60 = o.1 60) {s y x : Int} (h : ARC o s y x) : ARC o' s y x := by
  have hl : ∀ c d : Int, LD o c d s → LD o' c d s := by
    intro c d q
    obtain ⟨v, q1, q2⟩ := q
    exact ⟨v, by rw [leads_cg h11 h12]; exact q1, q2⟩
  rcases h with ⟨a, b, w, q1, q2, q3, q4⟩ | ⟨a, b, w, q1, q2, q3, q4⟩ | ⟨a, b, q⟩ | ⟨a, b, q⟩
  · exact Or.inl ⟨a, b, w, q1, q2, q3, hl _ _ q4⟩
  · exact Or.inr (Or.inl ⟨a, b, w, q1, q2, q3, by rw [h60]; exact q4⟩)
  · exact Or.inr (Or.inr (Or.inl ⟨a, b, by rw [h58, h59]; exact q⟩))
  · exact Or.inr (Or.inr (Or.inr ⟨a, b, by rw [h59]; exact q⟩))
/-- ranks of the nodes that are seen -/
def RK (o : OO) (root : Int) (r : Int → Int) (t : Int) : Prop := 0 ≤ root ∧ root ≤ 127 ∧ o.1 61 root.toNat = root ∧ (∀ x : Int, 0 ≤ x → x ≤ 127 → 0 ≤ o.1 61 x.toNat → 0 ≤ r x ∧ r x < t) ∧ ∀ x : Int, 0 ≤ x → x ≤ 127 → 0 ≤ o.1 61 x.toNat → ¬ x = root → 0 ≤ o.1 61 (o.1 61 x.toNat).toNat ∧ r (o.1 61 x.toNat) < r x
def ARS (o : OO) (s root : Int) : Prop := ∀ x : Int, 0 ≤ x → x ≤ 127 → 0 ≤ o.1 61 x.toNat → ¬ x = root → ARC o s (o.1 61 x.toNat) x
/-- the search so far: t nodes seen -/
def FI (o : OO) (s t : Int) : Prop := t = CG (o.1 61) 128 ∧ (∀ j : Int, 0 ≤ j → j < t → 0 ≤ o.1 61 (o.1 62 j.toNat).toNat) ∧ ∃ root r, RK o root r t ∧ ARS o s root
theorem FI.t128 {o : OO} {s t : Int} (h : FI o s t) : t ≤ 128 ∧ 0 ≤ t := by
  have := CG_le (f := o.1 61) (n := 128) (by omega)
  have := h.1
  omega
theorem FI.lt {o : OO} {s t x : Int} (h : FI o s t) (x0 : 0 ≤ x ∧ x ≤ 127) (hx : o.1 61 x.toNat < 0) : t < 128 := by
  have := CG_lt (f := o.1 61) (n := 128) (i := x) x0.1 (by omega) hx
  have := h.1
  omega
theorem FI_add {o : OO} {s t x y : Int} (hB : BoxM o) (h : FI o s t) (x0 : 0 ≤ x ∧ x ≤ 127) (y0 : 0 ≤ y ∧ y ≤ 127) (hx : o.1 61 x.toNat < 0) (hy : 0 ≤ o.1 61 y.toNat) (ha : ARC o s y x) : FI (st1 (st1 o 61 x.toNat y) 62 t.toNat x) s (t + 1) := by
  have ht := h.t128
  obtain ⟨h1, h2, root, r, ⟨r0, r1, r2, r3, r4⟩, h4⟩ := h
  have e61 : ∀ k, (st1 (st1 o 61 x.toNat y) 62 t.toNat x).1 61 k = (st1 o 61 x.toNat y).1 61 k := fun _ => rfl
  have ex : (st1 o 61 x.toNat y).1 61 x.toNat = y := st1_eq
  have en : ∀ k : Int, 0 ≤ k → ¬ k = x → (st1 o 61 x.toNat y).1 61 k.toNat = o.1 61 k.toNat := fun k k0 hk => st1_ne (by omega)
  have hrx : ¬ root = x := fun e => by subst e; omega
  have hyx : ¬ y = x := fun e => by subst e; omega
  have hcg : CG ((st1 (st1 o 61 x.toNat y) 62 t.toNat x).1 61) 128 = CG (o.1 61) 128 + 1 := CG_upd (f := o.1 61) x0.1 (by omega) hx y0.1
  have hcl : ∀ {z u : Int}, ARC o s z u → ARC (st1 (st1 o 61 x.toNat y) 62 t.toNat x) s z u := fun q => q.cg rfl rfl rfl rfl rfl
  refine ⟨by omega, ?_, root, (fun k => if k = x then t else r k), ⟨r0, r1, ?_, ?_, ?_⟩, ?_⟩
  · intro j j0 j1
    rw [e61]
    rcases Classical.em (j = t) with e | e
    · rw [e, show (st1 (st1 o 61 x.toNat y) 62 t.toNat x).1 62 t.toNat = x from st1_eq, ex]; exact y0.1
    · rw [show (st1 (st1 o 61 x.toNat y) 62 t.toNat x).1 62 j.toNat = o.1 62 j.toNat from st1_ne (by omega)]
      have b := bM_62 hB j.toNat
      have q := h2 j j0 (by omega)
      rw [en _ b.1 (fun e2 => by rw [e2] at q; omega)]
      exact q
  · rw [e61, en root r0 hrx]; exact r2
  · intro k k0 k1 hk
    rw [e61] at hk
    show 0 ≤ (if k = x then t else r k) ∧ (if k = x then t else r k) < t + 1
    by_cases e : k = x
    · rw [if_pos e]; omega
    · rw [if_neg e]
      rw [en k k0 e] at hk
      have := r3 k k0 k1 hk
      omega
  · intro k k0 k1 hk hkr
    rw [e61] at hk
    rw [e61, e61]
    show 0 ≤ _ ∧ (if (st1 o 61 x.toNat y).1 61 k.toNat = x then t else r ((st1 o 61 x.toNat y).1 61 k.toNat)) < (if k = x then t else r k)
    by_cases e : k = x
    · subst e
      rw [ex, if_neg hyx, if_pos rfl, en y y0.1 hyx]
      exact ⟨hy, (r3 y y0.1 y0.2 hy).2⟩
    · rw [en k k0 e] at hk ⊢
      have q := r4 k k0 k1 hk hkr
      have b := bM_61 hB k.toNat
      have hne : ¬ o.1 61 k.toNat = x := fun e2 => by rw [e2] at q; omega
      rw [if_neg hne, if_neg e, en _ hk hne]
      exact q
  · intro k k0 k1 hk hkr
    rw [e61] at hk ⊢
    by_cases e : k = x
    · subst e
      rw [ex]; exact hcl ha
    · rw [en k k0 e] at hk ⊢
      exact hcl (h4 k k0 k1 hk hkr)
theorem FI_0 {o : OO} {s root : Int} (hB : BoxM o) (r0 : 0 ≤ root ∧ root ≤ 127) (h : FP o 61 128 (-9)) : FI (st1 (st1 o 62 0 root) 61 root.toNat root) s 1 := by
  have e61 : ∀ k : Int, 0 ≤ k → k ≤ 127 → ¬ k = root → (st1 (st1 o 62 0 root) 61 root.toNat root).1 61 k.toNat = -9 := fun k k0 k1 hk => by
    rw [show (st1 (st1 o 62 0 root) 61 root.toNat root).1 61 k.toNat = o.1 61 k.toNat from st1_ne (by omega)]
    exact h k.toNat (by omega)
  have er : (st1 (st1 o 62 0 root) 61 root.toNat root).1 61 root.toNat = root := st1_eq
  have e0 : CG (o.1 61) 128 = 0 := CG_none (fun j hj => by rw [h j hj]; decide)
  have hcg : CG ((st1 (st1 o 62 0 root) 61 root.toNat root).1 61) 128 = CG (o.1 61) 128 + 1 := CG_upd (f := o.1 61) r0.1 (by omega) (by rw [h root.toNat (by omega)]; decide) r0.1
  refine ⟨by omega, ?_, root, (fun _ => 0), ⟨r0.1, r0.2, er, fun _ _ _ _ => by show (0 : Int) ≤ 0 ∧ (0 : Int) < 1; omega, ?_⟩, ?_⟩
  · intro j j0 j1
    have : j.toNat = 0 := by omega
    rw [this]
    show 0 ≤ (st1 (st1 o 62 0 root) 61 root.toNat root).1 61 ((st1 o 62 0 root).1 62 0).toNat
    rw [show (st1 o 62 0 root).1 62 0 = root from st1_eq, er]
    exact r0.1
  · intro x x0 x1 hx hr
    rw [e61 x x0 x1 hr] at hx
    omega
  · intro x x0 x1 hx hr
    rw [e61 x x0 x1 hr] at hx
    omega
/-- what a search leaves -/
def FND (o : OO) (s root : Int) : Prop := (∃ r t, t ≤ 128 ∧ RK o root r t) ∧ ARS o s root
theorem FND_of {o : OO} {s t a : Int} (h : FI o s t) (a0 : 0 ≤ a ∧ a ≤ 127) (ha : o.1 61 a.toNat = a) : FND o s a := by
  have ht := h.t128
  obtain ⟨h1, h2, root, r, h3, h4⟩ := h
  have : root = a := by
    apply Classical.byContradiction
    intro hn
    have q := h3.2.2.2.2 a a0.1 a0.2 (by omega) (fun e => hn e.symm)
    rw [ha] at q
    omega
  subst this
  exact ⟨⟨r, t, ht.1, h3⟩, h4⟩
