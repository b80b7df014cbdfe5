-- one more way of the reference's flow
noncomputable def RF (o : OO) (root : Int) : Int → Int := @dite (Int → Int) (∃ r t, t ≤ 128 ∧ RK o root r t) (Classical.propDecidable _) (fun h => Classical.choose h) (fun _ _ => 0)
theorem RF_spec {o : OO} {root : Int} (h : ∃ r t, t ≤ 128 ∧ RK o root r t) : ∃ t, t ≤ 128 ∧ RK o root (RF o root) t := by
  have e : RF o root = Classical.choose h := by unfold RF; exact dif_pos h
  rw [e]
  exact Classical.choose_spec h
def FNX (o : OO) (root : Int) : Prop := ∃ s, FND o s root
def BD (o : OO) (K : Int) : Prop := (∀ c : Nat, c < 64 → -K ≤ o.1 59 c ∧ o.1 59 c ≤ K) ∧ ∀ k : Nat, k < 256 → -K ≤ o.1 60 k ∧ o.1 60 k ≤ K
theorem BD.up {o : OO} {K K' : Int} (h : BD o K) (hk : K ≤ K') : BD o K' := ⟨fun c hc => by have := h.1 c hc; omega, fun c hc => by have := h.2 c hc; omega⟩
theorem BD_59 {o : OO} {K x : Int} {i : Nat} (h : BD o K) (hi : i < 64) (hx : -1 ≤ x - o.1 59 i ∧ x - o.1 59 i ≤ 1) : BD (st1 o 59 i x) (K + 1) := by
  refine ⟨fun c hc => ?_, fun k hk => ?_⟩
  · by_cases e : c = i
    · rw [e, st1_eq]; have := h.1 i hi; omega
    · rw [st1_ne e]; have := h.1 c hc; omega
  · show -(K + 1) ≤ o.1 60 k ∧ o.1 60 k ≤ K + 1
    have := h.2 k hk; omega
theorem BD_60 {o : OO} {K x : Int} {i : Nat} (h : BD o K) (hi : i < 256) (hx : -1 ≤ x - o.1 60 i ∧ x - o.1 60 i ≤ 1) : BD (st1 o 60 i x) (K + 1) := by
  refine ⟨fun c hc => ?_, fun k hk => ?_⟩
  · show -(K + 1) ≤ o.1 59 c ∧ o.1 59 c ≤ K + 1
    have := h.1 c hc; omega
  · by_cases e : k = i
    · rw [e, st1_eq]; have := h.2 i hi; omega
    · rw [st1_ne e]; have := h.2 k hk; omega
def LG (o : OO) (s : Int) : Prop := (∀ c w : Int, 0 ≤ c → c ≤ 63 → 0 ≤ w → w ≤ 3 → 0 ≤ o.1 60 (4 * c + w).toNat ∧ (0 < o.1 60 (4 * c + w).toNat → LD o c (bsd c w) s)) ∧ ∀ c : Int, 0 ≤ c → c ≤ 63 → ¬ o.1 58 c.toNat = 0 → o.1 59 c.toNat ≤ 1
theorem LD.same {o o' : OO} (h11 : o'.1 11 = o.1 11) (h12 : o'.1 12 = o.1 12) {c d s : Int} (h : LD o c d s) : LD o' c d s := by
  obtain ⟨v, q1, q2⟩ := h
  exact ⟨v, by rw [leads_cg h11 h12]; exact q1, q2⟩
theorem sumW_upd {f w : Nat → Int} {i n : Nat} {x : Int} (hi : i < n) : sumN (fun j => (if j = i then x else f j) * w j) n = sumN (fun j => f j * w j) n + (x - f i) * w i := by
  have e : sumN (fun j => (if j = i then x else f j) * w j) n = sumN (fun j => if j = i then x * w i else f j * w j) n := by
    apply sumN_cg
    intro j _
    by_cases h : j = i
    · rw [if_pos h, if_pos h, h]
    · rw [if_neg h, if_neg h]
  have e2 : sumN (fun j => if j = i then x * w i else (fun j => f j * w j) j) n = sumN (fun j => f j * w j) n - f i * w i + x * w i := sumN_upd hi
  have e3 : (x - f i) * w i = x * w i - f i * w i := Int.sub_mul x (f i) (w i)
  have e2 : sumN (fun j => if j = i then x * w i else f j * w j) n = sumN (fun j => f j * w j) n - f i * w i + x * w i := e2
  omega
def PHI (T : Int → Int) (o : OO) : Int := sumN (fun c => o.1 59 c * (T (2 * (c : Int)) - T (2 * (c : Int) + 1))) 64 + sumN (fun k => o.1 60 k * (T (2 * ((k : Int) / 4) + 1) - T (2 * bsd ((k : Int) / 4) ((k : Int) % 4)))) 256
theorem PHI_59 {T : Int → Int} {o : OO} {i : Nat} {x : Int} (hi : i < 64) : PHI T (st1 o 59 i x) = PHI T o + (x - o.1 59 i) * (T (2 * (i : Int)) - T (2 * (i : Int) + 1)) := by
  have h := sumW_upd (f := o.1 59) (w := fun c => T (2 * (c : Int)) - T (2 * (c : Int) + 1)) (x := x) hi
  have e : PHI T (st1 o 59 i x) = sumN (fun j => (if j = i then x else o.1 59 j) * (fun c : Nat => T (2 * (c : Int)) - T (2 * (c : Int) + 1)) j) 64 + sumN (fun k => o.1 60 k * (T (2 * ((k : Int) / 4) + 1) - T (2 * bsd ((k : Int) / 4) ((k : Int) % 4)))) 256 := rfl
  rw [e, h]
  unfold PHI
  omega
theorem PHI_60 {T : Int → Int} {o : OO} {i : Nat} {x : Int} (hi : i < 256) : PHI T (st1 o 60 i x) = PHI T o + (x - o.1 60 i) * (T (2 * ((i : Int) / 4) + 1) - T (2 * bsd ((i : Int) / 4) ((i : Int) % 4))) := by
  have h := sumW_upd (f := o.1 60) (w := fun k => T (2 * ((k : Int) / 4) + 1) - T (2 * bsd ((k : Int) / 4) ((k : Int) % 4))) (x := x) hi
  have e : PHI T (st1 o 60 i x) = sumN (fun c => o.1 59 c * (T (2 * (c : Int)) - T (2 * (c : Int) + 1))) 64 + sumN (fun j => (if j = i then x else o.1 60 j) * (fun k : Nat => T (2 * ((k : Int) / 4) + 1) - T (2 * bsd ((k : Int) / 4) ((k : Int) % 4))) j) 256 := rfl
  rw [e, h]
  unfold PHI
  omega
theorem bsd_ne {c w : Int} (c0 : 0 ≤ c) : ¬ c = bsd c w := by
  unfold bsd
  split
  · split <;> omega
  · split
    · split <;> omega
    · split
      · split <;> omega
      · split
        · split <;> omega
        · omega
theorem bsd_inj {c w w' : Int} (c0 : 0 ≤ c ∧ c ≤ 63) (w0 : 0 ≤ w ∧ w ≤ 3) (w0' : 0 ≤ w' ∧ w' ≤ 3) (h : bsd c w = bsd c w') (hd : 0 ≤ bsd c w) : w = w' := by
  have g1 := bsd_geo (u := c) (y := w) (d := bsd c w) c0 rfl hd
  have g2 := bsd_geo (u := c) (y := w') (d := bsd c w') c0 rfl (by omega)
  rw [← h] at g2
  omega
theorem ARC.gen {o o' : OO} {s y x : Int} (h11 : o'.1 11 = o.1 11) (h12 : o'.1 12 = o.1 12) (h58 : o'.1 58 = o.1 58) (ha : y % 2 = 0 → x = y + 1 → o.1 59 (y / 2).toNat ≤ 0 → o'.1 59 (y / 2).toNat ≤ 0) (hb : y % 2 = 1 → x = y - 1 → 0 < o.1 59 (y / 2).toNat → 0 < o'.1 59 (y / 2).toNat) (hc : ∀ w : Int, 0 ≤ w → w ≤ 3 → x % 2 = 1 → 0 < o.1 60 (4 * (x / 2) + 3 - w).toNat → 0 < o'.1 60 (4 * (x / 2) + 3 - w).toNat) (h : ARC o s y x) : ARC o' s y x := by
  rcases h with ⟨a, b, w, q1, q2, q3, q4⟩ | ⟨a, b, w, q1, q2, q3, q4⟩ | ⟨a, b, q⟩ | ⟨a, b, q⟩
  · exact Or.inl ⟨a, b, w, q1, q2, q3, q4.same h11 h12⟩
  · exact Or.inr (Or.inl ⟨a, b, w, q1, q2, q3, hc w q1 q2 b q4⟩)
  · exact Or.inr (Or.inr (Or.inl ⟨a, b, by rw [h58]; exact q.imp id (ha a b)⟩))
  · exact Or.inr (Or.inr (Or.inr ⟨a, b, hb a b q⟩))
def ARU (o : OO) (s root : Int) (r : Int → Int) (m : Int) : Prop := ∀ x : Int, 0 ≤ x → x ≤ 127 → 0 ≤ o.1 61 x.toNat → ¬ x = root → r x ≤ m → ARC o s (o.1 61 x.toNat) x
def GIV (i o : OO) (root x z : Int) : Prop := (∀ K, BD i K → BD o (K + 128 - RF i root x)) ∧ (∀ s, ARS i s root → LG i s → LG o s ∧ ARU o s root (RF i root) (RF i root x)) ∧ ∀ T, PHI T o = PHI T i + T x - T z
theorem GIV_0 {i : OO} {root z : Int} (h : FNX i root) (z0 : 0 ≤ z ∧ z ≤ 127) (hz : 0 ≤ i.1 61 z.toNat) : GIV i i root z z := by
  obtain ⟨s, h1, h2⟩ := h
  obtain ⟨t, ht, h3⟩ := RF_spec h1
  have := h3.2.2.2.1 z z0.1 z0.2 hz
  exact ⟨fun K hK => hK.up (by omega), fun s hs hl => ⟨hl, fun x x0 x1 hx hr _ => hs x x0 x1 hx hr⟩, fun T => by omega⟩
/-- the four kinds of a step -/
theorem GIV_step {i o o' : OO} {root x z y : Int} (h61 : o.1 61 = i.1 61) (hF : FNX i root) (x0 : 0 ≤ x ∧ x ≤ 127) (hx : 0 ≤ i.1 61 x.toNat) (hr : ¬ x = root) (hy : y = i.1 61 x.toNat) (y1 : y ≤ 127) (h : GIV i o root x z)
    (h11 : o'.1 11 = o.1 11) (h12 : o'.1 12 = o.1 12) (h58 : o'.1 58 = o.1 58) (h61' : o'.1 61 = o.1 61)
    (hb : ∀ K, BD o K → BD o' (K + 1))
    (hl : ∀ s, ARC o s y x → LG o s → LG o' s)
    (hbx : ∀ k, i.1 61 k ≤ 127)
    (ha : ∀ s u v, 0 ≤ u → 0 ≤ v → v ≤ 127 → ¬ v = x → ARC o s u v → ARC o' s u v)
    (hp : ∀ T, PHI T o' = PHI T o + T y - T x) : GIV i o' root y z ∧ 0 ≤ i.1 61 y.toNat ∧ RF i root y < RF i root x ∧ 0 ≤ RF i root y := by
  obtain ⟨s0, g1, g2⟩ := hF
  obtain ⟨t, ht, h3⟩ := RF_spec g1
  have q := h3.2.2.2.2 x x0.1 x0.2 hx hr
  rw [← hy] at q
  have q0 := h3.2.2.2.1 y (by omega) y1 q.1
  refine ⟨⟨fun K hK => (hb _ (h.1 K hK)).up (by omega), fun s hs hlg => ?_, fun T => by have := h.2.2 T; have := hp T; omega⟩, q.1, q.2, q0.1⟩
  obtain ⟨l1, l2⟩ := h.2.1 s hs hlg
  have hxa : ARC o s y x := by
    have := l2 x x0.1 x0.2 (by rw [h61]; exact hx) hr (Int.le_refl _)
    rw [h61, ← hy] at this
    exact this
  refine ⟨hl s hxa l1, fun v v0 v1 hv hvr hm => ?_⟩
  rw [h61'] at hv ⊢
  have hne : ¬ v = x := fun e => by subst e; omega
  exact ha s _ v hv v0 v1 hne (l2 v v0 v1 hv hvr (by omega))
theorem arc_of {i : OO} {root x y : Int} (hF : FNX i root) (x0 : 0 ≤ x ∧ x ≤ 127) (hx : 0 ≤ i.1 61 x.toNat) (hr : ¬ x = root) (hy : y = i.1 61 x.toNat) : (y % 2 = 1 ∧ x % 2 = 0 ∧ ∃ w : Int, 0 ≤ w ∧ w ≤ 3 ∧ x / 2 = bsd (y / 2) w) ∨ (y % 2 = 0 ∧ x % 2 = 1 ∧ ∃ w : Int, 0 ≤ w ∧ w ≤ 3 ∧ x / 2 = bsd (y / 2) w) ∨ (y % 2 = 0 ∧ x = y + 1) ∨ (y % 2 = 1 ∧ x = y - 1) := by
  obtain ⟨s0, g1, g2⟩ := hF
  have q := g2 x x0.1 x0.2 hx hr
  rw [← hy] at q
  rcases q with ⟨a, b, w, q1, q2, q3, q4⟩ | ⟨a, b, w, q1, q2, q3, q4⟩ | ⟨a, b, q⟩ | ⟨a, b, q⟩
  · exact Or.inl ⟨a, b, w, q1, q2, q3⟩
  · exact Or.inr (Or.inl ⟨a, b, w, q1, q2, q3⟩)
  · exact Or.inr (Or.inr (Or.inl ⟨a, b⟩))
  · exact Or.inr (Or.inr (Or.inr ⟨a, b⟩))
theorem G_up {i o : OO} {root x z y c : Int} (hbx : ∀ k, i.1 61 k ≤ 127) (h61 : o.1 61 = i.1 61) (hF : FNX i root) (x0 : 0 ≤ x ∧ x ≤ 127) (hx : 0 ≤ i.1 61 x.toNat) (hr : ¬ x = root) (hy : y = i.1 61 x.toNat) (y1 : 0 ≤ y ∧ y ≤ 127) (h : GIV i o root x z) (hc : c = y / 2) (hd : c = x / 2) (hp : x % 2 = 1) : GIV i (st1 o 59 c.toNat (o.1 59 c.toNat + 1)) root y z ∧ 0 ≤ i.1 61 y.toNat ∧ RF i root y < RF i root x ∧ 0 ≤ RF i root y := by
  have geo := arc_of hF x0 hx hr hy
  have hxy : x = y + 1 := by
    rcases geo with ⟨a, b, w, q1, q2, q3⟩ | ⟨a, b, w, q1, q2, q3⟩ | ⟨a, b⟩ | ⟨a, b⟩
    · omega
    · have := bsd_ne (c := y / 2) (w := w) (by omega); omega
    · exact b
    · omega
  refine GIV_step h61 hF x0 hx hr hy y1.2 h rfl rfl rfl rfl (fun K hK => BD_59 hK (by omega) (by omega)) ?_ hbx ?_ ?_
  · intro s hs hl
    refine ⟨fun c' w c0 c1 w0 w1 => ⟨(hl.1 c' w c0 c1 w0 w1).1, fun q => ((hl.1 c' w c0 c1 w0 w1).2 q).same rfl rfl⟩, fun c' c0 c1 hb => ?_⟩
    have hb : ¬ o.1 58 c'.toNat = 0 := hb
    by_cases e : c'.toNat = c.toNat
    · rw [e, st1_eq]
      rw [e] at hb
      rcases hs with ⟨a, b, _⟩ | ⟨a, b, w, q1, q2, q3, q4⟩ | ⟨a, b, q⟩ | ⟨a, b, q⟩
      · omega
      · have := bsd_ne (c := y / 2) (w := w) (by omega); omega
      · rw [← hc] at q
        rcases q with q | q
        · exact absurd q hb
        · omega
      · omega
    · rw [st1_ne e]; exact hl.2 c' c0 c1 hb
  · intro s u v u0 v0 v1 hv ha
    refine ARC.gen (o := o) rfl rfl rfl ?_ ?_ (fun _ _ _ _ q => q) ha
    · intro e1 e q
      have e2 : ¬ (u / 2).toNat = c.toNat := by omega
      rw [st1_ne e2]; exact q
    · intro e1 e q
      by_cases e2 : (u / 2).toNat = c.toNat
      · rw [e2, st1_eq]; rw [e2] at q; omega
      · rw [st1_ne e2]; exact q
  · intro T
    rw [PHI_59 (by omega), show o.1 59 c.toNat + 1 - o.1 59 c.toNat = 1 by omega, Int.one_mul, show ((c.toNat : Nat) : Int) = c by omega, show 2 * c = y by omega, ← hxy]
    omega
theorem G_down {i o : OO} {root x z y c : Int} (hbx : ∀ k, i.1 61 k ≤ 127) (h61 : o.1 61 = i.1 61) (hF : FNX i root) (x0 : 0 ≤ x ∧ x ≤ 127) (hx : 0 ≤ i.1 61 x.toNat) (hr : ¬ x = root) (hy : y = i.1 61 x.toNat) (y1 : 0 ≤ y ∧ y ≤ 127) (h : GIV i o root x z) (hc : c = y / 2) (hd : c = x / 2) (hp : ¬ x % 2 = 1) : GIV i (st1 o 59 c.toNat (o.1 59 c.toNat + -1)) root y z ∧ 0 ≤ i.1 61 y.toNat ∧ RF i root y < RF i root x ∧ 0 ≤ RF i root y := by
  have geo := arc_of hF x0 hx hr hy
  have hxy : y = x + 1 := by
    rcases geo with ⟨a, b, w, q1, q2, q3⟩ | ⟨a, b, w, q1, q2, q3⟩ | ⟨a, b⟩ | ⟨a, b⟩
    · have := bsd_ne (c := y / 2) (w := w) (by omega); omega
    · omega
    · omega
    · omega
  refine GIV_step h61 hF x0 hx hr hy y1.2 h rfl rfl rfl rfl (fun K hK => BD_59 hK (by omega) (by omega)) ?_ hbx ?_ ?_
  · intro s hs hl
    refine ⟨fun c' w c0 c1 w0 w1 => ⟨(hl.1 c' w c0 c1 w0 w1).1, fun q => ((hl.1 c' w c0 c1 w0 w1).2 q).same rfl rfl⟩, fun c' c0 c1 hb => ?_⟩
    have hb : ¬ o.1 58 c'.toNat = 0 := hb
    have q := hl.2 c' c0 c1 hb
    by_cases e : c'.toNat = c.toNat
    · rw [e, st1_eq]; rw [e] at q; omega
    · rw [st1_ne e]; exact q
  · intro s u v u0 v0 v1 hv ha
    refine ARC.gen (o := o) rfl rfl rfl ?_ ?_ (fun _ _ _ _ q => q) ha
    · intro e1 e q
      by_cases e2 : (u / 2).toNat = c.toNat
      · rw [e2, st1_eq]; rw [e2] at q; omega
      · rw [st1_ne e2]; exact q
    · intro e1 e q
      have e2 : ¬ (u / 2).toNat = c.toNat := by omega
      rw [st1_ne e2]; exact q
  · intro T
    rw [PHI_59 (by omega), show o.1 59 c.toNat + -1 - o.1 59 c.toNat = -1 by omega, show ((c.toNat : Nat) : Int) = c by omega, show 2 * c = x by omega, ← hxy]
    omega
theorem G_out {i o : OO} {root x z y c d w k : Int} (hbx : ∀ k, i.1 61 k ≤ 127) (h61 : o.1 61 = i.1 61) (hF : FNX i root) (x0 : 0 ≤ x ∧ x ≤ 127) (hx : 0 ≤ i.1 61 x.toNat) (hr : ¬ x = root) (hy : y = i.1 61 x.toNat) (y1 : 0 ≤ y ∧ y ≤ 127) (h : GIV i o root x z) (hc : c = y / 2) (hd : d = x / 2) (hcd : ¬ c = d) (hp : y % 2 = 1) (w0 : 0 ≤ w ∧ w ≤ 3) (hw : bsd c w = d) (hk : k = 4 * c + w) : GIV i (st1 o 60 k.toNat (o.1 60 k.toNat + 1)) root y z ∧ 0 ≤ i.1 61 y.toNat ∧ RF i root y < RF i root x ∧ 0 ≤ RF i root y := by
  have geo := arc_of hF x0 hx hr hy
  have hxy : x = 2 * d ∧ y = 2 * c + 1 := by
    rcases geo with ⟨a, b, w, q1, q2, q3⟩ | ⟨a, b, w, q1, q2, q3⟩ | ⟨a, b⟩ | ⟨a, b⟩ <;> omega
  refine GIV_step h61 hF x0 hx hr hy y1.2 h rfl rfl rfl rfl (fun K hK => BD_60 hK (by omega) (by omega)) ?_ hbx ?_ ?_
  · intro s hs hl
    refine ⟨fun c' w' c0 c1 w0' w1' => ?_, hl.2⟩
    have q := hl.1 c' w' c0 c1 w0' w1'
    by_cases e : (4 * c' + w').toNat = k.toNat
    · have e1 : c' = c := by omega
      have e2 : w' = w := by omega
      subst e1 e2
      rw [e, st1_eq]
      rw [e] at q
      refine ⟨by omega, fun _ => ?_⟩
      rw [hw]
      rcases hs with ⟨a, b, v, q1, q2, q3, q4⟩ | ⟨a, b, _⟩ | ⟨a, b, _⟩ | ⟨a, b, _⟩
      · rw [← hc, ← hd] at q4; exact q4.same rfl rfl
      · omega
      · omega
      · omega
    · rw [st1_ne e]
      exact ⟨q.1, fun p => (q.2 p).same rfl rfl⟩
  · intro s u v u0 v0 v1 hv ha
    refine ARC.gen (o := o) rfl rfl rfl (fun _ _ q => q) (fun _ _ q => q) ?_ ha
    intro w' _ _ _ q
    by_cases e2 : (4 * (v / 2) + 3 - w').toNat = k.toNat
    · rw [e2, st1_eq]; rw [e2] at q; omega
    · rw [st1_ne e2]; exact q
  · intro T
    rw [PHI_60 (by omega), show o.1 60 k.toNat + 1 - o.1 60 k.toNat = 1 by omega, Int.one_mul, show ((k.toNat : Nat) : Int) = k by omega, show k / 4 = c by omega, show k % 4 = w by omega, hw, hxy.1, hxy.2]
    omega
theorem G_back {i o : OO} {root x z y c d w k : Int} (hbx : ∀ k, i.1 61 k ≤ 127) (h61 : o.1 61 = i.1 61) (hF : FNX i root) (x0 : 0 ≤ x ∧ x ≤ 127) (hx : 0 ≤ i.1 61 x.toNat) (hr : ¬ x = root) (hy : y = i.1 61 x.toNat) (y1 : 0 ≤ y ∧ y ≤ 127) (h : GIV i o root x z) (hc : c = y / 2) (hd : d = x / 2) (hcd : ¬ c = d) (hp : ¬ y % 2 = 1) (w0 : 0 ≤ w ∧ w ≤ 3) (hw : bsd d w = c) (hk : k = 4 * d + w) : GIV i (st1 o 60 k.toNat (o.1 60 k.toNat - 1)) root y z ∧ 0 ≤ i.1 61 y.toNat ∧ RF i root y < RF i root x ∧ 0 ≤ RF i root y := by
  have geo := arc_of hF x0 hx hr hy
  have hxy : x = 2 * d + 1 ∧ y = 2 * c := by
    rcases geo with ⟨a, b, w, q1, q2, q3⟩ | ⟨a, b, w, q1, q2, q3⟩ | ⟨a, b⟩ | ⟨a, b⟩ <;> omega
  refine GIV_step h61 hF x0 hx hr hy y1.2 h rfl rfl rfl rfl (fun K hK => BD_60 hK (by omega) (by omega)) ?_ hbx ?_ ?_
  · intro s hs hl
    refine ⟨fun c' w' c0 c1 w0' w1' => ?_, hl.2⟩
    have q := hl.1 c' w' c0 c1 w0' w1'
    by_cases e : (4 * c' + w').toNat = k.toNat
    · rw [e, st1_eq]
      rw [e] at q
      have hpos : 0 < o.1 60 k.toNat := by
        rcases hs with ⟨a, b, _⟩ | ⟨a, b, v, q1, q2, q3, q4⟩ | ⟨a, b, _⟩ | ⟨a, b, _⟩
        · exact absurd a hp
        · rw [← hc, ← hd] at q3
          rw [← hd] at q4
          have bk := bsd_back (u := c) (y := v) (by omega) ⟨q1, q2⟩ (by omega)
          rw [← q3] at bk
          have hv : w = 3 - v := bsd_inj (c := d) (by omega) w0 (by omega) (by rw [bk]; exact hw) (by omega)
          rw [show k.toNat = (4 * d + 3 - v).toNat by omega]
          exact q4
        · exact absurd (show c = d by rw [hc, hd, b]; omega) hcd
        · exact absurd a hp
      exact ⟨by omega, fun p => (q.2 (by omega)).same rfl rfl⟩
    · rw [st1_ne e]
      exact ⟨q.1, fun p => (q.2 p).same rfl rfl⟩
  · intro s u v u0 v0 v1 hv ha
    refine ARC.gen (o := o) rfl rfl rfl (fun _ _ q => q) (fun _ _ q => q) ?_ ha
    intro w' w0' w1' hodd q
    have e2 : ¬ (4 * (v / 2) + 3 - w').toNat = k.toNat := by omega
    rw [st1_ne e2]; exact q
  · intro T
    rw [PHI_60 (by omega), show o.1 60 k.toNat - 1 - o.1 60 k.toNat = -1 by omega, show ((k.toNat : Nat) : Int) = k by omega, show k / 4 = d by omega, show k % 4 = w by omega, hw, hxy.1, hxy.2]
    omega
theorem NB_of {c d w : Int} (w0 : 0 ≤ w ∧ w ≤ 3) (h : d = bsd c w) : NB c d 0 := ⟨w, w0.1, w0.2, h.symm⟩
/-- the ways that wayTo is asked for -/
theorem G_nb {i : OO} {root x y c d : Int} (hF : FNX i root) (x0 : 0 ≤ x ∧ x ≤ 127) (hx : 0 ≤ i.1 61 x.toNat) (hr : ¬ x = root) (hy : y = i.1 61 x.toNat) (y1 : 0 ≤ y ∧ y ≤ 127) (hc : c = y / 2) (hd : d = x / 2) (hcd : ¬ c = d) : NB c d 0 ∧ NB d c 0 := by
  have key : ∃ w : Int, 0 ≤ w ∧ w ≤ 3 ∧ d = bsd c w := by
    rcases arc_of hF x0 hx hr hy with ⟨a, b, w, q1, q2, q3⟩ | ⟨a, b, w, q1, q2, q3⟩ | ⟨a, b⟩ | ⟨a, b⟩
    · exact ⟨w, q1, q2, by rw [hc, hd]; exact q3⟩
    · exact ⟨w, q1, q2, by rw [hc, hd]; exact q3⟩
    · omega
    · omega
  obtain ⟨w, q1, q2, q3⟩ := key
  refine ⟨NB_of ⟨q1, q2⟩ q3, ?_⟩
  have bk := bsd_back (u := c) (y := w) (by omega) ⟨q1, q2⟩ (by omega)
  exact NB_of (w := 3 - w) (by omega) (by rw [q3, bk])
def GEND (i o : OO) (root z : Int) : Prop := (∀ K, BD i K → BD o (K + 128)) ∧ (∀ s, ARS i s root → LG i s → LG o s) ∧ ∀ T, PHI T o = PHI T i + T root - T z
theorem GEND_of {i o : OO} {root z : Int} (hF : FNX i root) (h : GIV i o root root z) : GEND i o root z := by
  obtain ⟨s, h1, h2⟩ := hF
  obtain ⟨t, ht, h3⟩ := RF_spec h1
  have q := h3.2.2.2.1 root h3.1 h3.2.1 (by rw [h3.2.2.1]; exact h3.1)
  exact ⟨fun K hK => (h.1 K hK).up (by omega), fun s hs hl => (h.2.1 s hs hl).1, h.2.2⟩
-- the bound of the flow
def CUTR (o : OO) (a b s : Int) (R : Int → Prop) : Prop := R a ∧ ¬ R b ∧ o.1 58 b.toNat = 0 ∧ (∀ c w : Int, 0 ≤ c → c ≤ 63 → 0 ≤ w → w ≤ 3 → R c → LD o c (bsd c w) s → o.1 58 (bsd c w).toNat = 0 → R (bsd c w)) ∧ ∀ c : Int, 0 ≤ c → c ≤ 63 → R c → o.1 58 c.toNat = 0
noncomputable def TR (o : OO) (R : Int → Prop) (x : Int) : Int := @ite Int (x % 2 = 1) (Classical.propDecidable _) (cn (R (x / 2))) (cn (R (x / 2) ∨ ¬ o.1 58 (x / 2).toNat = 0))
theorem TR_odd {o : OO} {R : Int → Prop} (c : Int) : TR o R (2 * c + 1) = cn (R c) := by
  unfold TR
  rw [if_pos (by omega), show (2 * c + 1) / 2 = c by omega]
theorem TR_even {o : OO} {R : Int → Prop} (c : Int) : TR o R (2 * c) = cn (R c ∨ ¬ o.1 58 c.toNat = 0) := by
  unfold TR
  rw [if_neg (by omega), show (2 * c) / 2 = c by omega]
theorem PHI_le {o : OO} {a b s : Int} {R : Int → Prop} (hR : CUTR o a b s R) (hl : LG o s) : PHI (TR o R) o ≤ 64 := by
  have h1 : sumN (fun c => o.1 59 c * (TR o R (2 * (c : Int)) - TR o R (2 * (c : Int) + 1))) 64 ≤ 1 * ((64 : Nat) : Int) := by
    apply sumN_ub
    intro c hc
    show o.1 59 c * (TR o R (2 * (c : Int)) - TR o R (2 * (c : Int) + 1)) ≤ 1
    rw [TR_odd, TR_even]
    have e : ((c : Int)).toNat = c := by omega
    by_cases hr : R (c : Int)
    · rw [cn_pos hr, cn_pos (Or.inl hr)]; simp
    · rw [cn_neg hr]
      by_cases hb : o.1 58 ((c : Int)).toNat = 0
      · rw [cn_neg (fun q => q.elim hr (fun q => q hb))]; simp
      · rw [cn_pos (Or.inr hb)]
        have := hl.2 (c : Int) (by omega) (by omega) hb
        rw [e] at this
        simpa using this
  have h2 : sumN (fun k => o.1 60 k * (TR o R (2 * ((k : Int) / 4) + 1) - TR o R (2 * bsd ((k : Int) / 4) ((k : Int) % 4)))) 256 ≤ 0 * ((256 : Nat) : Int) := by
    apply sumN_ub
    intro k hk
    show o.1 60 k * (TR o R (2 * ((k : Int) / 4) + 1) - TR o R (2 * bsd ((k : Int) / 4) ((k : Int) % 4))) ≤ 0
    rw [TR_odd, TR_even]
    have q := hl.1 ((k : Int) / 4) ((k : Int) % 4) (by omega) (by omega) (by omega) (by omega)
    rw [show (4 * ((k : Int) / 4) + (k : Int) % 4).toNat = k by omega] at q
    by_cases h0 : 0 < o.1 60 k
    · have ld := q.2 h0
      by_cases hr : R ((k : Int) / 4)
      · have hd : R (bsd ((k : Int) / 4) ((k : Int) % 4)) ∨ ¬ o.1 58 (bsd ((k : Int) / 4) ((k : Int) % 4)).toNat = 0 := by
          by_cases hb : o.1 58 (bsd ((k : Int) / 4) ((k : Int) % 4)).toNat = 0
          · exact Or.inl (hR.2.2.2.1 _ _ (by omega) (by omega) (by omega) (by omega) hr ld hb)
          · exact Or.inr hb
        rw [cn_pos hr, cn_pos hd]; simp
      · rw [cn_neg hr]
        have c1 := cn_rng (R (bsd ((k : Int) / 4) ((k : Int) % 4)) ∨ ¬ o.1 58 (bsd ((k : Int) / 4) ((k : Int) % 4)).toNat = 0)
        exact Int.mul_nonpos_of_nonneg_of_nonpos (by omega) (by omega)
    · have : o.1 60 k = 0 := by omega
      rw [this]; simp
  unfold PHI
  omega
theorem CUTR_of {o : OO} {a b s : Int} (b0 : 0 ≤ b ∧ b ≤ 63) (ha : o.1 58 a.toNat = 0) (hb : o.1 58 b.toNat = 0) (h : CMS o a b s 0) : ∃ R, CUTR o a b s R := by
  obtain ⟨z, h1, h2, h3, h4⟩ := h
  refine ⟨fun c => bt z c.toNat = true, h1, (fun q => by have q : bt z b.toNat = true := q; rw [h2] at q; cases q), hb, fun c w c0 c1 w0 w1 hr ld hbd => h4 c c0 (by omega) w w0 (by omega) hr ld (Or.inr hbd), fun c c0 c1 hr => ?_⟩
  rcases h3 c c0 c1 hr with e | e | e
  · rw [e]; exact ha
  · exact absurd rfl e
  · exact e
theorem RF_nn {i : OO} {root x : Int} (hF : FNX i root) (x0 : 0 ≤ x ∧ x ≤ 127) (hx : 0 ≤ i.1 61 x.toNat) : 0 ≤ RF i root x := by
  obtain ⟨s, h1, h2⟩ := hF
  obtain ⟨t, ht, h3⟩ := RF_spec h1
  exact (h3.2.2.2.1 x x0.1 x0.2 hx).1
def ZR (o : OO) (n : Int) : Prop := ∀ c : Int, 0 ≤ c → c < n → o.1 59 c.toNat = 0 ∧ ∀ w : Int, 0 ≤ w → w ≤ 3 → o.1 60 (4 * c + w).toNat = 0
theorem ZR_0 {o : OO} : ZR o 0 := fun c h0 h1 => absurd h1 (by omega)
def ZW (o : OO) (c n : Int) : Prop := ∀ w : Int, 0 ≤ w → w < n → o.1 60 (4 * c + w).toNat = 0
theorem ZW_0 {o : OO} {c : Int} : ZW o c 0 := fun w h0 h1 => absurd h1 (by omega)
theorem ZR_59 {o : OO} {n x : Int} (h : ZR o n) (y : Int) (n0 : 0 ≤ n) : ZR (st1 (st1 o 58 n.toNat y) 59 n.toNat x) n := by
  intro c c0 c1
  refine ⟨?_, fun w w0 w1 => (h c c0 c1).2 w w0 w1⟩
  rw [st1_ne (by omega)]
  exact (h c c0 c1).1
theorem ZR_60 {o : OO} {n w : Int} (h : ZR o n) (n0 : 0 ≤ n) (w0 : 0 ≤ w ∧ w ≤ 3) : ZR (st1 o 60 (4 * n + w).toNat 0) n := by
  intro c c0 c1
  refine ⟨(h c c0 c1).1, fun v v0 v1 => ?_⟩
  rw [st1_ne (by omega)]
  exact (h c c0 c1).2 v v0 v1
theorem ZW_s {o : OO} {c n : Int} (h : ZW o c n) (c0 : 0 ≤ c) (n0 : 0 ≤ n) : ZW (st1 o 60 (4 * c + n).toNat 0) c (n + 1) := by
  intro w w0 w1
  by_cases e : w = n
  · rw [e]; exact st1_eq
  · rw [st1_ne (by omega)]; exact h w w0 (by omega)
theorem ZR_s {o : OO} {n : Int} (h : ZR o n) (h1 : o.1 59 n.toNat = 0) (h2 : ZW o n 4) : ZR o (n + 1) := by
  intro c c0 c1
  by_cases e : c = n
  · rw [e]; exact ⟨h1, fun w w0 w1 => h2 w w0 (by omega)⟩
  · exact h c c0 (by omega)
theorem ST58 {o : OO} {i y a : Int} (h : i ≤ a ∨ o.1 58 a.toNat = 0) (i0 : 0 ≤ i) (a0 : 0 ≤ a) (hy : i = a → y = 0) : i + 1 ≤ a ∨ (st1 o 58 i.toNat y).1 58 a.toNat = 0 := by
  by_cases e : i = a
  · right
    rw [e, st1_eq]
    exact hy e
  · rcases h with q | q
    · left; omega
    · right
      rw [st1_ne (by omega)]; exact q
def CUX (o : OO) (a b s : Int) : Prop := ∃ R, CUTR o a b s R
def PHX (i o : OO) (a b s n : Int) : Prop := ∀ R, CUTR i a b s R → PHI (TR i R) o = n
theorem ZR_LG {o : OO} {s : Int} (h : ZR o 64) : LG o s := by
  refine ⟨fun c w c0 c1 w0 w1 => ?_, fun c c0 c1 _ => ?_⟩
  · have := (h c c0 (by omega)).2 w w0 w1
    exact ⟨by omega, fun q => by omega⟩
  · have := (h c c0 (by omega)).1
    omega
theorem ZR_at {o : OO} (h : ZR o 64) : (∀ c : Nat, c < 64 → o.1 59 c = 0) ∧ ∀ k : Nat, k < 256 → o.1 60 k = 0 := by
  refine ⟨fun c hc => ?_, fun k hk => ?_⟩
  · have := (h (c : Int) (by omega) (by omega)).1
    exact this
  · have := (h ((k : Int) / 4) (by omega) (by omega)).2 ((k : Int) % 4) (by omega) (by omega)
    rw [show (4 * ((k : Int) / 4) + (k : Int) % 4).toNat = k by omega] at this
    exact this
theorem ZR_BD {o : OO} (h : ZR o 64) : BD o (128 * 0) := ⟨fun c hc => by rw [(ZR_at h).1 c hc]; omega, fun c hc => by rw [(ZR_at h).2 c hc]; omega⟩
theorem ZR_PHI {o : OO} (h : ZR o 64) (T : Int → Int) : PHI T o = 0 := by
  have e1 : sumN (fun c => o.1 59 c * (T (2 * (c : Int)) - T (2 * (c : Int) + 1))) 64 = sumN (fun _ => 0) 64 := sumN_cg (fun c hc => by
    show o.1 59 c * (T (2 * (c : Int)) - T (2 * (c : Int) + 1)) = 0
    rw [(ZR_at h).1 c hc]; simp)
  have e2 : sumN (fun k => o.1 60 k * (T (2 * ((k : Int) / 4) + 1) - T (2 * bsd ((k : Int) / 4) ((k : Int) % 4)))) 256 = sumN (fun _ => 0) 256 := sumN_cg (fun k hk => by
    show o.1 60 k * (T (2 * ((k : Int) / 4) + 1) - T (2 * bsd ((k : Int) / 4) ((k : Int) % 4))) = 0
    rw [(ZR_at h).2 k hk]; simp)
  unfold PHI
  rw [e1, e2, sumN_const, sumN_const]
  simp
theorem CUTR.cg {o o' : OO} {a b s : Int} {R : Int → Prop} (h11 : o'.1 11 = o.1 11) (h12 : o'.1 12 = o.1 12) (h58 : o'.1 58 = o.1 58) (h : CUTR o a b s R) : CUTR o' a b s R :=
  ⟨h.1, h.2.1, by rw [h58]; exact h.2.2.1, fun c w c0 c1 w0 w1 hr ld hb => h.2.2.2.1 c w c0 c1 w0 w1 hr (ld.same h11.symm h12.symm) (by rw [h58] at hb; exact hb), fun c c0 c1 hr => by rw [h58]; exact h.2.2.2.2 c c0 c1 hr⟩
theorem TR.cg {o o' : OO} {R : Int → Prop} (h58 : o'.1 58 = o.1 58) : TR o' R = TR o R := by
  funext x
  unfold TR
  rw [h58]
theorem LG.cg {o o' : OO} {s : Int} (h11 : o'.1 11 = o.1 11) (h12 : o'.1 12 = o.1 12) (h58 : o'.1 58 = o.1 58) (h59 : o'.1 59 = o.1 59) (h60 : o'.1 60 = o.1 60) (h : LG o s) : LG o' s :=
  ⟨fun c w c0 c1 w0 w1 => by rw [h60]; exact ⟨(h.1 c w c0 c1 w0 w1).1, fun q => ((h.1 c w c0 c1 w0 w1).2 q).same h11 h12⟩, fun c c0 c1 hb => by rw [h59]; rw [h58] at hb; exact h.2 c c0 c1 hb⟩
theorem BD.cg {o o' : OO} {K : Int} (h59 : o'.1 59 = o.1 59) (h60 : o'.1 60 = o.1 60) (h : BD o K) : BD o' K :=
  ⟨fun c hc => by rw [h59]; exact h.1 c hc, fun c hc => by rw [h60]; exact h.2 c hc⟩
theorem PHI.cg {o o' : OO} {T : Int → Int} (h59 : o'.1 59 = o.1 59) (h60 : o'.1 60 = o.1 60) : PHI T o' = PHI T o := by
  unfold PHI
  rw [h59, h60]
theorem ST_next {i o o' o'' : OO} {a b s n : Int} (e1 : o.1 11 = i.1 11 ∧ o.1 12 = i.1 12 ∧ o.1 58 = i.1 58) (e2 : o'.1 11 = o.1 11 ∧ o'.1 12 = o.1 12 ∧ o'.1 58 = o.1 58 ∧ o'.1 59 = o.1 59 ∧ o'.1 60 = o.1 60) (e3 : o''.1 11 = o'.1 11 ∧ o''.1 12 = o'.1 12 ∧ o''.1 58 = o'.1 58) (hc : CUX i a b s) (hl : LG o s) (hb : BD o (128 * n)) (hp : PHX i o a b s n) (hf : FND o' s (2 * a + 1)) (hg : GEND o' o'' (2 * a + 1) (2 * b)) : LG o'' s ∧ BD o'' (128 * (n + 1)) ∧ PHX i o'' a b s (n + 1) ∧ n + 1 ≤ 64 := by
  have l1 : LG o' s := hl.cg e2.1 e2.2.1 e2.2.2.1 e2.2.2.2.1 e2.2.2.2.2
  have l2 : LG o'' s := hg.2.1 s hf.2 l1
  have b1 : BD o' (128 * n) := hb.cg e2.2.2.2.1 e2.2.2.2.2
  have p2 : PHX i o'' a b s (n + 1) := by
    intro R hR
    have q1 := hp R hR
    have q2 := hg.2.2 (TR i R)
    rw [PHI.cg e2.2.2.2.1 e2.2.2.2.2, q1, TR_odd, TR_even, cn_pos hR.1, cn_neg (fun q => q.elim hR.2.1 (fun q => q hR.2.2.1))] at q2
    omega
  refine ⟨l2, (hg.1 _ b1).up (by omega), p2, ?_⟩
  obtain ⟨R, hR⟩ := hc
  have e58 : o''.1 58 = i.1 58 := by rw [e3.2.2, e2.2.2.1, e1.2.2]
  have hR2 : CUTR o'' a b s R := hR.cg (by rw [e3.1, e2.1, e1.1]) (by rw [e3.2.1, e2.2.1, e1.2.1]) e58
  have q := PHI_le hR2 l2
  rw [TR.cg e58, p2 R hR] at q
  exact q
