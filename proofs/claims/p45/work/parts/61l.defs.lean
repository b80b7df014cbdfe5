-- the way of a LINE of the reference comes to no CELL twice
theorem st1_eq {o : OO} {c i : Nat} {x : Int} : (st1 o c i x).1 c i = x := by
  show (bif Nat.beq c c then (fun j => if j = i then x else o.1 c j) else o.1 c) i = x
  rw [Nat.beq_refl]
  show (if i = i then x else o.1 c i) = x
  rw [if_pos rfl]
theorem st1_ne {o : OO} {c i j : Nat} {x : Int} (h : ¬ j = i) : (st1 o c i x).1 c j = o.1 c j := by
  show (bif Nat.beq c c then (fun j => if j = i then x else o.1 c j) else o.1 c) j = _
  rw [Nat.beq_refl]
  show (if j = i then x else o.1 c j) = _
  rw [if_neg h]
def R4 (o : OO) (r n : Int) : Prop := ∀ k : Int, 0 ≤ k → k < n → 0 ≤ o.1 3 (40 * r + k).toNat ∧ o.1 3 (40 * r + k).toNat ≤ 1000
theorem R4_0 {o : OO} {r : Int} : R4 o r 0 := fun k h0 h1 => absurd h1 (by omega)
theorem R4_s {o : OO} {r n : Int} (h : R4 o r n) (hn : 0 ≤ o.1 3 (40 * r + n).toNat ∧ o.1 3 (40 * r + n).toNat ≤ 1000) : R4 o r (n + 1) := by
  intro k h0 h1
  rcases Classical.em (k = n) with e | e
  · subst e; exact hn
  · exact h k h0 (by omega)
theorem R4.cg {o o' : OO} {r n : Int} (h : R4 o r n) (hf : ∀ j, o'.1 3 j = o.1 3 j) : R4 o' r n := by
  intro k h0 h1
  rw [hf]; exact h k h0 h1
theorem SBI.cg {o o' : OO} {g s : Int} (u : U38 o o') (hs : ∀ k, o'.1 38 k = o.1 38 k) (h : SBI o g s) : SBI o' g s := by
  refine ⟨fun w h0 h1 => by rw [hs]; exact h.1 w h0 h1, ?_, ?_⟩
  · intro c w h0 h1 h2 h3 h4 h5
    obtain ⟨y, p0, p1, p2, p3, p4⟩ := h.2.1 c w h0 h1 h2 h3 h4 (by unfold FN at h5 ⊢; rw [hs] at h5; exact h5)
    exact ⟨y, p0, p1, p2.cg u, p3.mono u, by rw [hs, GV.cg u hs]; exact p4⟩
  · intro k hk hf
    rw [hs] at hf ⊢
    rw [CF_cg hs]
    exact h.2.2 k hk hf
theorem B1.cg {o o' : OO} {g s : Int} (u : U38 o o') (hs : ∀ k, o'.1 38 k = o.1 38 k) (h : B1 o g s) : B1 o' g s :=
  fun c y w h0 h1 h2 h3 h4 h5 => (h c y w h0 h1 h2 h3 h4 h5).cg u hs
def FIT (o : OO) (c w s y : Int) : Prop := LD o c (bsd c y) s ∧ FN o (5 * bsd c y + y) ∧ GV o c w y (bsd c y) = o.1 38 (5 * c + w).toNat
def NFT (o : OO) (c w s n : Int) : Prop := ∀ y : Int, 0 ≤ y → y < n → ¬ FIT o c w s y
theorem NFT_0 {o : OO} {c w s : Int} : NFT o c w s 0 := fun y h0 h1 => absurd h1 (by omega)
theorem NFT_s {o : OO} {c w s n : Int} (h : NFT o c w s n) (hn : ¬ FIT o c w s n) : NFT o c w s (n + 1) := by
  intro y h0 h1
  rcases Classical.em (y = n) with e | e
  · subst e; exact hn
  · exact h y h0 (by omega)
def FEX (o : OO) (c w s : Int) : Prop := ∃ y : Int, 0 ≤ y ∧ y ≤ 3 ∧ FIT o c w s y
theorem FEX_of {o : OO} {g s c w : Int} (hb : B1 o g s) (hs : SBI o g s) (c0 : 0 ≤ c ∧ c ≤ 63) (hc : ¬ c = g) (w0 : 0 ≤ w ∧ w ≤ 4) (hf : FN o (5 * c + w)) : FEX o c w s := by
  obtain ⟨y, p0, p1, p2, p3, p4⟩ := hs.2.1 c w c0.1 c0.2 hc w0.1 w0.2 hf
  have := hb c y w c0.1 c0.2 p0 p1 w0.1 w0.2 hc p2 p3
  exact ⟨y, p0, p1, p2, p3, by omega⟩
theorem NFT_no {o : OO} {c w s n : Int} (h : NFT o c w s n) (hn : 4 ≤ n) (he : FEX o c w s) : False := by
  obtain ⟨y, p0, p1, p2⟩ := he
  exact h y p0 (by omega) p2
theorem FIT_no1 {o : OO} {c w s y d r : Int} (hd : d = bsd c y) (h : s_X12_leads o c d s = some r) (hr : r = 0) : ¬ FIT o c w s y := by
  intro q
  obtain ⟨v, q1, q2⟩ := q.1
  rw [← hd, h] at q1
  have := Option.some.inj q1
  omega
theorem FIT_no2 {o : OO} {c w s y d : Int} (hd : d = bsd c y) (h : ¬ o.1 38 (5 * d + y).toNat < 100000000) : ¬ FIT o c w s y := by
  intro q
  have := q.2.1
  rw [← hd] at this
  exact h this
theorem FIT_no3 {o : OO} {c w s y d : Int} (hd : d = bsd c y) (h : ¬ GV o c w y d = o.1 38 (5 * c + w).toNat) : ¬ FIT o c w s y := by
  intro q
  have := q.2.2
  rw [← hd] at this
  exact h this
def FD (o : OO) (c w s d y : Int) : Prop := 0 ≤ d ∧ d ≤ 63 ∧ 0 ≤ y ∧ y ≤ 3 ∧ d = bsd c y ∧ FIT o c w s y
-- the argument
abbrev LL (o : OO) (c w : Int) : Int := o.1 38 (5 * c + w).toNat
theorem turn5 {o : OO} {g s u w w' : Int} (hB : BoxM o) (hb : B1 o g s) (hs : SBI o g s) (u0 : 0 ≤ u ∧ u ≤ 63) (w0 : 0 ≤ w ∧ w ≤ 4) (w0' : 0 ≤ w' ∧ w' ≤ 4) : LL o u w ≤ LL o u w' + 5 := by
  by_cases hg : u = g
  · subst hg
    have := hs.1 w w0.1 w0.2
    have := hs.1 w' w0'.1 w0'.2
    show o.1 38 (5 * u + w).toNat ≤ o.1 38 (5 * u + w').toNat + 5
    omega
  · by_cases hf : FN o (5 * u + w')
    · obtain ⟨y, p0, p1, p2, p3, p4⟩ := hs.2.1 u w' u0.1 u0.2 hg w0'.1 w0'.2 hf
      have h1 := hb u y w u0.1 u0.2 p0 p1 w0.1 w0.2 hg p2 p3
      have t1 := TN_rng w y
      have t2 := TN_rng w' y
      show o.1 38 (5 * u + w).toNat ≤ o.1 38 (5 * u + w').toNat + 5
      unfold GV at h1 p4
      omega
    · have := (bM_38 hB (5 * u + w).toNat).2
      unfold FN at hf
      show o.1 38 (5 * u + w).toNat ≤ o.1 38 (5 * u + w').toNat + 5
      omega
theorem turn4 {o : OO} {g s u w : Int} (hB : BoxM o) (hb : B1 o g s) (hs : SBI o g s) (u0 : 0 ≤ u ∧ u ≤ 63) (w0 : 0 ≤ w ∧ w ≤ 4) : LL o u 4 ≤ LL o u w := by
  by_cases hg : u = g
  · subst hg
    have := hs.1 w w0.1 w0.2
    have := hs.1 4 (by omega) (by omega)
    show o.1 38 (5 * u + 4).toNat ≤ o.1 38 (5 * u + w).toNat
    omega
  · by_cases hf : FN o (5 * u + w)
    · obtain ⟨y, p0, p1, p2, p3, p4⟩ := hs.2.1 u w u0.1 u0.2 hg w0.1 w0.2 hf
      have h1 := hb u y 4 u0.1 u0.2 p0 p1 (by omega) (by omega) hg p2 p3
      have t1 : TN 4 y = 0 := by unfold TN; rw [if_neg (by omega)]
      have t2 := TN_rng w y
      show o.1 38 (5 * u + 4).toNat ≤ o.1 38 (5 * u + w).toNat
      unfold GV at h1 p4
      omega
    · have := (bM_38 hB (5 * u + 4).toNat).2
      unfold FN at hf
      show o.1 38 (5 * u + 4).toNat ≤ o.1 38 (5 * u + w).toNat
      omega
def GTt (o : OO) (u w : Int) : Prop := w < 4 → LL o u w < LL o u (3 - w) + 5
theorem bsd_back {u y : Int} (u0 : 0 ≤ u ∧ u ≤ 63) (y0 : 0 ≤ y ∧ y ≤ 3) (h : 0 ≤ bsd u y) : bsd (bsd u y) (3 - y) = u := by
  have hy : y = 0 ∨ y = 1 ∨ y = 2 ∨ y = 3 := by omega
  rcases hy with e | e | e | e <;> subst e <;> simp [bsd] at h ⊢ <;> (split at h) <;> first | omega | (split <;> omega)
theorem TN_eq {y : Int} : TN y y = 0 := by
  unfold TN
  split
  · rw [if_pos rfl]
  · rfl
theorem TN_ne {w y : Int} (h : w < 4) (hn : ¬ w = y) : TN w y = 5 := by
  unfold TN; rw [if_pos h, if_neg hn]
theorem no_turn {o : OO} {g s u w d y : Int} (hb : B1 o g s) (u0 : 0 ≤ u ∧ u ≤ 63) (w0 : 0 ≤ w ∧ w ≤ 4) (hu : ¬ u = g) (hG : GTt o u w) (hf : FD o u w s d y) (hw : w < 4) : ¬ y = 3 - w := by
  intro e
  obtain ⟨d0, d1, y0, y1, hd, q1, q2, q3⟩ := hf
  have h1 := hb u y y u0.1 u0.2 y0 y1 (by omega) (by omega) hu q1 q2
  have t1 := TN_eq (y := y)
  have t2 := TN_ne hw (show ¬ w = y by omega)
  have hG := hG hw
  have hG : o.1 38 (5 * u + w).toNat < o.1 38 (5 * u + (3 - w)).toNat + 5 := hG
  rw [e] at h1 t1 t2 q3
  unfold GV at h1 q3
  omega
theorem good_on {o : OO} {g s u w d y : Int} (hB : BoxM o) (hb : B1 o g s) (hs : SBI o g s) (u0 : 0 ≤ u ∧ u ≤ 63) (w0 : 0 ≤ w ∧ w ≤ 4) (hu : ¬ u = g) (hG : GTt o u w) (hf : FD o u w s d y) : GTt o d y := by
  intro _
  have hfd := hf
  obtain ⟨d0, d1, y0, y1, hd, q1, q2, q3⟩ := hf
  subst hd
  show o.1 38 (5 * bsd u y + y).toNat < o.1 38 (5 * bsd u y + (3 - y)).toNat + 5
  by_cases hdg : bsd u y = g
  · have a1 := hs.1 y y0 (by omega)
    have a2 := hs.1 (3 - y) (by omega) (by omega)
    rw [← hdg] at a1 a2
    omega
  · apply Classical.byContradiction
    intro hn
    have hfn : FN o (5 * bsd u y + (3 - y)) := by
      unfold FN at q2 ⊢
      omega
    obtain ⟨z, z0, z1, z2, z3, z4⟩ := hs.2.1 (bsd u y) (3 - y) d0 d1 hdg (by omega) (by omega) hfn
    by_cases hz : z = 3 - y
    · have e := bsd_back u0 ⟨y0, y1⟩ d0
      rw [hz, e] at z4
      have t0 := TN_eq (y := 3 - y)
      have r1 := SV_rng hB (bsd u y) u
      have r2 := bM_39 hB u.toNat
      have r3 := SV_rng hB u (bsd u y)
      have r4 := bM_39 hB (bsd u y).toNat
      unfold GV at z4 q3
      by_cases hw : w < 4
      · by_cases hwy : w = y
        · have hG := hG hw
          have hG : o.1 38 (5 * u + w).toNat < o.1 38 (5 * u + (3 - w)).toNat + 5 := hG
          have t1 := TN_rng w y
          rw [hwy] at hG q3 t1
          omega
        · have t1 := TN_ne hw hwy
          have a : o.1 38 (5 * u + w).toNat ≤ o.1 38 (5 * u + (3 - y)).toNat + 5 := turn5 hB hb hs u0 w0 (by omega)
          omega
      · have hw4 : w = 4 := by omega
        have a : o.1 38 (5 * u + 4).toNat ≤ o.1 38 (5 * u + (3 - y)).toNat := turn4 hB hb hs u0 (by omega)
        have t1 := TN_rng w y
        rw [hw4] at q3 t1
        omega
    · have h1 := hb (bsd u y) z y d0 d1 z0 z1 (by omega) (by omega) hdg z2 z3
      have t1 := TN_rng y z
      have t2 := TN_ne (w := 3 - y) (y := z) (by omega) (by omega)
      unfold GV at h1 z4
      omega
/-- u lies ahead of v in direction w -/
def AHD (v u w : Int) : Prop := (w = 0 ∧ u / 8 < v / 8) ∨ (w = 3 ∧ v / 8 < u / 8) ∨ (w = 1 ∧ u % 8 < v % 8) ∨ (w = 2 ∧ v % 8 < u % 8)
def STR (v u w : Int) : Prop := (w = 0 ∧ u / 8 < v / 8 ∧ u % 8 = v % 8) ∨ (w = 3 ∧ v / 8 < u / 8 ∧ u % 8 = v % 8) ∨ (w = 1 ∧ u % 8 < v % 8 ∧ u / 8 = v / 8) ∨ (w = 2 ∧ v % 8 < u % 8 ∧ u / 8 = v / 8)
/-- how d lies to u -/
theorem bsd_geo {u y d : Int} (u0 : 0 ≤ u ∧ u ≤ 63) (hd : d = bsd u y) (d0 : 0 ≤ d) : (y = 0 ∧ d / 8 = u / 8 - 1 ∧ d % 8 = u % 8) ∨ (y = 1 ∧ d / 8 = u / 8 ∧ d % 8 = u % 8 - 1) ∨ (y = 2 ∧ d / 8 = u / 8 ∧ d % 8 = u % 8 + 1) ∨ (y = 3 ∧ d / 8 = u / 8 + 1 ∧ d % 8 = u % 8) := by
  unfold bsd at hd
  split at hd
  · split at hd
    · left; omega
    · omega
  · split at hd
    · split at hd
      · right; left; omega
      · omega
    · split at hd
      · split at hd
        · right; right; left; omega
        · omega
      · split at hd
        · split at hd
          · right; right; right; omega
          · omega
        · omega
def VI (o : OO) (v u w : Int) : Prop := w < 4 ∧ ((STR v u w ∧ LL o u w ≤ LL o v 4 + 5) ∨ (AHD v u w ∧ LL o u w ≤ LL o v 4) ∨ LL o u w + 5 ≤ LL o v 4)
theorem VI_new {o : OO} {g s u w d y : Int} (hB : BoxM o) (hb : B1 o g s) (hs : SBI o g s) (u0 : 0 ≤ u ∧ u ≤ 63) (w0 : 0 ≤ w ∧ w ≤ 4) (hf : FD o u w s d y) : VI o u d y := by
  obtain ⟨d0, d1, y0, y1, hd, q1, q2, q3⟩ := hf
  refine ⟨by omega, Or.inl ⟨?_, ?_⟩⟩
  · have := bsd_geo u0 hd d0
    unfold STR
    omega
  · have a : o.1 38 (5 * u + w).toNat ≤ o.1 38 (5 * u + 4).toNat + 5 := turn5 hB hb hs u0 w0 (by omega)
    have r3 := SV_rng hB u (bsd u y)
    have r4 := bM_39 hB (bsd u y).toNat
    have t1 := TN_rng w y
    show o.1 38 (5 * d + y).toNat ≤ o.1 38 (5 * u + 4).toNat + 5
    unfold GV at q3
    rw [← hd] at q3 r3 r4
    omega
theorem VI_on {o : OO} {g s v u w d y : Int} (hB : BoxM o) (hb : B1 o g s) (u0 : 0 ≤ u ∧ u ≤ 63) (w0 : 0 ≤ w ∧ w ≤ 4) (hu : ¬ u = g) (hG : GTt o u w) (hf : FD o u w s d y) (hv : VI o v u w) : VI o v d y := by
  have nt := no_turn hb u0 w0 hu hG hf hv.1
  obtain ⟨d0, d1, y0, y1, hd, q1, q2, q3⟩ := hf
  have hw := hv.1
  have r3 := SV_rng hB u (bsd u y)
  have r4 := bM_39 hB (bsd u y).toNat
  have geo := bsd_geo u0 hd d0
  unfold GV at q3
  rw [← hd] at q3 r3 r4
  refine ⟨by omega, ?_⟩
  by_cases e : y = w
  · subst e
    have t1 := TN_eq (y := y)
    have hle : o.1 38 (5 * d + y).toNat ≤ o.1 38 (5 * u + y).toNat := by omega
    rcases hv.2 with ⟨h1, h2⟩ | ⟨h1, h2⟩ | h2
    · have h2 : o.1 38 (5 * u + y).toNat ≤ o.1 38 (5 * v + 4).toNat + 5 := h2
      refine Or.inl ⟨?_, ?_⟩
      · unfold STR at h1 ⊢; omega
      · show o.1 38 (5 * d + y).toNat ≤ o.1 38 (5 * v + 4).toNat + 5; omega
    · have h2 : o.1 38 (5 * u + y).toNat ≤ o.1 38 (5 * v + 4).toNat := h2
      refine Or.inr (Or.inl ⟨?_, ?_⟩)
      · unfold AHD at h1 ⊢; omega
      · show o.1 38 (5 * d + y).toNat ≤ o.1 38 (5 * v + 4).toNat; omega
    · have h2 : o.1 38 (5 * u + y).toNat + 5 ≤ o.1 38 (5 * v + 4).toNat := h2
      refine Or.inr (Or.inr ?_)
      show o.1 38 (5 * d + y).toNat + 5 ≤ o.1 38 (5 * v + 4).toNat; omega
  · have t1 := TN_ne hw (show ¬ w = y by omega)
    have hle : o.1 38 (5 * d + y).toNat + 5 ≤ o.1 38 (5 * u + w).toNat := by omega
    rcases hv.2 with ⟨h1, h2⟩ | ⟨h1, h2⟩ | h2
    · have h2 : o.1 38 (5 * u + w).toNat ≤ o.1 38 (5 * v + 4).toNat + 5 := h2
      refine Or.inr (Or.inl ⟨?_, ?_⟩)
      · unfold STR at h1; unfold AHD; omega
      · show o.1 38 (5 * d + y).toNat ≤ o.1 38 (5 * v + 4).toNat; omega
    · have h2 : o.1 38 (5 * u + w).toNat ≤ o.1 38 (5 * v + 4).toNat := h2
      refine Or.inr (Or.inr ?_)
      show o.1 38 (5 * d + y).toNat + 5 ≤ o.1 38 (5 * v + 4).toNat; omega
    · have h2 : o.1 38 (5 * u + w).toNat + 5 ≤ o.1 38 (5 * v + 4).toNat := h2
      refine Or.inr (Or.inr ?_)
      show o.1 38 (5 * d + y).toNat + 5 ≤ o.1 38 (5 * v + 4).toNat; omega
theorem VI_ne {o : OO} {g s v u w : Int} (hB : BoxM o) (hb : B1 o g s) (hs : SBI o g s) (u0 : 0 ≤ u ∧ u ≤ 63) (w0 : 0 ≤ w ∧ w ≤ 4) (hv : VI o v u w) : ¬ v = u := by
  intro e
  subst e
  rcases hv.2 with ⟨h1, h2⟩ | ⟨h1, h2⟩ | h2
  · unfold STR at h1; omega
  · unfold AHD at h1; omega
  · have a : o.1 38 (5 * v + 4).toNat ≤ o.1 38 (5 * v + w).toNat := turn4 hB hb hs u0 w0
    have h2 : o.1 38 (5 * v + w).toNat + 5 ≤ o.1 38 (5 * v + 4).toNat := h2
    omega
/-- the way so far: its CELLS differ -/
def PW (o : OO) (l u w : Int) : Prop := 1 ≤ o.1 30 l.toNat ∧ o.1 30 l.toNat ≤ 64 ∧ o.1 31 (64 * l + (o.1 30 l.toNat - 1)).toNat = u ∧ (∀ i : Int, 0 ≤ i → i < o.1 30 l.toNat - 1 → VI o (o.1 31 (64 * l + i).toNat) u w) ∧ ∀ i j : Int, 0 ≤ i → i < j → j < o.1 30 l.toNat → ¬ o.1 31 (64 * l + i).toNat = o.1 31 (64 * l + j).toNat
theorem PW_0 {o : OO} {l u : Int} (h1 : o.1 30 l.toNat = 1) (h2 : o.1 31 (64 * l).toNat = u) : PW o l u 4 := by
  refine ⟨by omega, by omega, ?_, fun i h0 h3 => by omega, fun i j h0 h3 h4 => by omega⟩
  rw [h1]
  show o.1 31 (64 * l + (1 - 1)).toNat = u
  rw [show 64 * l + (1 - 1) = 64 * l by omega]
  exact h2
theorem VI.cg {o o' : OO} (hs : ∀ k, o'.1 38 k = o.1 38 k) {v u w : Int} (h : VI o v u w) : VI o' v u w := by
  have e : ∀ c x : Int, LL o' c x = LL o c x := fun c x => hs _
  unfold VI
  rw [e, e]
  exact h
theorem PW_next {o : OO} {g s l u w d y : Int} (hB : BoxM o) (hb : B1 o g s) (hs : SBI o g s) (l0 : 0 ≤ l) (u0 : 0 ≤ u ∧ u ≤ 63) (w0 : 0 ≤ w ∧ w ≤ 4) (hu : ¬ u = g) (hG : GTt o u w) (hf : FD o u w s d y) (hp : PW o l u w) : o.1 30 l.toNat ≤ 63 ∧ PW (st1 (st1 o 31 (64 * l + o.1 30 l.toNat).toNat d) 30 l.toNat (o.1 30 l.toNat + 1)) l d y := by
  obtain ⟨n1, n2, hl, hv, hdf⟩ := hp
  generalize hn : o.1 30 l.toNat = n at *
  have d01 : 0 ≤ d ∧ d ≤ 63 := ⟨hf.1, hf.2.1⟩
  have y01 : 0 ≤ y ∧ y ≤ 4 := ⟨hf.2.2.1, by have := hf.2.2.2.1; omega⟩
  have hv2 : ∀ i : Int, 0 ≤ i → i < n → VI o (o.1 31 (64 * l + i).toNat) d y := by
    intro i h0 h1
    rcases Classical.em (i = n - 1) with e | e
    · rw [e, hl]; exact VI_new hB hb hs u0 w0 hf
    · exact VI_on hB hb u0 w0 hu hG hf (hv i h0 (by omega))
  have hne : ∀ i : Int, 0 ≤ i → i < n → ¬ o.1 31 (64 * l + i).toNat = d := fun i h0 h1 => VI_ne hB hb hs d01 y01 (hv2 i h0 h1)
  have hn63 : n ≤ 63 := by
    have p := pigeon 64 (n.toNat + 1) (fun i => if i < n.toNat then (o.1 31 (64 * l + (i : Int)).toNat).toNat else d.toNat) (fun i hi => by
      show (if i < n.toNat then (o.1 31 (64 * l + (i : Int)).toNat).toNat else d.toNat) < 64
      have := bM_31 hB (64 * l + (i : Int)).toNat
      split <;> omega) (fun i j hi hj e => by
      have e : (if i < n.toNat then (o.1 31 (64 * l + (i : Int)).toNat).toNat else d.toNat) = (if j < n.toNat then (o.1 31 (64 * l + (j : Int)).toNat).toNat else d.toNat) := e
      have b1 := bM_31 hB (64 * l + (i : Int)).toNat
      have b2 := bM_31 hB (64 * l + (j : Int)).toNat
      by_cases h1 : i < n.toNat <;> by_cases h2 : j < n.toNat
      · rw [if_pos h1, if_pos h2] at e
        rcases Nat.lt_trichotomy i j with q | q | q
        · exact absurd (by omega) (hdf (i : Int) (j : Int) (by omega) (by omega) (by omega))
        · exact q
        · exact absurd (by omega) (hdf (j : Int) (i : Int) (by omega) (by omega) (by omega))
      · rw [if_pos h1, if_neg h2] at e
        exact absurd (by omega) (hne (i : Int) (by omega) (by omega))
      · rw [if_neg h1, if_pos h2] at e
        exact absurd (by omega) (hne (j : Int) (by omega) (by omega))
      · omega)
    omega
  refine ⟨hn63, ?_⟩
  have e30 : (st1 (st1 o 31 (64 * l + n).toNat d) 30 l.toNat (n + 1)).1 30 l.toNat = n + 1 := st1_eq
  have e31 : ∀ k, (st1 (st1 o 31 (64 * l + n).toNat d) 30 l.toNat (n + 1)).1 31 k = (st1 o 31 (64 * l + n).toNat d).1 31 k := fun _ => rfl
  have a1 : ∀ i : Int, 0 ≤ i → i < n → (st1 o 31 (64 * l + n).toNat d).1 31 (64 * l + i).toNat = o.1 31 (64 * l + i).toNat := fun i h0 h1 => st1_ne (by omega)
  have a2 : (st1 o 31 (64 * l + n).toNat d).1 31 (64 * l + n).toNat = d := st1_eq
  unfold PW
  rw [e30]
  refine ⟨by omega, by omega, ?_, ?_, ?_⟩
  · rw [e31, show 64 * l + (n + 1 - 1) = 64 * l + n by omega]
    exact a2
  · intro i h0 h1
    rw [e31, a1 i h0 (by omega)]
    exact VI.cg (fun _ => rfl) (hv2 i h0 (by omega))
  · intro i j h0 h1 h2
    rw [e31, e31, a1 i h0 (by omega)]
    rcases Classical.em (j = n) with e | e
    · rw [e, a2]; exact hne i h0 (by omega)
    · rw [a1 j (by omega) (by omega)]; exact hdf i j h0 h1 (by omega)
