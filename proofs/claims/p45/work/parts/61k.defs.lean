-- LINES of the reference: what is left from a CELL, come to in a direction
def TN (w y : Int) : Int := if w < 4 then (if w = y then 0 else 5) else 0
theorem TN_rng (w y : Int) : 0 ≤ TN w y ∧ TN w y ≤ 5 := by
  unfold TN
  split
  · split <;> omega
  · omega
def SV (o : OO) (c d : Int) : Int := if o.1 12 c.toNat - o.1 12 d.toNat < 0 then -(o.1 12 c.toNat - o.1 12 d.toNat) else o.1 12 c.toNat - o.1 12 d.toNat
theorem SV_rng {o : OO} (hB : BoxM o) (c d : Int) : 0 ≤ SV o c d ∧ SV o c d ≤ 99 := by
  have h1 := bM_12 hB c.toNat
  have h2 := bM_12 hB d.toNat
  unfold SV
  split <;> omega
def GV (o : OO) (c w y d : Int) : Int := 10 * SV o c d + o.1 39 d.toNat + TN w y + o.1 38 (5 * d + y).toNat
def LD (o : OO) (c d s : Int) : Prop := ∃ v, s_X12_leads o c d s = some v ∧ ¬ v = 0
theorem leads_cg {o o' : OO} (h1 : o'.1 11 = o.1 11) (h2 : o'.1 12 = o.1 12) (c d s : Int) : s_X12_leads o' c d s = s_X12_leads o c d s := by
  simp only [s_X12_leads, b_X12_leads_39, b_X12_leads_38, s_X12_slope, b_X12_slope_24, h1, h2]
def FN (o : OO) (k : Int) : Prop := o.1 38 k.toNat < 100000000
/-- o' is o with less left -/
def U38 (o o' : OO) : Prop := o'.1 11 = o.1 11 ∧ o'.1 12 = o.1 12 ∧ o'.1 39 = o.1 39 ∧ ∀ k, o'.1 38 k ≤ o.1 38 k
theorem LD.cg {o o' : OO} (u : U38 o o') {c d s : Int} (h : LD o c d s) : LD o' c d s := by
  obtain ⟨v, h1, h2⟩ := h
  exact ⟨v, by rw [leads_cg u.1 u.2.1]; exact h1, h2⟩
theorem LD.gc {o o' : OO} (u : U38 o o') {c d s : Int} (h : LD o' c d s) : LD o c d s := by
  obtain ⟨v, h1, h2⟩ := h
  exact ⟨v, by rw [← leads_cg u.1 u.2.1]; exact h1, h2⟩
theorem SV.cg {o o' : OO} (u : U38 o o') (c d : Int) : SV o' c d = SV o c d := by
  unfold SV
  rw [u.2.1]
theorem GV_le {o o' : OO} (u : U38 o o') (c w y d : Int) : GV o' c w y d ≤ GV o c w y d := by
  unfold GV
  rw [SV.cg u, u.2.2.1]
  have := u.2.2.2 (5 * d + y).toNat
  omega
theorem FN.mono {o o' : OO} (u : U38 o o') {k : Int} (h : FN o k) : FN o' k := Int.lt_of_le_of_lt (u.2.2.2 k.toNat) h
def CK (o : OO) (g s c w y : Int) : Prop := ¬ c = g → LD o c (bsd c y) s → FN o (5 * bsd c y + y) → o.1 38 (5 * c + w).toNat ≤ GV o c w y (bsd c y)
theorem CK.cg {o o' : OO} (u : U38 o o') (hs : ∀ k, o'.1 38 k = o.1 38 k) {g s c w y : Int} (h : CK o g s c w y) : CK o' g s c w y := by
  intro h1 h2 h3
  have h4 := h h1 (LD.gc u h2) (by unfold FN at h3 ⊢; rw [← hs]; exact h3)
  rw [hs]
  have : GV o' c w y (bsd c y) = GV o c w y (bsd c y) := by
    unfold GV
    rw [SV.cg u, u.2.2.1, hs]
  rw [this]
  exact h4
def B0 (o : OO) (g : Int) : Prop := ∀ w : Int, 0 ≤ w → w ≤ 4 → o.1 38 (5 * g + w).toNat = 0
def B1 (o : OO) (g s : Int) : Prop := ∀ c y w : Int, 0 ≤ c → c ≤ 63 → 0 ≤ y → y ≤ 3 → 0 ≤ w → w ≤ 4 → CK o g s c w y
def B2 (o : OO) (g s : Int) : Prop := ∀ c w : Int, 0 ≤ c → c ≤ 63 → ¬ c = g → 0 ≤ w → w ≤ 4 → FN o (5 * c + w) → ∃ y : Int, 0 ≤ y ∧ y ≤ 3 ∧ LD o c (bsd c y) s ∧ FN o (5 * bsd c y + y) ∧ GV o c w y (bsd c y) ≤ o.1 38 (5 * c + w).toNat
def CF (o : OO) : Int := CG (fun k => 99999999 - o.1 38 k) 320
def B3 (o : OO) : Prop := ∀ k : Nat, k < 320 → o.1 38 k < 100000000 → o.1 38 k ≤ 3000 * CF o
def SBI (o : OO) (g s : Int) : Prop := B0 o g ∧ B2 o g s ∧ B3 o
def INI (o : OO) (g n : Int) : Prop := ∀ k : Int, 0 ≤ k → k < n → (k / 5 = g → o.1 38 k.toNat = 0) ∧ (¬ k / 5 = g → o.1 38 k.toNat = 100000000)
theorem INI_0 {o : OO} {g : Int} : INI o g 0 := fun k h0 h1 => absurd h1 (by omega)
theorem INI_s {o : OO} {g n x : Int} (h : INI o g n) (h0 : 0 ≤ n) (hx : (n / 5 = g ∧ x = 0) ∨ (¬ n / 5 = g ∧ x = 100000000)) : INI (st1 o 38 n.toNat x) g (n + 1) := by
  intro k q0 q1
  show (k / 5 = g → (if k.toNat = n.toNat then x else o.1 38 k.toNat) = 0) ∧ (¬ k / 5 = g → (if k.toNat = n.toNat then x else o.1 38 k.toNat) = 100000000)
  by_cases e : k.toNat = n.toNat
  · have : k = n := by omega
    subst this
    rw [if_pos e]
    omega
  · rw [if_neg e]
    exact h k q0 (by omega)
theorem SBI_0 {o : OO} {g s : Int} (hg : 0 ≤ g ∧ g ≤ 63) (h : INI o g 320) : SBI o g s := by
  refine ⟨fun w h0 h1 => (h (5 * g + w) (by omega) (by omega)).1 (by omega), ?_, ?_⟩
  · intro c w c0 c1 hc w0 w1 hf
    have := (h (5 * c + w) (by omega) (by omega)).2 (by omega)
    unfold FN at hf
    omega
  · intro k hk hf
    have h1 := h (k : Int) (by omega) (by omega)
    have e : ((k : Int)).toNat = k := by omega
    rw [e] at h1
    have h2 := (CG_le (f := fun k => 99999999 - o.1 38 k) (n := 320) (by omega)).2
    have h3 : 0 ≤ CF o := h2
    by_cases q : (k : Int) / 5 = g
    · have := h1.1 q
      omega
    · have := h1.2 q
      omega
theorem U38_st {o : OO} {i : Nat} {x : Int} (hx : x ≤ o.1 38 i) : U38 o (st1 o 38 i x) := by
  refine ⟨rfl, rfl, rfl, fun k => ?_⟩
  show (if k = i then x else o.1 38 k) ≤ o.1 38 k
  split
  · rename_i e; rw [e]; exact hx
  · exact Int.le_refl _
theorem st38_ne {o : OO} {i k : Nat} {x : Int} (h : ¬ k = i) : (st1 o 38 i x).1 38 k = o.1 38 k := by
  show (if k = i then x else o.1 38 k) = _
  rw [if_neg h]
theorem st38_eq {o : OO} {i : Nat} {x : Int} : (st1 o 38 i x).1 38 i = x := by
  show (if i = i then x else o.1 38 i) = _
  rw [if_pos rfl]
theorem st38_same {o : OO} {i : Nat} {x : Int} (hx : x = o.1 38 i) (k : Nat) : (st1 o 38 i x).1 38 k = o.1 38 k := by
  show (if k = i then x else o.1 38 k) = _
  split
  · rename_i e; rw [e]; exact hx
  · rfl
theorem CF_cg {o o' : OO} (h : ∀ k, o'.1 38 k = o.1 38 k) : CF o' = CF o := CG_cg (fun k => by rw [h])
theorem SBI_step {o : OO} {g s c w y d x : Int} (hB : BoxM o) (h : SBI o g s) (c0 : 0 ≤ c ∧ c ≤ 63) (hc : ¬ c = g) (hg : 0 ≤ g ∧ g ≤ 63) (w0 : 0 ≤ w ∧ w ≤ 4) (y0 : 0 ≤ y ∧ y ≤ 3) (hd : d = bsd c y) (d0 : 0 ≤ d ∧ d ≤ 63) (ld : LD o c d s) (fn : FN o (5 * d + y)) (hx : (x = GV o c w y d ∧ x < o.1 38 (5 * c + w).toNat) ∨ x = o.1 38 (5 * c + w).toNat) : SBI (st1 o 38 (5 * c + w).toNat x) g s := by
  subst hd
  have u : U38 o (st1 o 38 (5 * c + w).toNat x) := U38_st (by omega)
  rcases hx with ⟨hx, hl⟩ | hx
  · refine ⟨?_, ?_, ?_⟩
    · intro v v0 v1
      rw [st38_ne (by omega)]
      exact h.1 v v0 v1
    · intro c' w' c0' c1' hc' w0' w1' hf
      by_cases e : (5 * c' + w').toNat = (5 * c + w).toNat
      · have e1 : c' = c := by omega
        have e2 : w' = w := by omega
        subst e1 e2
        refine ⟨y, y0.1, y0.2, ld.cg u, fn.mono u, ?_⟩
        rw [st38_eq]
        have := GV_le u c' w' y (bsd c' y)
        omega
      · have hf' : FN o (5 * c' + w') := by unfold FN at hf ⊢; rw [st38_ne e] at hf; exact hf
        obtain ⟨y', p0, p1, p2, p3, p4⟩ := h.2.1 c' w' c0' c1' hc' w0' w1' hf'
        refine ⟨y', p0, p1, p2.cg u, p3.mono u, ?_⟩
        rw [st38_ne e]
        have := GV_le u c' w' y' (bsd c' y')
        omega
    · have hCF : CF (st1 o 38 (5 * c + w).toNat x) = CG (fun j => if j = (5 * c + w).toNat then 99999999 - x else 99999999 - o.1 38 j) 320 := CG_cg (fun j => by
        show 99999999 - (if j = (5 * c + w).toNat then x else o.1 38 j) = _
        split <;> rfl)
      have hxf : x < 100000000 := by
        have := bM_38 hB (5 * c + w).toNat
        omega
      have hxn : x ≤ 2995 + o.1 38 (5 * bsd c y + y).toNat := by
        have q1 := SV_rng hB c (bsd c y)
        have q2 := TN_rng w y
        have q3 := bM_39 hB (bsd c y).toNat
        rw [hx]
        unfold GV
        omega
      have hfn := h.2.2 (5 * bsd c y + y).toNat (by omega) fn
      by_cases q : o.1 38 (5 * c + w).toNat < 100000000
      · have e : CF (st1 o 38 (5 * c + w).toNat x) = CF o := by
          rw [hCF]
          exact CG_same (f := fun j => 99999999 - o.1 38 j) (i := (5 * c + w).toNat) (x := 99999999 - x) (by show 99999999 - o.1 38 (5 * c + w).toNat < 0 ↔ _; omega)
        intro k hk hf
        rw [e]
        by_cases ek : k = (5 * c + w).toNat
        · subst ek
          rw [st38_eq]
          have := h.2.2 (5 * c + w).toNat hk q
          omega
        · rw [st38_ne ek] at hf ⊢
          exact h.2.2 k hk hf
      · have e : CF (st1 o 38 (5 * c + w).toNat x) = CF o + 1 := by
          rw [hCF]
          exact CG_upd (f := fun j => 99999999 - o.1 38 j) (n := 320) (i := 5 * c + w) (x := 99999999 - x) (by omega) (by omega) (by show 99999999 - o.1 38 (5 * c + w).toNat < 0; omega) (by omega)
        intro k hk hf
        rw [e]
        by_cases ek : k = (5 * c + w).toNat
        · subst ek
          rw [st38_eq]
          omega
        · rw [st38_ne ek] at hf ⊢
          have := h.2.2 k hk hf
          omega
  · have hs := fun k => st38_same (o := o) (i := (5 * c + w).toNat) (x := x) hx k
    refine ⟨fun v v0 v1 => by rw [hs]; exact h.1 v v0 v1, ?_, ?_⟩
    · intro c' w' c0' c1' hc' w0' w1' hf
      have hf' : FN o (5 * c' + w') := by unfold FN at hf ⊢; rw [hs] at hf; exact hf
      obtain ⟨y', p0, p1, p2, p3, p4⟩ := h.2.1 c' w' c0' c1' hc' w0' w1' hf'
      refine ⟨y', p0, p1, p2.cg u, p3.mono u, ?_⟩
      rw [hs]
      have := GV_le u c' w' y' (bsd c' y')
      omega
    · intro k hk hf
      rw [hs] at hf ⊢
      rw [CF_cg hs]
      exact h.2.2 k hk hf
def CKW (o : OO) (c y d n : Int) : Prop := ∀ w : Int, 0 ≤ w → w < n → o.1 38 (5 * c + w).toNat ≤ GV o c w y d
theorem CKW_0 {o : OO} {c y d : Int} : CKW o c y d 0 := fun w h0 h1 => absurd h1 (by omega)
theorem GV.cg {o o' : OO} (u : U38 o o') (hs : ∀ k, o'.1 38 k = o.1 38 k) (c w y d : Int) : GV o' c w y d = GV o c w y d := by
  unfold GV
  rw [SV.cg u, u.2.2.1, hs]
theorem CKW_s {o o' : OO} {c y d n : Int} (u : U38 o o') (hs : ∀ k, o'.1 38 k = o.1 38 k) (h : CKW o c y d n) (hn : o.1 38 (5 * c + n).toNat ≤ GV o c n y d) : CKW o' c y d (n + 1) := by
  intro w h0 h1
  rw [hs, GV.cg u hs]
  rcases Classical.em (w = n) with e | e
  · subst e; exact hn
  · exact h w h0 (by omega)
def CKY (o : OO) (g s c n : Int) : Prop := ∀ y w : Int, 0 ≤ y → y < n → 0 ≤ w → w ≤ 4 → CK o g s c w y
theorem CKY_0 {o : OO} {g s c : Int} : CKY o g s c 0 := fun y w h0 h1 => absurd h1 (by omega)
theorem CKY_s {o o' : OO} {g s c n : Int} (u : U38 o o') (hs : ∀ k, o'.1 38 k = o.1 38 k) (h : CKY o g s c n) (hn : ∀ w : Int, 0 ≤ w → w ≤ 4 → CK o' g s c w n) : CKY o' g s c (n + 1) := by
  intro y w h0 h1 h2 h3
  rcases Classical.em (y = n) with e | e
  · subst e; exact hn w h2 h3
  · exact (h y w h0 (by omega) h2 h3).cg u hs
def CKC (o : OO) (g s n : Int) : Prop := ∀ c y w : Int, 0 ≤ c → c < n → 0 ≤ y → y ≤ 3 → 0 ≤ w → w ≤ 4 → CK o g s c w y
theorem CKC_0 {o : OO} {g s : Int} : CKC o g s 0 := fun c y w h0 h1 => absurd h1 (by omega)
theorem CKC_s {o o' : OO} {g s n : Int} (u : U38 o o') (hs : ∀ k, o'.1 38 k = o.1 38 k) (h : CKC o g s n) (hn : CKY o' g s n 4) : CKC o' g s (n + 1) := by
  intro c y w h0 h1 h2 h3 h4 h5
  rcases Classical.em (c = n) with e | e
  · subst e; exact hn y w h2 (by omega) h4 h5
  · exact (h c y w h0 (by omega) h2 h3 h4 h5).cg u hs
theorem CK_skip1 {o : OO} {g s c y : Int} (h : c = g) : ∀ w : Int, 0 ≤ w → w ≤ 4 → CK o g s c w y := fun _ _ _ h1 => absurd h h1
theorem CK_skip2 {o : OO} {g s c y d r : Int} (hd : d = bsd c y) (h : s_X12_leads o c d s = some r) (hr : r = 0) : ∀ w : Int, 0 ≤ w → w ≤ 4 → CK o g s c w y := by
  intro w _ _ _ h2
  obtain ⟨v, q1, q2⟩ := h2
  rw [← hd, h] at q1
  have := Option.some.inj q1
  omega
theorem CK_skip3 {o : OO} {g s c y d : Int} (hd : d = bsd c y) (h : ¬ o.1 38 (5 * d + y).toNat < 100000000) : ∀ w : Int, 0 ≤ w → w ≤ 4 → CK o g s c w y := by
  intro w _ _ _ _ h3
  rw [← hd] at h3
  exact absurd h3 h
theorem CK_of {o : OO} {g s c y d : Int} (hd : d = bsd c y) (h : CKW o c y d 5) : ∀ w : Int, 0 ≤ w → w ≤ 4 → CK o g s c w y := by
  intro w h0 h1 _ _ _
  rw [← hd]
  exact h w h0 (by omega)
theorem U38.of {L : List (Nat × Nat)} {o o' : OO} (hf : Fr L o o') (h1 : ∀ k, wr L 11 k = false) (h2 : ∀ k, wr L 12 k = false) (h3 : ∀ k, wr L 39 k = false) (h4 : ∀ k, o'.1 38 k ≤ o.1 38 k) : U38 o o' := ⟨funext (fun k => hf.1 11 k (h1 k)), funext (fun k => hf.1 12 k (h2 k)), funext (fun k => hf.1 39 k (h3 k)), h4⟩
theorem SV_eq {o : OO} {c d n2 n4 n5 : Int} (e2 : n2 = o.1 12 c.toNat) (e4 : n4 = o.1 12 d.toNat) (e5 : n5 = n2 - n4) : (n5 < 0 → -n5 = SV o c d) ∧ (¬ n5 < 0 → n5 = SV o c d) := by
  subst e2 e4 e5
  unfold SV
  exact ⟨fun h => (if_pos h).symm, fun h => (if_neg h).symm⟩
theorem U38_rf (o : OO) : U38 o o := ⟨rfl, rfl, rfl, fun _ => Int.le_refl _⟩
