-- ---------- of the reference: reads
theorem ra_reads {o : OO} {x1 : Int} (h1 : 0 ≤ x1) (hl : o.1 5 x1.toNat ≤ 40) (hn : 0 ≤ o.1 5 x1.toNat) : Pa (s_X12_reads o x1) (fun v => v.1 = FT (TXF o x1) (o.1 5 x1.toNat) 40 0 ∧ Sm 10 o v.2 ∧ (v.1 = -9 → ∀ w : Nat, w < 8 → v.2.1 10 w = IT (-9) (TXF o x1) (o.1 5 x1.toNat) w (o.1 5 x1.toNat).toNat)) := by
  unfold s_X12_reads e_X12_reads_2
  refine Pa_qB (P := fun v => FL 10 o v 0 8 (-9)) ?_ (fun u hu => ?_)
  · refine Pa_loop (I := fun s => (0 ≤ s.2 ∧ s.2 ≤ 8) ∧ FL 10 o s.1 0 s.2 (-9)) ⟨⟨show (0 : Int) ≤ 0 by decide, show (0 : Int) ≤ 8 by decide⟩, FL_0⟩ (fun s hs => ?_)
    obtain ⟨u, i⟩ := s
    obtain ⟨⟨i1, i2⟩, i3⟩ := hs
    replace i1 : 0 ≤ i := i1
    replace i2 : i ≤ 8 := i2
    replace i3 : FL 10 o u 0 i (-9) := i3
    show Pa (l_X12_reads_2 x1 u i) _
    unfold l_X12_reads_2
    refine Pa_qLt (fun _ _ h => Pa_qIn (fun hi => Pa_qNm (Pa_some ?_))) (fun _ _ h => Pa_some ?_)
    · show (0 ≤ i + 1 ∧ i + 1 ≤ 8) ∧ FL 10 o (st1 u 10 i.toNat (-9)) 0 (i + 1) (-9)
      exact ⟨⟨by omega, by omega⟩, FL_s i3 hi.1 i1⟩
    · show FL 10 o u 0 8 (-9)
      have e : i = 8 := by omega
      rw [e] at i3
      exact i3
  unfold b_X12_reads_22 e_X12_reads_24
  obtain ⟨f, hf⟩ : ∃ f, f = TXF o x1 := ⟨_, rfl⟩
  obtain ⟨n, hnn⟩ : ∃ n, n = o.1 5 x1.toNat := ⟨_, rfl⟩
  rw [← hf, ← hnn]
  rw [← hnn] at hl hn
  have at_ : ∀ (y : OO) (i : Int), Sm 10 o y → 0 ≤ i → y.1 6 (40 * x1 + i).toNat = f i.toNat := fun y i hy hi => by
    rw [hy 6 _ (by decide), hf]
    show o.1 6 (40 * x1 + i).toNat = o.1 6 (40 * x1.toNat + i.toNat)
    exact congrArg (o.1 6) (by omega)
  have ln_ : ∀ y : OO, Sm 10 o y → y.1 5 x1.toNat = n := fun y hy => by rw [hy 5 _ (by decide), hnn]
  refine Pa_qB (P := fun v => Sum.elim (fun r : OO × Int => r.2 = FT f n 40 0 ∧ Sm 10 o r.1 ∧ 0 ≤ r.2) (Sum.elim (fun r : OO × Int => r.2 = FT f n 40 0 ∧ Sm 10 o r.1 ∧ 0 ≤ r.2) (fun r : OO => -9 = FT f n 40 0 ∧ Sm 10 o r ∧ ∀ w : Nat, w < 8 → r.1 10 w = IT (-9) f n w n.toNat)) v) ?_ (fun v hv => ?_)
  · refine Pa_loop (I := fun s => (0 ≤ s.2 ∧ s.2 ≤ n) ∧ Sm 10 o s.1 ∧ FT f n 40 0 = FT f n 40 s.2.toNat ∧ ∀ w : Nat, w < 8 → s.1.1 10 w = IT (-9) f n w s.2.toNat) ⟨⟨by exact Int.le_refl _, hn⟩, hu.2, rfl, fun w hw => by show u.1 10 w = IT (-9) f n w 0; rw [hu.1 w, if_pos (by omega)]; rfl⟩ (fun s hs => ?_)
    obtain ⟨y, i⟩ := s
    obtain ⟨⟨i1, i2⟩, i3, i4, i5⟩ := hs
    replace i1 : 0 ≤ i := i1
    replace i2 : i ≤ n := i2
    replace i3 : Sm 10 o y := i3
    replace i4 : FT f n 40 0 = FT f n 40 i.toNat := i4
    replace i5 : ∀ w : Nat, w < 8 → y.1 10 w = IT (-9) f n w i.toNat := i5
    show Pa (l_X12_reads_24 x1 y i) _
    unfold l_X12_reads_24
    refine Pa_qIn (fun _ => Pa_qNm ?_)
    rw [ln_ y i3]
    refine Pa_qLt (fun _ _ h => Pa_qIn (fun _ => Pa_qNm ?_)) (fun _ _ h => Pa_some ?_)
    · rw [at_ y i i3 i1]
      have hi_ : ((i.toNat : Nat) : Int) < n := by omega
      refine Pa_qEq (fun h3 => Pa_some ?_) (fun h3 => ?_)
      · show (0 ≤ i + 1 ∧ i + 1 ≤ n) ∧ Sm 10 o y ∧ FT f n 40 0 = FT f n 40 (i + 1).toNat ∧ ∀ w : Nat, w < 8 → y.1 10 w = IT (-9) f n w (i + 1).toNat
        rw [show (i + 1).toNat = i.toNat + 1 by omega]
        refine ⟨⟨by omega, by omega⟩, i3, by rw [i4, FT_32 hl hi_ h3], fun w hw => ?_⟩
        rw [i5 w hw, IT_s (by rw [h3, LT_32]; omega)]
      refine Pa_qB (ra_letter (f i.toNat)) (fun r hr => Pa_qLt (fun _ _ h4 => Pa_some ?_) (fun _ _ h4 => ?_))
      · show i = FT f n 40 0 ∧ Sm 10 o y ∧ 0 ≤ i
        have hl9 := LT_rng (f i.toNat)
        refine ⟨?_, i3, i1⟩
        rw [i4, FT_bad hi_ h3 (by omega)]
        omega
      have hl9 : ¬ LTR (f i.toNat) = -9 := by omega
      unfold e_X12_reads_76
      -- the digits
      refine Pa_qB (P := fun r : Int × Int × Int => r.1 = i + 1 + r.2.1 ∧ r.2.1 = (DG f n (i.toNat + 1) : Int) ∧ r.2.2 = NBR f (i.toNat + 1) (DG f n (i.toNat + 1))) ?_ (fun r9 h9 => ?_)
      · refine Pa_loop (I := fun s : Int × Int × Int => (0 ≤ s.2.1 ∧ s.2.1 ≤ 4) ∧ s.1 = i + 1 + s.2.1 ∧ DG f n (i.toNat + 1) = s.2.1.toNat + DGn f n (i.toNat + 1 + s.2.1.toNat) (4 - s.2.1.toNat) ∧ s.2.2 = NBR f (i.toNat + 1) s.2.1.toNat) ⟨⟨by exact Int.le_refl _, by show (0 : Int) ≤ 4; decide⟩, by show i + 1 = i + 1 + 0; omega, by show DG _ _ _ = 0 + DGn _ _ (i.toNat + 1 + 0) 4; rw [Nat.zero_add]; rfl, rfl⟩ (fun s hs => ?_)
        obtain ⟨a, d, m⟩ := s
        obtain ⟨⟨d1, d2⟩, d3, d4, d5⟩ := hs
        replace d1 : 0 ≤ d := d1
        replace d2 : d ≤ 4 := d2
        replace d3 : a = i + 1 + d := d3
        replace d4 : DG f n (i.toNat + 1) = d.toNat + DGn f n (i.toNat + 1 + d.toNat) (4 - d.toNat) := d4
        replace d5 : m = NBR f (i.toNat + 1) d.toNat := d5
        have ea : a.toNat = i.toNat + 1 + d.toNat := by omega
        have stop : ¬ (((i.toNat + 1 + d.toNat : Nat) : Int) < n ∧ 48 ≤ f (i.toNat + 1 + d.toNat) ∧ f (i.toNat + 1 + d.toNat) ≤ 57) → a = i + 1 + d ∧ d = (DG f n (i.toNat + 1) : Int) ∧ m = NBR f (i.toNat + 1) (DG f n (i.toNat + 1)) := fun q => by
          have e : DG f n (i.toNat + 1) = d.toNat := by rw [d4, DGn_n q]; rfl
          exact ⟨d3, by rw [e]; omega, by rw [e, d5]⟩
        show Pa (l_X12_reads_76 y x1 (f i.toNat) a d m) _
        unfold l_X12_reads_76
        refine Pa_qIn (fun _ => Pa_qNm ?_)
        rw [ln_ y i3]
        refine Pa_qLt (fun _ _ h5 => Pa_qLt (fun _ _ h6 => Pa_qIn (fun _ => Pa_qNm ?_)) (fun _ _ h6 => Pa_some ?_)) (fun _ _ h5 => Pa_some ?_)
        · rw [at_ y a i3 (by omega), ea]
          refine Pa_qB (ra_in (f (i.toNat + 1 + d.toNat)) 48 57) (fun r7 h7 => Pa_qEq (fun h8 => Pa_some ?_) (fun h8 => Pa_qIn (fun _ => Pa_qNm (Pa_qNm (Pa_some ?_)))))
          · show a = i + 1 + d ∧ d = (DG f n (i.toNat + 1) : Int) ∧ m = NBR f (i.toNat + 1) (DG f n (i.toNat + 1))
            exact stop (by omega)
          · show (0 ≤ d + 1 ∧ d + 1 ≤ 4) ∧ a + 1 = i + 1 + (d + 1) ∧ DG f n (i.toNat + 1) = (d + 1).toNat + DGn f n (i.toNat + 1 + (d + 1).toNat) (4 - (d + 1).toNat) ∧ 10 * m + f (i.toNat + 1 + d.toNat) - 48 = NBR f (i.toNat + 1) (d + 1).toNat
            refine ⟨⟨by omega, by omega⟩, by omega, ?_, ?_⟩
            · rw [d4, show 4 - d.toNat = 4 - (d + 1).toNat + 1 by omega, DGn_s (by omega), show i.toNat + 1 + (d + 1).toNat = i.toNat + 1 + d.toNat + 1 by omega]
              omega
            · rw [show (d + 1).toNat = d.toNat + 1 by omega]
              show 10 * m + f (i.toNat + 1 + d.toNat) - 48 = 10 * NBR f (i.toNat + 1) d.toNat + f (i.toNat + 1 + d.toNat) - 48
              rw [d5]
        · show a = i + 1 + d ∧ d = (DG f n (i.toNat + 1) : Int) ∧ m = NBR f (i.toNat + 1) (DG f n (i.toNat + 1))
          have e4 : d = 4 := by omega
          have e : DG f n (i.toNat + 1) = d.toNat := by
            rw [d4, show 4 - d.toNat = 0 by omega]
            rfl
          exact ⟨d3, by rw [e]; omega, by rw [e, d5]⟩
        · show a = i + 1 + d ∧ d = (DG f n (i.toNat + 1) : Int) ∧ m = NBR f (i.toNat + 1) (DG f n (i.toNat + 1))
          exact stop (by omega)
      obtain ⟨a, d, m⟩ := r9
      obtain ⟨g1, g2, g3⟩ := h9
      replace g1 : a = i + 1 + d := g1
      replace g2 : d = (DG f n (i.toNat + 1) : Int) := g2
      replace g3 : m = NBR f (i.toNat + 1) (DG f n (i.toNat + 1)) := g3
      show Pa (b_X12_reads_144 y x1 a (f i.toNat) d m) _
      unfold b_X12_reads_144
      refine Pa_qEq (fun h5 => Pa_some ?_) (fun h5 => ?_)
      · show a = FT f n 40 0 ∧ Sm 10 o y ∧ 0 ≤ a
        refine ⟨?_, i3, by omega⟩
        rw [i4, FT_nod hi_ h3 hl9 (by omega)]
        omega
      refine Pa_qB (ra_letter (f i.toNat)) (fun r2 hr2 => Pa_qIn (fun hr3 => Pa_qNm (Pa_some ?_)))
      show (0 ≤ a ∧ a ≤ n) ∧ Sm 10 o (st1 y 10 r2.toNat m) ∧ FT f n 40 0 = FT f n 40 a.toNat ∧ ∀ w : Nat, w < 8 → (st1 y 10 r2.toNat m).1 10 w = IT (-9) f n w a.toNat
      have ea : a.toNat = i.toNat + 1 + DG f n (i.toNat + 1) := by omega
      have eE := DG_end (f := f) (len := n) (i := i.toNat + 1) (by omega)
      refine ⟨⟨by omega, by omega⟩, fun k j hk => by rw [st1_n hk]; exact i3 k j hk, ?_, fun w hw => ?_⟩
      · rw [i4, FT_item hl hi_ h3 hl9 (by omega), ea]
      · rw [ea, IT_skip (by omega) _ (Nat.le_refl _), st1_s]
        by_cases q : w = r2.toNat
        · rw [if_pos q, IT_h (by omega), g3]
        · rw [if_neg q, IT_s (by omega)]
          exact i5 w hw
    · show -9 = FT f n 40 0 ∧ Sm 10 o y ∧ ∀ w : Nat, w < 8 → y.1 10 w = IT (-9) f n w n.toNat
      have e : i = n := by omega
      rw [e] at i4 i5
      exact ⟨by rw [i4, FT_out (by omega)], i3, i5⟩
  · rcases v with v | v | v
    · obtain ⟨a, b⟩ := v
      obtain ⟨v1, v2, v3⟩ := hv
      show Pa (b_X12_reads_65 a b) _
      unfold b_X12_reads_65
      replace v3 : 0 ≤ b := v3
      exact Pa_some ⟨v1, v2, fun q => absurd (show b = -9 from q) (by omega)⟩
    · obtain ⟨a, b⟩ := v
      obtain ⟨v1, v2, v3⟩ := hv
      show Pa (b_X12_reads_149 a b) _
      unfold b_X12_reads_149
      replace v3 : 0 ≤ b := v3
      exact Pa_some ⟨v1, v2, fun q => absurd (show b = -9 from q) (by omega)⟩
    · obtain ⟨v1, v2, v3⟩ := hv
      show Pa (b_X12_reads_165 v) _
      unfold b_X12_reads_165
      exact Pa_some ⟨v1, v2, fun _ => v3⟩
-- ---------- fault
def FAA (b : Prop) (n : Int) (x1 f r : Int) : Prop := (¬ (0 ≤ x1 ∧ x1 ≤ 3) ∧ r = -1) ∨ ((0 ≤ x1 ∧ x1 ≤ 3) ∧ b ∧ r = -3) ∨ ((0 ≤ x1 ∧ x1 ≤ 3) ∧ ¬ b ∧ r = f)
theorem ra_fault_C {o : OO} (hn : o.1 4 0 = 4) (hl : ∀ r, o.1 5 r ≤ 40) (x1 : Int) : Pa (s_X11_fault o x1) (fun v => FAA (o.1 5 x1.toNat = -1) (o.1 5 x1.toNat) x1 (FT (TXF o x1) (o.1 5 x1.toNat) 40 0) v.1) := by
  unfold s_X11_fault
  refine Pa_qB (ra_exists__4 hn x1) (fun r hr => Pa_qEq (fun h => ?_) (fun h => ?_))
  · exact Pa_some (Or.inl ⟨by omega, rfl⟩)
  refine Pa_qB (ra_isThere__4 o x1) (fun r2 hr2 => Pa_qEq (fun h2 => ?_) (fun h2 => ?_))
  · exact Pa_qB2 (ra_found o 1) (fun r9 o9 h9 => Pa_some (Or.inr (Or.inl ⟨by omega, by omega, h9.1⟩)))
  · exact Pa_qB (ra_firstFault (by omega) (hl _)) (fun r9 h9 => Pa_some (Or.inr (Or.inr ⟨by omega, by omega, h9⟩)))
theorem ra_fault_M {o : OO} (hl : ∀ r, o.1 5 r ≤ 40) (x1 : Int) : Pa (s_X12_fault o x1) (fun v => FAA (o.1 5 x1.toNat < 0) (o.1 5 x1.toNat) x1 (FT (TXF o x1) (o.1 5 x1.toNat) 40 0) v.1) := by
  unfold s_X12_fault b_X12_fault_19
  refine Pa_qB2 (ra_askedText o x1) (fun r u hr => ?_)
  refine Pa_qLt (fun _ _ h => Pa_some ?_) (fun _ _ h => ?_)
  · rcases hr with ⟨e, q, e2⟩ | ⟨e, q, q2, e2⟩ | ⟨e, q, q2, e2⟩
    · exact Or.inl ⟨q, e⟩
    · exact Or.inr (Or.inl ⟨q, q2, e⟩)
    · replace e : r = 0 := e
      omega
  · rcases hr with ⟨e, q, e2⟩ | ⟨e, q, q2, e2⟩ | ⟨e, q, q2, e2⟩
    · replace e : r = -1 := e
      omega
    · replace e : r = -3 := e
      omega
    · replace e2 : u = o := e2
      subst e2
      exact Pa_qB2 (ra_reads (by omega) (hl _) (by omega)) (fun r9 o9 h9 => Pa_some (Or.inr (Or.inr ⟨q, q2, h9.1⟩)))
theorem SH6.sg {oC oM : OO} (h : SH6 oC oM) {x1 : Int} (q : 0 ≤ x1 ∧ x1 ≤ 3) (k : Nat) (hk : (k : Int) < oM.1 5 x1.toNat) : TXF oC x1 k = TXF oM x1 k := h.2 x1.toNat k (by omega) hk
theorem SH6.fault {oC oM : OO} (h : SH6 oC oM) {x1 r r' : Int} (hC : FAA (oC.1 5 x1.toNat = -1) (oC.1 5 x1.toNat) x1 (FT (TXF oC x1) (oC.1 5 x1.toNat) 40 0) r) (hM : FAA (oM.1 5 x1.toNat < 0) (oM.1 5 x1.toNat) x1 (FT (TXF oM x1) (oM.1 5 x1.toNat) 40 0) r') : r = r' := by
  have key : (0 ≤ x1 ∧ x1 ≤ 3) → oC.1 5 x1.toNat = SZ (oM.1 5 x1.toNat) := fun q => h.1 x1.toNat (by omega)
  have kn : oM.1 5 x1.toNat < 0 → SZ (oM.1 5 x1.toNat) = -1 := fun q => SZ_neg q
  have kp : 0 ≤ oM.1 5 x1.toNat → SZ (oM.1 5 x1.toNat) = oM.1 5 x1.toNat := fun q => SZ_nn q
  rcases hC with ⟨a, e⟩ | ⟨a, b, e⟩ | ⟨a, b, e⟩ <;> rcases hM with ⟨a', e'⟩ | ⟨a', b', e'⟩ | ⟨a', b', e'⟩
  · exact e.trans e'.symm
  · exact absurd a' a
  · exact absurd a' a
  · exact absurd a a'
  · exact e.trans e'.symm
  · exfalso; have k1 := key a; have k3 := kp (by omega); omega
  · exact absurd a a'
  · exfalso; have k1 := key a; have k3 := kn b'; omega
  · have k1 := key a
    have k3 := kp (by omega)
    rw [e, e', k1, k3]
    exact FT_cg (fun k hk => h.sg a k hk) 40 0
