set_option maxRecDepth 20000 in
set_option maxHeartbeats 4000000 in
theorem t_X12_in (x0 : Int) (x1 : Int) (x2 : Int) (k0 : inR x0) (k1 : inR x1) (k2 : inR x2) : T (s_X12_in x0 x1 x2) (fun v => ((v = 1 ∧ x1 ≤ x0 ∧ x0 ≤ x2) ∨ (v = 0 ∧ (x0 < x1 ∨ x2 < x0)))) := by
  unfold s_X12_in
  refine T_qLt ⟨by omega, by omega⟩ ⟨by omega, by omega⟩ (fun h1 => ?_) (fun h1 => ?_)
  ·
    unfold b_X12_in_14
    unfold b_X12_in_15
    refine T_qZ (Or.inl rfl) ?_
    refine T_some ?_
    show ((0 = 1 ∧ x1 ≤ x0 ∧ x0 ≤ x2) ∨ (0 = 0 ∧ (x0 < x1 ∨ x2 < x0)))
    exact (by omega)
  ·
    refine T_qLt ⟨by omega, by omega⟩ ⟨by omega, by omega⟩ (fun h2 => ?_) (fun h2 => ?_)
    ·
      unfold b_X12_in_14
      unfold b_X12_in_15
      refine T_qZ (Or.inl rfl) ?_
      refine T_some ?_
      show ((0 = 1 ∧ x1 ≤ x0 ∧ x0 ≤ x2) ∨ (0 = 0 ∧ (x0 < x1 ∨ x2 < x0)))
      exact (by omega)
    ·
      unfold b_X12_in_15
      refine T_qZ (Or.inr rfl) ?_
      refine T_some ?_
      show ((1 = 1 ∧ x1 ≤ x0 ∧ x0 ≤ x2) ∨ (1 = 0 ∧ (x0 < x1 ∨ x2 < x0)))
      exact (by omega)
set_option maxRecDepth 20000 in
set_option maxHeartbeats 4000000 in
theorem t_X12_ask (o : OO) (x1 : Int) (x2 : Int) (hB_o : BoxM o) : T (s_X12_ask o x1 x2) (fun v => BoxM v.2 ∧ (Fr [(0, 2)] o v.2) ∧ (v.1 = x2)) := by
  have fr_o : Fr [(0, 2)] o o := Fr.rf
  unfold s_X12_ask
  refine T_qNm (fun o1 e_o1 => ?_)
  have hB_o1 : BoxM o1 := by rw [e_o1]; exact Box.s1 hB_o (show True from trivial)
  have fr_o1 : Fr [(0, 2)] o o1 := by rw [e_o1]; exact Fr.s1 fr_o rfl
  refine T_some ?_
  show BoxM o1 ∧ (Fr [(0, 2)] o o1) ∧ (x2 = x2)
  exact ⟨hB_o1, fr_o1, (by omega)⟩
set_option maxRecDepth 20000 in
set_option maxHeartbeats 4000000 in
theorem t_X12_act (o : OO) (x1 : Int) (hB_o : BoxM o) (k0 : inR x1) : T (s_X12_act o x1) (fun v => BoxM v.2 ∧ (Fr [(0, 2)] o v.2)) := by
  have fr_o : Fr [(0, 2)] o o := Fr.rf
  have g0_65_o := bM_0_65 hB_o
  unfold s_X12_act
  refine T_qB (t_X12_in x1 0 ((o.1 0 65) - 1) (by omega) (by omega) (by omega)) (fun r1 hc_r1 hp1 => ?_)
  replace hp1 : ((r1 = 1 ∧ 0 ≤ x1 ∧ x1 ≤ ((o.1 0 65) - 1)) ∨ (r1 = 0 ∧ (x1 < 0 ∨ ((o.1 0 65) - 1) < x1))) := hp1
  refine T_qEq ⟨by omega, by omega⟩ ⟨by decide, by decide⟩ (fun h2 => ?_) (fun h2 => ?_)
  ·
    unfold b_X12_act_35
    refine T_some ?_
    show BoxM o ∧ (Fr [(0, 2)] o o)
    exact ⟨hB_o, fr_o⟩
  ·
    refine T_qIn ⟨by omega, by omega⟩ ?_
    refine T_qNm (fun n4 e_n4 => ?_)
    have b_n4 : -2147483648 ≤ n4 ∧ n4 ≤ 2147483647 := by rw [e_n4]; exact bM_55 hB_o _
    refine T_qIn ⟨by omega, by omega⟩ ?_
    refine T_qNm (fun n6 e_n6 => ?_)
    have b_n6 : -9 ≤ n6 ∧ n6 ≤ 100000 := by rw [e_n6]; exact bM_54 hB_o _
    refine T_qB2 (t_X12_ask o n4 n6 hB_o) (fun r7 o9 hc_r7 hp3 => ?_)
    replace hp3 : BoxM o9 ∧ (Fr [(0, 2)] o o9) ∧ (r7 = n6) := hp3
    obtain ⟨hB_o9, fc_o9, hp3⟩ := hp3
    have fr_o9 : Fr [(0, 2)] o o9 := Fr.tr fr_o fc_o9 rfl
    have g0_65_o9 : o9.1 0 65 = o.1 0 65 := fc_o9.1 0 65 rfl
    unfold b_X12_act_35
    refine T_some ?_
    show BoxM o9 ∧ (Fr [(0, 2)] o o9)
    exact ⟨hB_o9, fr_o9⟩
set_option maxRecDepth 20000 in
set_option maxHeartbeats 4000000 in
theorem t_X12_isRow (x0 : Int) (k0 : inR x0) : T (s_X12_isRow x0) (fun v => ((v = 1 ∧ 0 ≤ x0 ∧ x0 ≤ 5) ∨ (v = 0 ∧ (x0 < 0 ∨ 5 < x0)))) := by
  unfold s_X12_isRow
  refine T_qB (t_X12_in x0 0 5 (by omega) (by omega) (by omega)) (fun r1 hc_r1 hp1 => ?_)
  replace hp1 : ((r1 = 1 ∧ 0 ≤ x0 ∧ x0 ≤ 5) ∨ (r1 = 0 ∧ (x0 < 0 ∨ 5 < x0))) := hp1
  refine T_qZ (by omega) ?_
  refine T_some ?_
  show ((r1 = 1 ∧ 0 ≤ x0 ∧ x0 ≤ 5) ∨ (r1 = 0 ∧ (x0 < 0 ∨ 5 < x0)))
  exact (by omega)
set_option maxRecDepth 20000 in
set_option maxHeartbeats 4000000 in
theorem t_X12_meets (o : OO) (x1 : Int) (hB_o : BoxM o) (k0 : 1 ≤ x1 ∧ x1 ≤ 5) : T (s_X12_meets o x1) (fun v => BoxM v.2 ∧ (Fr [(0, 0), (1, 9999)] o v.2) ∧ (v.1 = -3)) := by
  have fr_o : Fr [(0, 0), (1, 9999)] o o := Fr.rf
  unfold s_X12_meets
  refine T_qNm (fun o1 e_o1 => ?_)
  have hB_o1 : BoxM o1 := by rw [e_o1]; exact Box.s1 hB_o (show 0 ≤ x1 ∧ x1 ≤ 5 from ⟨by omega, by omega⟩)
  have fr_o1 : Fr [(0, 0), (1, 9999)] o o1 := by rw [e_o1]; exact Fr.s1 fr_o rfl
  refine T_qIn ⟨by omega, by omega⟩ ?_
  refine T_qNm (fun n3 e_n3 => ?_)
  refine T_qIn ⟨by omega, by omega⟩ ?_
  refine T_qNm (fun o5 e_o5 => ?_)
  have hB_o5 : BoxM o5 := by rw [e_o5]; exact Box.s1 hB_o1 (show True from trivial)
  have fr_o5 : Fr [(0, 0), (1, 9999)] o o5 := by rw [e_o5]; exact Fr.s1 fr_o1 rfl
  refine T_some ?_
  show BoxM o5 ∧ (Fr [(0, 0), (1, 9999)] o o5) ∧ ((-3) = -3)
  exact ⟨hB_o5, fr_o5, (by omega)⟩
set_option maxRecDepth 20000 in
set_option maxHeartbeats 4000000 in
theorem t_X12_askedRow (o : OO) (x1 : Int) (hB_o : BoxM o) (k0 : inR x1) : T (s_X12_askedRow o x1) (fun v => BoxM v.2 ∧ (Fr [(0, 0), (1, 9999)] o v.2) ∧ (v.1 = -1 ∨ v.1 = -3 ∨ (v.1 = 0 ∧ 0 ≤ x1 ∧ x1 ≤ 5 ∧ 0 ≤ v.2.1 2 x1.toNat))) := by
  have fr_o : Fr [(0, 0), (1, 9999)] o o := Fr.rf
  unfold s_X12_askedRow
  refine T_qB (t_X12_isRow x1 (by omega)) (fun r1 hc_r1 hp1 => ?_)
  replace hp1 : ((r1 = 1 ∧ 0 ≤ x1 ∧ x1 ≤ 5) ∨ (r1 = 0 ∧ (x1 < 0 ∨ 5 < x1))) := hp1
  refine T_qEq ⟨by omega, by omega⟩ ⟨by decide, by decide⟩ (fun h2 => ?_) (fun h2 => ?_)
  ·
    unfold b_X12_askedRow_29
    refine T_some ?_
    show BoxM o ∧ (Fr [(0, 0), (1, 9999)] o o) ∧ ((-1) = -1 ∨ (-1) = -3 ∨ ((-1) = 0 ∧ 0 ≤ x1 ∧ x1 ≤ 5 ∧ 0 ≤ o.1 2 x1.toNat))
    exact ⟨hB_o, fr_o, (by omega)⟩
  ·
    refine T_qIn ⟨by omega, by omega⟩ ?_
    refine T_qNm (fun n4 e_n4 => ?_)
    have b_n4 : -9 ≤ n4 ∧ n4 ≤ 40 := by rw [e_n4]; exact bM_2 hB_o _
    refine T_qLt ⟨by omega, by omega⟩ ⟨by decide, by decide⟩ (fun h3 => ?_) (fun h3 => ?_)
    ·
      refine T_qB2 (t_X12_meets o 1 hB_o (by omega)) (fun r5 o7 hc_r5 hp4 => ?_)
      replace hp4 : BoxM o7 ∧ (Fr [(0, 0), (1, 9999)] o o7) ∧ (r5 = -3) := hp4
      obtain ⟨hB_o7, fc_o7, hp4⟩ := hp4
      have fr_o7 : Fr [(0, 0), (1, 9999)] o o7 := Fr.tr fr_o fc_o7 rfl
      unfold b_X12_askedRow_29
      refine T_some ?_
      show BoxM o7 ∧ (Fr [(0, 0), (1, 9999)] o o7) ∧ (r5 = -1 ∨ r5 = -3 ∨ (r5 = 0 ∧ 0 ≤ x1 ∧ x1 ≤ 5 ∧ 0 ≤ o7.1 2 x1.toNat))
      exact ⟨hB_o7, fr_o7, (by omega)⟩
    ·
      unfold b_X12_askedRow_29
      refine T_some ?_
      show BoxM o ∧ (Fr [(0, 0), (1, 9999)] o o) ∧ (0 = -1 ∨ 0 = -3 ∨ (0 = 0 ∧ 0 ≤ x1 ∧ x1 ≤ 5 ∧ 0 ≤ o.1 2 x1.toNat))
      exact ⟨hB_o, fr_o, (by omega)⟩
set_option maxRecDepth 20000 in
set_option maxHeartbeats 4000000 in
theorem t_X12_ahead (o : OO) (x1 : Int) (x2 : Int) (x3 : Int) (hB_o : BoxM o) (k0 : 0 ≤ x1 ∧ x1 ≤ 5) (k1 : 0 ≤ x2 ∧ x2 ≤ 12) (k2 : 0 ≤ x3 ∧ x3 ≤ 1) : T (s_X12_ahead o x1 x2 x3) (fun v => (inR v) ∧ (v = o.1 3 (40 * x1 + 3 * x2 + 1 + x3).toNat)) := by
  unfold s_X12_ahead
  refine T_qNm (fun n1 e_n1 => ?_)
  refine T_qIn ⟨by omega, by omega⟩ ?_
  refine T_qNm (fun n3 e_n3 => ?_)
  have b_n3 : -2147483648 ≤ n3 ∧ n3 ≤ 2147483647 := by rw [e_n3]; exact bM_3 hB_o _
  refine T_some ?_
  show (inR n3) ∧ (n3 = o.1 3 (40 * x1 + 3 * x2 + 1 + x3).toNat)
  exact ⟨(by omega), (by rw [e_n3, e_n1])⟩
set_option maxRecDepth 20000 in
set_option maxHeartbeats 4000000 in
theorem tl_X12_acts_405 (x1 : Int) (x3 : Int) (x6 : Int) (i_o : OO) (i_x7 : Int) (hB_i_o : BoxM i_o) (k0 : 0 ≤ x1 ∧ x1 ≤ 5) (k1 : 1 ≤ x3 ∧ x3 ≤ 13) (k2 : 0 ≤ x6 ∧ x6 ≤ 100000) (v0 : 0 ≤ i_x7 ∧ i_x7 ≤ x3) (v1 : LTm i_o i_x7 100100) : T (loopW (fun s => l_X12_acts_405 x1 x3 x6 s.1 s.2) (i_o, i_x7)) (fun r => BoxM r ∧ (Fr [(57, 9999)] i_o r) ∧ (LTm r x3 100100)) := by
  have fr_i_o : Fr [(57, 9999)] i_o i_o := Fr.rf
  refine T_loop (fun s => BoxM s.1 ∧ (Fr [(57, 9999)] i_o s.1) ∧ (0 ≤ s.2 ∧ s.2 ≤ x3) ∧ (LTm s.1 s.2 100100)) (fun s => (x3 - s.2).toNat) (by exact ⟨hB_i_o, fr_i_o, v0, v1⟩) (fun s hs => ?_)
  obtain ⟨o, x7⟩ := s
  replace hs : BoxM o ∧ (Fr [(57, 9999)] i_o o) ∧ (0 ≤ x7 ∧ x7 ≤ x3) ∧ (LTm o x7 100100) := hs
  obtain ⟨hB_o, fr_o, w0, w1⟩ := hs
  have g0_4_i := bM_0_4 hB_i_o
  have g0_4_o : o.1 0 4 = i_o.1 0 4 := fr_o.1 0 4 rfl
  show T (l_X12_acts_405 x1 x3 x6 o x7) _
  unfold l_X12_acts_405
  refine T_qLt ⟨by omega, by omega⟩ ⟨by omega, by omega⟩ (fun h1 => ?_) (fun h1 => ?_)
  ·
    refine T_qIn ⟨by omega, by omega⟩ ?_
    refine T_qNm (fun n35 e_n35 => ?_)
    have b_n35 : -9 ≤ n35 ∧ n35 ≤ 100000 := by rw [e_n35]; exact bM_56 hB_o _
    refine T_qIn ⟨by omega, by omega⟩ ?_
    refine T_qNm (fun o37 e_o37 => ?_)
    have hB_o37 : BoxM o37 := by rw [e_o37]; exact Box.s1 hB_o (show -2147483648 ≤ (x6 - n35) ∧ (x6 - n35) ≤ 2147483647 from ⟨by omega, by omega⟩)
    have fr_o37 : Fr [(57, 9999)] i_o o37 := by rw [e_o37]; exact Fr.s1 fr_o rfl
    have g0_4_o37 : o37.1 0 4 = o.1 0 4 := by rw [e_o37]; rfl
    have lt37 : LTm o37 (x7 + 1) 100100 := by rw [e_o37]; exact LTm_s w1 (by omega) ⟨by omega, by omega⟩
    refine T_some ?_
    show (BoxM o37 ∧ (Fr [(57, 9999)] i_o o37) ∧ (0 ≤ (x7 + 1) ∧ (x7 + 1) ≤ x3) ∧ (LTm o37 (x7 + 1) 100100)) ∧ (x3 - (x7 + 1)).toNat < (x3 - x7).toNat
    exact ⟨⟨hB_o37, fr_o37, (by omega), (by first | assumption | exact LTm_0 | exact LTm.up (by assumption) (by omega) | (have q9 := w1; rwa [show x7 = x3 by omega] at q9) | omega)⟩, by omega⟩
  ·
    refine T_some ?_
    show BoxM o ∧ (Fr [(57, 9999)] i_o o) ∧ (LTm o x3 100100)
    exact ⟨hB_o, fr_o, (by first | assumption | exact LTm_0 | exact LTm.up (by assumption) (by omega) | (have q9 := w1; rwa [show x7 = x3 by omega] at q9) | omega)⟩
set_option maxRecDepth 20000 in
set_option maxHeartbeats 4000000 in
theorem tl_X12_acts_364 (o : OO) (x1 : Int) (x3 : Int) (i_x6 : Int) (i_x7 : Int) (hB_o : BoxM o) (k0 : 0 ≤ x1 ∧ x1 ≤ 5) (k1 : 1 ≤ x3 ∧ x3 ≤ 13) (v0 : 0 ≤ i_x7 ∧ i_x7 ≤ x3) (v1 : 0 ≤ i_x6 ∧ i_x6 ≤ 100000) : T (loopW (fun s => l_X12_acts_364 o x1 x3 s.1 s.2) (i_x6, i_x7)) (fun r => (0 ≤ r ∧ r ≤ 100000)) := by
  refine T_loop (fun s => (0 ≤ s.2 ∧ s.2 ≤ x3) ∧ (0 ≤ s.1 ∧ s.1 ≤ 100000)) (fun s => (x3 - s.2).toNat) (by exact ⟨v0, v1⟩) (fun s hs => ?_)
  obtain ⟨x6, x7⟩ := s
  replace hs : (0 ≤ x7 ∧ x7 ≤ x3) ∧ (0 ≤ x6 ∧ x6 ≤ 100000) := hs
  obtain ⟨w0, w1⟩ := hs
  have g0_4_o := bM_0_4 hB_o
  show T (l_X12_acts_364 o x1 x3 x6 x7) _
  unfold l_X12_acts_364
  refine T_qLt ⟨by omega, by omega⟩ ⟨by omega, by omega⟩ (fun h2 => ?_) (fun h2 => ?_)
  ·
    refine T_qIn ⟨by omega, by omega⟩ ?_
    refine T_qNm (fun n39 e_n39 => ?_)
    have b_n39 : -9 ≤ n39 ∧ n39 ≤ 100000 := by rw [e_n39]; exact bM_56 hB_o _
    refine T_qLt ⟨by omega, by omega⟩ ⟨by omega, by omega⟩ (fun h3 => ?_) (fun h3 => ?_)
    ·
      refine T_qIn ⟨by omega, by omega⟩ ?_
      refine T_qNm (fun n41 e_n41 => ?_)
      have b_n41 : -9 ≤ n41 ∧ n41 ≤ 100000 := by rw [e_n41]; exact bM_56 hB_o _
      unfold b_X12_acts_394
      refine T_some ?_
      show ((0 ≤ (x7 + 1) ∧ (x7 + 1) ≤ x3) ∧ (0 ≤ n41 ∧ n41 ≤ 100000)) ∧ (x3 - (x7 + 1)).toNat < (x3 - x7).toNat
      exact ⟨⟨(by omega), (by omega)⟩, by omega⟩
    ·
      unfold b_X12_acts_394
      refine T_some ?_
      show ((0 ≤ (x7 + 1) ∧ (x7 + 1) ≤ x3) ∧ (0 ≤ x6 ∧ x6 ≤ 100000)) ∧ (x3 - (x7 + 1)).toNat < (x3 - x7).toNat
      exact ⟨⟨(by omega), (by omega)⟩, by omega⟩
  ·
    refine T_some ?_
    show (0 ≤ x6 ∧ x6 ≤ 100000)
    exact (by omega)
set_option maxRecDepth 20000 in
set_option maxHeartbeats 4000000 in
theorem tl_X12_acts_582 (x3 : Int) (x6 : Int) (i_o : OO) (i_x7 : Int) (hB_i_o : BoxM i_o) (k0 : 1 ≤ x3 ∧ x3 ≤ 13) (v0 : 0 ≤ i_x7 ∧ i_x7 ≤ x3) : T (loopW (fun s => l_X12_acts_582 x3 x6 s.1 s.2) (i_o, i_x7)) (fun r => BoxM r ∧ (Fr [(54, 9999), (55, 9999)] i_o r)) := by
  have fr_i_o : Fr [(54, 9999), (55, 9999)] i_o i_o := Fr.rf
  refine T_loop (fun s => BoxM s.1 ∧ (Fr [(54, 9999), (55, 9999)] i_o s.1) ∧ (0 ≤ s.2 ∧ s.2 ≤ x3)) (fun s => (x3 - s.2).toNat) (by exact ⟨hB_i_o, fr_i_o, v0⟩) (fun s hs => ?_)
  obtain ⟨o, x7⟩ := s
  replace hs : BoxM o ∧ (Fr [(54, 9999), (55, 9999)] i_o o) ∧ (0 ≤ x7 ∧ x7 ≤ x3) := hs
  obtain ⟨hB_o, fr_o, w0⟩ := hs
  have g0_4_i := bM_0_4 hB_i_o
  have g0_4_o : o.1 0 4 = i_o.1 0 4 := fr_o.1 0 4 rfl
  show T (l_X12_acts_582 x3 x6 o x7) _
  unfold l_X12_acts_582
  refine T_qLt ⟨by omega, by omega⟩ ⟨by omega, by omega⟩ (fun h4 => ?_) (fun h4 => ?_)
  ·
    refine T_qIn ⟨by omega, by omega⟩ ?_
    refine T_qNm (fun n8 e_n8 => ?_)
    have b_n8 : -9 ≤ n8 ∧ n8 ≤ 100000 := by rw [e_n8]; exact bM_56 hB_o _
    refine T_qIn ⟨by omega, by omega⟩ ?_
    refine T_qNm (fun o10 e_o10 => ?_)
    have hB_o10 : BoxM o10 := by rw [e_o10]; exact Box.s1 hB_o (show -9 ≤ n8 ∧ n8 ≤ 100000 from ⟨by omega, by omega⟩)
    have fr_o10 : Fr [(54, 9999), (55, 9999)] i_o o10 := by rw [e_o10]; exact Fr.s1 fr_o rfl
    have g0_4_o10 : o10.1 0 4 = o.1 0 4 := by rw [e_o10]; rfl
    refine T_qIn ⟨by omega, by omega⟩ ?_
    refine T_qNm (fun n12 e_n12 => ?_)
    have b_n12 : -2147483648 ≤ n12 ∧ n12 ≤ 2147483647 := by rw [e_n12]; exact bM_57 hB_o10 _
    refine T_qIn ⟨by omega, by omega⟩ ?_
    refine T_qNm (fun o14 e_o14 => ?_)
    have hB_o14 : BoxM o14 := by rw [e_o14]; exact Box.s1 hB_o10 (show -2147483648 ≤ n12 ∧ n12 ≤ 2147483647 from ⟨by omega, by omega⟩)
    have fr_o14 : Fr [(54, 9999), (55, 9999)] i_o o14 := by rw [e_o14]; exact Fr.s1 fr_o10 rfl
    have g0_4_o14 : o14.1 0 4 = o10.1 0 4 := by rw [e_o14]; rfl
    refine T_some ?_
    show (BoxM o14 ∧ (Fr [(54, 9999), (55, 9999)] i_o o14) ∧ (0 ≤ (x7 + 1) ∧ (x7 + 1) ≤ x3)) ∧ (x3 - (x7 + 1)).toNat < (x3 - x7).toNat
    exact ⟨⟨hB_o14, fr_o14, (by omega)⟩, by omega⟩
  ·
    refine T_some ?_
    show BoxM o ∧ (Fr [(54, 9999), (55, 9999)] i_o o)
    exact ⟨hB_o, fr_o⟩
set_option maxRecDepth 20000 in
set_option maxHeartbeats 4000000 in
theorem tl_X12_acts_99 (o : OO) (x1 : Int) (x3 : Int) (x5 : Int) (i_x4 : Int) (i_x6 : Int) (hB_o : BoxM o) (k0 : 0 ≤ x1 ∧ x1 ≤ 5) (k1 : 1 ≤ x3 ∧ x3 ≤ 13) (k2 : 0 ≤ x5 ∧ x5 < x3) (v0 : 0 ≤ i_x4 ∧ i_x4 ≤ 1) (v1 : 0 ≤ i_x6 ∧ i_x6 ≤ 2) (v2 : i_x4 = 0 ∨ ((1 : Int) = i_x4 ∧ AN o x1 x5 x3 i_x6)) : T (loopW (fun s => l_X12_acts_99 o x1 x3 x5 s.1 s.2) (i_x4, i_x6)) (fun r => (0 ≤ r ∧ r ≤ 1) ∧ (r = 0 ∨ ((1 : Int) = i_x4 ∧ AN o x1 x5 x3 2))) := by
  refine T_loop (fun s => (0 ≤ s.1 ∧ s.1 ≤ 1) ∧ (0 ≤ s.2 ∧ s.2 ≤ 2) ∧ (s.1 = 0 ∨ ((1 : Int) = i_x4 ∧ AN o x1 x5 x3 s.2))) (fun s => (2 - s.2).toNat) (by exact ⟨v0, v1, v2⟩) (fun s hs => ?_)
  obtain ⟨x4, x6⟩ := s
  replace hs : (0 ≤ x4 ∧ x4 ≤ 1) ∧ (0 ≤ x6 ∧ x6 ≤ 2) ∧ (x4 = 0 ∨ ((1 : Int) = i_x4 ∧ AN o x1 x5 x3 x6)) := hs
  obtain ⟨w0, w1, w2⟩ := hs
  have g0_4_o := bM_0_4 hB_o
  show T (l_X12_acts_99 o x1 x3 x5 x4 x6) _
  unfold l_X12_acts_99
  refine T_qLt ⟨by omega, by omega⟩ ⟨by decide, by decide⟩ (fun h5 => ?_) (fun h5 => ?_)
  ·
    refine T_qEq ⟨by omega, by omega⟩ ⟨by decide, by decide⟩ (fun h6 => ?_) (fun h6 => ?_)
    ·
      unfold b_X12_acts_147
      unfold b_X12_acts_148
      refine T_some ?_
      show ((0 ≤ 0 ∧ 0 ≤ 1) ∧ (0 ≤ (x6 + 1) ∧ (x6 + 1) ≤ 2) ∧ (0 = 0 ∨ ((1 : Int) = i_x4 ∧ AN o x1 x5 x3 (x6 + 1)))) ∧ (2 - (x6 + 1)).toNat < (2 - x6).toNat
      exact ⟨⟨(by omega), (by omega), (by first | exact Or.inr ⟨rfl, AN_0⟩ | assumption | exact Or.inl rfl | exact Or.inl (by omega) | exact w1.elim (fun q => absurd q (by omega)) (fun q => Or.inr ⟨q.1, AN_s q.2 (by omega)⟩) | (have q9 := w1; rwa [show x6 = 2 by omega] at q9) | (have q9 := w2; rwa [show x6 = 2 by omega] at q9) | exact w2.elim (fun q => absurd q (by omega)) (fun q => Or.inr ⟨q.1, AN_s q.2 (by omega)⟩) | omega)⟩, by omega⟩
    ·
      refine T_qB (t_X12_ahead o x1 x5 x6 hB_o (by omega) (by omega) (by omega)) (fun r62 hc_r62 hp7 => ?_)
      replace hp7 : (inR r62) ∧ (r62 = o.1 3 (40 * x1 + 3 * x5 + 1 + x6).toNat) := hp7
      have hps_hp7 := hp7
      obtain ⟨hp7_0, hp7_1⟩ := hps_hp7
      replace hp7 := hid hp7
      refine T_qEq ⟨by omega, by omega⟩ ⟨by decide, by decide⟩ (fun h8 => ?_) (fun h8 => ?_)
      ·
        unfold b_X12_acts_143
        unfold b_X12_acts_148
        refine T_some ?_
        show ((0 ≤ 1 ∧ 1 ≤ 1) ∧ (0 ≤ (x6 + 1) ∧ (x6 + 1) ≤ 2) ∧ (1 = 0 ∨ ((1 : Int) = i_x4 ∧ AN o x1 x5 x3 (x6 + 1)))) ∧ (2 - (x6 + 1)).toNat < (2 - x6).toNat
        exact ⟨⟨(by omega), (by omega), (by first | exact Or.inr ⟨rfl, AN_0⟩ | assumption | exact Or.inl rfl | exact Or.inl (by omega) | exact w1.elim (fun q => absurd q (by omega)) (fun q => Or.inr ⟨q.1, AN_s q.2 (by omega)⟩) | (have q9 := w1; rwa [show x6 = 2 by omega] at q9) | (have q9 := w2; rwa [show x6 = 2 by omega] at q9) | exact w2.elim (fun q => absurd q (by omega)) (fun q => Or.inr ⟨q.1, AN_s q.2 (by omega)⟩) | omega)⟩, by omega⟩
      ·
        refine T_qB (t_X12_ahead o x1 x5 x6 hB_o (by omega) (by omega) (by omega)) (fun r64 hc_r64 hp9 => ?_)
        replace hp9 : (inR r64) ∧ (r64 = o.1 3 (40 * x1 + 3 * x5 + 1 + x6).toNat) := hp9
        have hps_hp9 := hp9
        obtain ⟨hp9_0, hp9_1⟩ := hps_hp9
        replace hp9 := hid hp9
        refine T_qB (t_X12_in r64 0 (x3 - 1) (by omega) (by omega) (by omega)) (fun r66 hc_r66 hp10 => ?_)
        replace hp10 : ((r66 = 1 ∧ 0 ≤ r64 ∧ r64 ≤ (x3 - 1)) ∨ (r66 = 0 ∧ (r64 < 0 ∨ (x3 - 1) < r64))) := hp10
        refine T_qEq ⟨by omega, by omega⟩ ⟨by decide, by decide⟩ (fun h11 => ?_) (fun h11 => ?_)
        ·
          unfold b_X12_acts_147
          unfold b_X12_acts_148
          refine T_some ?_
          show ((0 ≤ 0 ∧ 0 ≤ 1) ∧ (0 ≤ (x6 + 1) ∧ (x6 + 1) ≤ 2) ∧ (0 = 0 ∨ ((1 : Int) = i_x4 ∧ AN o x1 x5 x3 (x6 + 1)))) ∧ (2 - (x6 + 1)).toNat < (2 - x6).toNat
          exact ⟨⟨(by omega), (by omega), (by first | exact Or.inr ⟨rfl, AN_0⟩ | assumption | exact Or.inl rfl | exact Or.inl (by omega) | exact w1.elim (fun q => absurd q (by omega)) (fun q => Or.inr ⟨q.1, AN_s q.2 (by omega)⟩) | (have q9 := w1; rwa [show x6 = 2 by omega] at q9) | (have q9 := w2; rwa [show x6 = 2 by omega] at q9) | exact w2.elim (fun q => absurd q (by omega)) (fun q => Or.inr ⟨q.1, AN_s q.2 (by omega)⟩) | omega)⟩, by omega⟩
        ·
          unfold b_X12_acts_143
          unfold b_X12_acts_148
          refine T_some ?_
          show ((0 ≤ 1 ∧ 1 ≤ 1) ∧ (0 ≤ (x6 + 1) ∧ (x6 + 1) ≤ 2) ∧ (1 = 0 ∨ ((1 : Int) = i_x4 ∧ AN o x1 x5 x3 (x6 + 1)))) ∧ (2 - (x6 + 1)).toNat < (2 - x6).toNat
          exact ⟨⟨(by omega), (by omega), (by first | exact Or.inr ⟨rfl, AN_0⟩ | assumption | exact Or.inl rfl | exact Or.inl (by omega) | exact w1.elim (fun q => absurd q (by omega)) (fun q => Or.inr ⟨q.1, AN_s q.2 (by omega)⟩) | (have q9 := w1; rwa [show x6 = 2 by omega] at q9) | (have q9 := w2; rwa [show x6 = 2 by omega] at q9) | exact w2.elim (fun q => absurd q (by omega)) (fun q => Or.inr ⟨q.1, AN_s q.2 (by omega)⟩) | omega)⟩, by omega⟩
  ·
    refine T_some ?_
    show (0 ≤ x4 ∧ x4 ≤ 1) ∧ (x4 = 0 ∨ ((1 : Int) = i_x4 ∧ AN o x1 x5 x3 2))
    exact ⟨(by omega), (by first | exact Or.inr ⟨rfl, AN_0⟩ | assumption | exact Or.inl rfl | exact Or.inl (by omega) | exact w1.elim (fun q => absurd q (by omega)) (fun q => Or.inr ⟨q.1, AN_s q.2 (by omega)⟩) | (have q9 := w1; rwa [show x6 = 2 by omega] at q9) | (have q9 := w2; rwa [show x6 = 2 by omega] at q9) | exact w2.elim (fun q => absurd q (by omega)) (fun q => Or.inr ⟨q.1, AN_s q.2 (by omega)⟩) | omega)⟩
set_option maxRecDepth 20000 in
set_option maxHeartbeats 4000000 in
theorem tl_X12_acts_455 (x1 : Int) (x3 : Int) (x6 : Int) (x7 : Int) (x8 : Int) (i_o : OO) (i_x9 : Int) (hB_i_o : BoxM i_o) (k0 : 0 ≤ x1 ∧ x1 ≤ 5) (k1 : 1 ≤ x3 ∧ x3 ≤ 13) (k2 : AVm i_o x1 x3 x3) (k3 : 0 ≤ x7 ∧ x7 < x3) (k4 : 0 ≤ x8 ∧ x8 < x3) (v0 : 0 ≤ i_x9 ∧ i_x9 ≤ 2) (v1 : LTm i_o x3 (100100 + 2860000 * x7 + 220000 * x8 + 110000 * i_x9)) : T (loopW (fun s => l_X12_acts_455 x1 x3 x6 x7 x8 s.1 s.2) (i_o, i_x9)) (fun r => BoxM r ∧ (Fr [(57, 9999)] i_o r) ∧ (LTm r x3 (100100 + 2860000 * x7 + 220000 * x8 + 220000))) := by
  have fr_i_o : Fr [(57, 9999)] i_o i_o := Fr.rf
  refine T_loop (fun s => BoxM s.1 ∧ (Fr [(57, 9999)] i_o s.1) ∧ (0 ≤ s.2 ∧ s.2 ≤ 2) ∧ (LTm s.1 x3 (100100 + 2860000 * x7 + 220000 * x8 + 110000 * s.2))) (fun s => (2 - s.2).toNat) (by exact ⟨hB_i_o, fr_i_o, v0, v1⟩) (fun s hs => ?_)
  obtain ⟨o, x9⟩ := s
  replace hs : BoxM o ∧ (Fr [(57, 9999)] i_o o) ∧ (0 ≤ x9 ∧ x9 ≤ 2) ∧ (LTm o x3 (100100 + 2860000 * x7 + 220000 * x8 + 110000 * x9)) := hs
  obtain ⟨hB_o, fr_o, w0, w1⟩ := hs
  have g0_4_i := bM_0_4 hB_i_o
  have g0_4_o : o.1 0 4 = i_o.1 0 4 := fr_o.1 0 4 rfl
  have avo : AVm o x1 x3 x3 := AVm.cg (show AVm i_o x1 x3 x3 by assumption) (fun j => fr_o.1 3 j rfl)
  show T (l_X12_acts_455 x1 x3 x6 x7 x8 o x9) _
  unfold l_X12_acts_455
  refine T_qLt ⟨by omega, by omega⟩ ⟨by decide, by decide⟩ (fun h12 => ?_) (fun h12 => ?_)
  ·
    refine T_qB (t_X12_ahead o x1 x8 x9 hB_o (by omega) (by omega) (by omega)) (fun r19 hc_r19 hp13 => ?_)
    replace hp13 : (inR r19) ∧ (r19 = o.1 3 (40 * x1 + 3 * x8 + 1 + x9).toNat) := hp13
    have hps_hp13 := hp13
    obtain ⟨hp13_0, hp13_1⟩ := hps_hp13
    replace hp13 := hid hp13
    obtain ⟨av1, av2⟩ := avo x8 (by omega) (by omega)
    have av3 := av2 x9 (by omega) (by omega)
    refine T_qEq ⟨by omega, by omega⟩ ⟨by decide, by decide⟩ (fun h14 => ?_) (fun h14 => ?_)
    ·
      unfold b_X12_acts_550
      refine T_some ?_
      show (BoxM o ∧ (Fr [(57, 9999)] i_o o) ∧ (0 ≤ (x9 + 1) ∧ (x9 + 1) ≤ 2) ∧ (LTm o x3 (100100 + 2860000 * x7 + 220000 * x8 + 110000 * (x9 + 1)))) ∧ (2 - (x9 + 1)).toNat < (2 - x9).toNat
      exact ⟨⟨hB_o, fr_o, (by omega), (by first | assumption | exact LTm_0 | exact LTm.up (by assumption) (by omega) | (have q9 := w1; rwa [show x7 = x3 by omega] at q9) | omega)⟩, by omega⟩
    ·
      refine T_qIn ⟨by omega, by omega⟩ ?_
      refine T_qNm (fun n22 e_n22 => ?_)
      have b_n22 : -9 ≤ n22 ∧ n22 ≤ 100000 := by rw [e_n22]; exact bM_56 hB_o _
      refine T_qIn ⟨by omega, by omega⟩ ?_
      refine T_qNm (fun n24 e_n24 => ?_)
      have b_n24 : -2147483648 ≤ n24 ∧ n24 ≤ 2147483647 := by rw [e_n24]; exact bM_57 hB_o _
      have lt4 := w1 x8 (by omega) (by omega)
      refine T_qIn ⟨by omega, by omega⟩ ?_
      refine T_qNm (fun n26 e_n26 => ?_)
      have b_n26 : -2147483648 ≤ n26 ∧ n26 ≤ 2147483647 := by rw [e_n26]; exact bM_3 hB_o _
      refine T_qIn ⟨by omega, by omega⟩ ?_
      refine T_qNm (fun n28 e_n28 => ?_)
      have b_n28 : -9 ≤ n28 ∧ n28 ≤ 100000 := by rw [e_n28]; exact bM_56 hB_o _
      refine T_qNm (fun n29 e_n29 => ?_)
      refine T_qIn ⟨by omega, by omega⟩ ?_
      refine T_qNm (fun n31 e_n31 => ?_)
      have b_n31 : -2147483648 ≤ n31 ∧ n31 ≤ 2147483647 := by rw [e_n31]; exact bM_57 hB_o _
      have lt5 := w1 r19 (by omega) (by omega)
      refine T_qLt ⟨by omega, by omega⟩ ⟨by omega, by omega⟩ (fun h15 => ?_) (fun h15 => ?_)
      ·
        unfold b_X12_acts_549
        refine T_qIn ⟨by omega, by omega⟩ ?_
        refine T_qNm (fun o18 e_o18 => ?_)
        have hB_o18 : BoxM o18 := by rw [e_o18]; exact Box.s1 hB_o (show -2147483648 ≤ n29 ∧ n29 ≤ 2147483647 from ⟨by omega, by omega⟩)
        have fr_o18 : Fr [(57, 9999)] i_o o18 := by rw [e_o18]; exact Fr.s1 fr_o rfl
        have g0_4_o18 : o18.1 0 4 = o.1 0 4 := by rw [e_o18]; rfl
        have lt18 : LTm o18 x3 (100100 + 2860000 * x7 + 220000 * x8 + 110000 * x9 + 110000) := by rw [e_o18]; exact LTm_upd w1 (by omega) ⟨by omega, by omega⟩
        unfold b_X12_acts_550
        refine T_some ?_
        show (BoxM o18 ∧ (Fr [(57, 9999)] i_o o18) ∧ (0 ≤ (x9 + 1) ∧ (x9 + 1) ≤ 2) ∧ (LTm o18 x3 (100100 + 2860000 * x7 + 220000 * x8 + 110000 * (x9 + 1)))) ∧ (2 - (x9 + 1)).toNat < (2 - x9).toNat
        exact ⟨⟨hB_o18, fr_o18, (by omega), (by first | assumption | exact LTm_0 | exact LTm.up (by assumption) (by omega) | (have q9 := w1; rwa [show x7 = x3 by omega] at q9) | omega)⟩, by omega⟩
      ·
        refine T_qIn ⟨by omega, by omega⟩ ?_
        refine T_qNm (fun n33 e_n33 => ?_)
        have b_n33 : -2147483648 ≤ n33 ∧ n33 ≤ 2147483647 := by rw [e_n33]; exact bM_57 hB_o _
        unfold b_X12_acts_549
        refine T_qIn ⟨by omega, by omega⟩ ?_
        refine T_qNm (fun o18 e_o18 => ?_)
        have hB_o18 : BoxM o18 := by rw [e_o18]; exact Box.s1 hB_o (show -2147483648 ≤ n33 ∧ n33 ≤ 2147483647 from ⟨by omega, by omega⟩)
        have fr_o18 : Fr [(57, 9999)] i_o o18 := by rw [e_o18]; exact Fr.s1 fr_o rfl
        have g0_4_o18 : o18.1 0 4 = o.1 0 4 := by rw [e_o18]; rfl
        have lt18 : LTm o18 x3 (100100 + 2860000 * x7 + 220000 * x8 + 110000 * x9 + 110000) := by rw [e_o18]; exact LTm_upd w1 (by omega) ⟨by omega, by omega⟩
        unfold b_X12_acts_550
        refine T_some ?_
        show (BoxM o18 ∧ (Fr [(57, 9999)] i_o o18) ∧ (0 ≤ (x9 + 1) ∧ (x9 + 1) ≤ 2) ∧ (LTm o18 x3 (100100 + 2860000 * x7 + 220000 * x8 + 110000 * (x9 + 1)))) ∧ (2 - (x9 + 1)).toNat < (2 - x9).toNat
        exact ⟨⟨hB_o18, fr_o18, (by omega), (by first | assumption | exact LTm_0 | exact LTm.up (by assumption) (by omega) | (have q9 := w1; rwa [show x7 = x3 by omega] at q9) | omega)⟩, by omega⟩
  ·
    refine T_some ?_
    show BoxM o ∧ (Fr [(57, 9999)] i_o o) ∧ (LTm o x3 (100100 + 2860000 * x7 + 220000 * x8 + 220000))
    exact ⟨hB_o, fr_o, (by first | assumption | exact LTm_0 | exact LTm.up (by assumption) (by omega) | (have q9 := w1; rwa [show x7 = x3 by omega] at q9) | omega)⟩
set_option maxRecDepth 20000 in
set_option maxHeartbeats 4000000 in
theorem tl_X12_acts_54 (x1 : Int) (x3 : Int) (i_o : OO) (i_x4 : Int) (i_x5 : Int) (hB_i_o : BoxM i_o) (k0 : inR x1) (k1 : 0 ≤ x1 ∧ x1 ≤ 5) (k2 : 1 ≤ x3 ∧ x3 ≤ 13) (v0 : 0 ≤ i_x4 ∧ i_x4 ≤ 1) (v1 : 0 ≤ i_x5 ∧ i_x5 ≤ x3) (v2 : i_x4 = 0 ∨ AVm i_o x1 i_x5 x3) (v3 : EN i_o i_x5) : T (loopW (fun s => l_X12_acts_54 x1 x3 s.1 s.2.1 s.2.2) (i_o, i_x4, i_x5)) (fun r => BoxM r.1 ∧ (Fr [(56, 9999)] i_o r.1) ∧ (0 ≤ r.2 ∧ r.2 ≤ 1) ∧ (r.2 = 0 ∨ AVm r.1 x1 x3 x3) ∧ (EN r.1 x3)) := by
  have fr_i_o : Fr [(56, 9999)] i_o i_o := Fr.rf
  refine T_loop (fun s => BoxM s.1 ∧ (Fr [(56, 9999)] i_o s.1) ∧ (0 ≤ s.2.1 ∧ s.2.1 ≤ 1) ∧ (0 ≤ s.2.2 ∧ s.2.2 ≤ x3) ∧ (s.2.1 = 0 ∨ AVm s.1 x1 s.2.2 x3) ∧ (EN s.1 s.2.2)) (fun s => (x3 - s.2.2).toNat) (by exact ⟨hB_i_o, fr_i_o, v0, v1, v2, v3⟩) (fun s hs => ?_)
  obtain ⟨o, x4, x5⟩ := s
  replace hs : BoxM o ∧ (Fr [(56, 9999)] i_o o) ∧ (0 ≤ x4 ∧ x4 ≤ 1) ∧ (0 ≤ x5 ∧ x5 ≤ x3) ∧ (x4 = 0 ∨ AVm o x1 x5 x3) ∧ (EN o x5) := hs
  obtain ⟨hB_o, fr_o, w0, w1, w2, w3⟩ := hs
  have g0_4_i := bM_0_4 hB_i_o
  have g0_4_o : o.1 0 4 = i_o.1 0 4 := fr_o.1 0 4 rfl
  show T (l_X12_acts_54 x1 x3 o x4 x5) _
  unfold l_X12_acts_54
  refine T_qLt ⟨by omega, by omega⟩ ⟨by omega, by omega⟩ (fun h16 => ?_) (fun h16 => ?_)
  ·
    refine T_qEq ⟨by omega, by omega⟩ ⟨by decide, by decide⟩ (fun h17 => ?_) (fun h17 => ?_)
    ·
      unfold b_X12_acts_93
      unfold b_X12_acts_94
      unfold e_X12_acts_99
      refine T_qB (tl_X12_acts_99 o x1 x3 x5 0 0 hB_o (by omega) (by omega) (by omega) (by omega) (by omega) (by first | exact Or.inr ⟨rfl, AN_0⟩ | assumption | exact Or.inl rfl | exact Or.inl (by omega) | exact w1.elim (fun q => absurd q (by omega)) (fun q => Or.inr ⟨q.1, AN_s q.2 (by omega)⟩) | (have q9 := w1; rwa [show x6 = 2 by omega] at q9) | (have q9 := w2; rwa [show x6 = 2 by omega] at q9) | exact w2.elim (fun q => absurd q (by omega)) (fun q => Or.inr ⟨q.1, AN_s q.2 (by omega)⟩) | omega)) (fun r18 hc_r18 hp19 => ?_)
      obtain ⟨x4_20, q_x4_20⟩ : ∃ q, q = r18 := ⟨_, rfl⟩
      subst q_x4_20
      replace hp19 : (0 ≤ x4_20 ∧ x4_20 ≤ 1) ∧ (x4_20 = 0 ∨ ((1 : Int) = 0 ∧ AN o x1 x5 x3 2)) := hp19
      have hps_hp19 := hp19
      obtain ⟨hp19_0, hp19_1⟩ := hps_hp19
      replace hp19 := hid hp19
      show T (b_X12_acts_156 o x1 x3 x4_20 x5) _
      have an9 : x4_20 = 0 ∨ ((1 : Int) = 0 ∧ AN o x1 x5 x3 2) := hp19.2
      unfold b_X12_acts_156
      refine T_qIn ⟨by omega, by omega⟩ ?_
      refine T_qNm (fun o61 e_o61 => ?_)
      have hB_o61 : BoxM o61 := by rw [e_o61]; exact Box.s1 hB_o (show -9 ≤ (-9) ∧ (-9) ≤ 100000 from ⟨by omega, by omega⟩)
      have fr_o61 : Fr [(56, 9999)] i_o o61 := by rw [e_o61]; exact Fr.s1 fr_o rfl
      have g0_4_o61 : o61.1 0 4 = o.1 0 4 := by rw [e_o61]; rfl
      refine T_some ?_
      show (BoxM o61 ∧ (Fr [(56, 9999)] i_o o61) ∧ (0 ≤ x4_20 ∧ x4_20 ≤ 1) ∧ (0 ≤ (x5 + 1) ∧ (x5 + 1) ≤ x3) ∧ (x4_20 = 0 ∨ AVm o61 x1 (x5 + 1) x3) ∧ (EN o61 (x5 + 1))) ∧ (x3 - (x5 + 1)).toNat < (x3 - x5).toNat
      exact ⟨⟨hB_o61, fr_o61, (by omega), (by omega), (by first | assumption | exact Or.inl rfl | exact Or.inr AVm_0 | exact an9.elim (fun q => Or.inl q) (fun q => absurd q.1 (by decide)) | exact an9.elim (fun q => Or.inl q) (fun q => Or.inr (AVm.cg (AVm_s (w2.elim (fun z => absurd z (by omega)) (fun z => z)) (by omega) q.2) (fun j => by rw [e_o61]; rfl))) | (have q9 := w2; rwa [show x5 = x3 by omega] at q9) | omega), (by first | assumption | exact EN_0 | (rw [e_o61]; exact EN_s w3 (by omega)) | (have q9 := w3; rwa [show x5 = x3 by omega] at q9) | omega)⟩, by omega⟩
    ·
      refine T_qIn ⟨by omega, by omega⟩ ?_
      refine T_qNm (fun n69 e_n69 => ?_)
      have b_n69 : -2147483648 ≤ n69 ∧ n69 ≤ 2147483647 := by rw [e_n69]; exact bM_3 hB_o _
      refine T_qB (t_X12_in n69 0 200 (by omega) (by omega) (by omega)) (fun r70 hc_r70 hp21 => ?_)
      replace hp21 : ((r70 = 1 ∧ 0 ≤ n69 ∧ n69 ≤ 200) ∨ (r70 = 0 ∧ (n69 < 0 ∨ 200 < n69))) := hp21
      refine T_qEq ⟨by omega, by omega⟩ ⟨by decide, by decide⟩ (fun h22 => ?_) (fun h22 => ?_)
      ·
        unfold b_X12_acts_93
        unfold b_X12_acts_94
        unfold e_X12_acts_99
        refine T_qB (tl_X12_acts_99 o x1 x3 x5 0 0 hB_o (by omega) (by omega) (by omega) (by omega) (by omega) (by first | exact Or.inr ⟨rfl, AN_0⟩ | assumption | exact Or.inl rfl | exact Or.inl (by omega) | exact w1.elim (fun q => absurd q (by omega)) (fun q => Or.inr ⟨q.1, AN_s q.2 (by omega)⟩) | (have q9 := w1; rwa [show x6 = 2 by omega] at q9) | (have q9 := w2; rwa [show x6 = 2 by omega] at q9) | exact w2.elim (fun q => absurd q (by omega)) (fun q => Or.inr ⟨q.1, AN_s q.2 (by omega)⟩) | omega)) (fun r23 hc_r23 hp24 => ?_)
        obtain ⟨x4_25, q_x4_25⟩ : ∃ q, q = r23 := ⟨_, rfl⟩
        subst q_x4_25
        replace hp24 : (0 ≤ x4_25 ∧ x4_25 ≤ 1) ∧ (x4_25 = 0 ∨ ((1 : Int) = 0 ∧ AN o x1 x5 x3 2)) := hp24
        have hps_hp24 := hp24
        obtain ⟨hp24_0, hp24_1⟩ := hps_hp24
        replace hp24 := hid hp24
        show T (b_X12_acts_156 o x1 x3 x4_25 x5) _
        have an9 : x4_25 = 0 ∨ ((1 : Int) = 0 ∧ AN o x1 x5 x3 2) := hp24.2
        unfold b_X12_acts_156
        refine T_qIn ⟨by omega, by omega⟩ ?_
        refine T_qNm (fun o61 e_o61 => ?_)
        have hB_o61 : BoxM o61 := by rw [e_o61]; exact Box.s1 hB_o (show -9 ≤ (-9) ∧ (-9) ≤ 100000 from ⟨by omega, by omega⟩)
        have fr_o61 : Fr [(56, 9999)] i_o o61 := by rw [e_o61]; exact Fr.s1 fr_o rfl
        have g0_4_o61 : o61.1 0 4 = o.1 0 4 := by rw [e_o61]; rfl
        refine T_some ?_
        show (BoxM o61 ∧ (Fr [(56, 9999)] i_o o61) ∧ (0 ≤ x4_25 ∧ x4_25 ≤ 1) ∧ (0 ≤ (x5 + 1) ∧ (x5 + 1) ≤ x3) ∧ (x4_25 = 0 ∨ AVm o61 x1 (x5 + 1) x3) ∧ (EN o61 (x5 + 1))) ∧ (x3 - (x5 + 1)).toNat < (x3 - x5).toNat
        exact ⟨⟨hB_o61, fr_o61, (by omega), (by omega), (by first | assumption | exact Or.inl rfl | exact Or.inr AVm_0 | exact an9.elim (fun q => Or.inl q) (fun q => absurd q.1 (by decide)) | exact an9.elim (fun q => Or.inl q) (fun q => Or.inr (AVm.cg (AVm_s (w2.elim (fun z => absurd z (by omega)) (fun z => z)) (by omega) q.2) (fun j => by rw [e_o61]; rfl))) | (have q9 := w2; rwa [show x5 = x3 by omega] at q9) | omega), (by first | assumption | exact EN_0 | (rw [e_o61]; exact EN_s w3 (by omega)) | (have q9 := w3; rwa [show x5 = x3 by omega] at q9) | omega)⟩, by omega⟩
      ·
        unfold b_X12_acts_94
        unfold e_X12_acts_99
        refine T_qB (tl_X12_acts_99 o x1 x3 x5 1 0 hB_o (by omega) (by omega) (by omega) (by omega) (by omega) (by first | exact Or.inr ⟨rfl, AN_0⟩ | assumption | exact Or.inl rfl | exact Or.inl (by omega) | exact w1.elim (fun q => absurd q (by omega)) (fun q => Or.inr ⟨q.1, AN_s q.2 (by omega)⟩) | (have q9 := w1; rwa [show x6 = 2 by omega] at q9) | (have q9 := w2; rwa [show x6 = 2 by omega] at q9) | exact w2.elim (fun q => absurd q (by omega)) (fun q => Or.inr ⟨q.1, AN_s q.2 (by omega)⟩) | omega)) (fun r26 hc_r26 hp27 => ?_)
        obtain ⟨x4_28, q_x4_28⟩ : ∃ q, q = r26 := ⟨_, rfl⟩
        subst q_x4_28
        replace hp27 : (0 ≤ x4_28 ∧ x4_28 ≤ 1) ∧ (x4_28 = 0 ∨ ((1 : Int) = 1 ∧ AN o x1 x5 x3 2)) := hp27
        have hps_hp27 := hp27
        obtain ⟨hp27_0, hp27_1⟩ := hps_hp27
        replace hp27 := hid hp27
        show T (b_X12_acts_156 o x1 x3 x4_28 x5) _
        have an9 : x4_28 = 0 ∨ ((1 : Int) = 1 ∧ AN o x1 x5 x3 2) := hp27.2
        unfold b_X12_acts_156
        refine T_qIn ⟨by omega, by omega⟩ ?_
        refine T_qNm (fun o61 e_o61 => ?_)
        have hB_o61 : BoxM o61 := by rw [e_o61]; exact Box.s1 hB_o (show -9 ≤ (-9) ∧ (-9) ≤ 100000 from ⟨by omega, by omega⟩)
        have fr_o61 : Fr [(56, 9999)] i_o o61 := by rw [e_o61]; exact Fr.s1 fr_o rfl
        have g0_4_o61 : o61.1 0 4 = o.1 0 4 := by rw [e_o61]; rfl
        refine T_some ?_
        show (BoxM o61 ∧ (Fr [(56, 9999)] i_o o61) ∧ (0 ≤ x4_28 ∧ x4_28 ≤ 1) ∧ (0 ≤ (x5 + 1) ∧ (x5 + 1) ≤ x3) ∧ (x4_28 = 0 ∨ AVm o61 x1 (x5 + 1) x3) ∧ (EN o61 (x5 + 1))) ∧ (x3 - (x5 + 1)).toNat < (x3 - x5).toNat
        exact ⟨⟨hB_o61, fr_o61, (by omega), (by omega), (by first | assumption | exact Or.inl rfl | exact Or.inr AVm_0 | exact an9.elim (fun q => Or.inl q) (fun q => absurd q.1 (by decide)) | exact an9.elim (fun q => Or.inl q) (fun q => Or.inr (AVm.cg (AVm_s (w2.elim (fun z => absurd z (by omega)) (fun z => z)) (by omega) q.2) (fun j => by rw [e_o61]; rfl))) | (have q9 := w2; rwa [show x5 = x3 by omega] at q9) | omega), (by first | assumption | exact EN_0 | (rw [e_o61]; exact EN_s w3 (by omega)) | (have q9 := w3; rwa [show x5 = x3 by omega] at q9) | omega)⟩, by omega⟩
  ·
    refine T_some ?_
    show BoxM o ∧ (Fr [(56, 9999)] i_o o) ∧ (0 ≤ x4 ∧ x4 ≤ 1) ∧ (x4 = 0 ∨ AVm o x1 x3 x3) ∧ (EN o x3)
    exact ⟨hB_o, fr_o, (by omega), (by first | assumption | exact Or.inl rfl | exact Or.inr AVm_0 | exact an9.elim (fun q => Or.inl q) (fun q => absurd q.1 (by decide)) | exact an9.elim (fun q => Or.inl q) (fun q => Or.inr (AVm.cg (AVm_s (w2.elim (fun z => absurd z (by omega)) (fun z => z)) (by omega) q.2) (fun j => by rw [e_o61]; rfl))) | (have q9 := w2; rwa [show x5 = x3 by omega] at q9) | omega), (by first | assumption | exact EN_0 | (rw [e_o61]; exact EN_s w3 (by omega)) | (have q9 := w3; rwa [show x5 = x3 by omega] at q9) | omega)⟩
set_option maxRecDepth 20000 in
set_option maxHeartbeats 4000000 in
theorem tl_X12_acts_446 (x1 : Int) (x3 : Int) (x6 : Int) (x7 : Int) (i_o : OO) (i_x8 : Int) (hB_i_o : BoxM i_o) (k0 : 0 ≤ x1 ∧ x1 ≤ 5) (k1 : 1 ≤ x3 ∧ x3 ≤ 13) (k2 : AVm i_o x1 x3 x3) (k3 : 0 ≤ x7 ∧ x7 < x3) (v0 : 0 ≤ i_x8 ∧ i_x8 ≤ x3) (v1 : LTm i_o x3 (100100 + 2860000 * x7 + 220000 * i_x8)) : T (loopW (fun s => l_X12_acts_446 x1 x3 x6 x7 s.1 s.2) (i_o, i_x8)) (fun r => BoxM r ∧ (Fr [(57, 9999)] i_o r) ∧ (LTm r x3 (100100 + 2860000 * x7 + 2860000))) := by
  have fr_i_o : Fr [(57, 9999)] i_o i_o := Fr.rf
  refine T_loop (fun s => BoxM s.1 ∧ (Fr [(57, 9999)] i_o s.1) ∧ (0 ≤ s.2 ∧ s.2 ≤ x3) ∧ (LTm s.1 x3 (100100 + 2860000 * x7 + 220000 * s.2))) (fun s => (x3 - s.2).toNat) (by exact ⟨hB_i_o, fr_i_o, v0, v1⟩) (fun s hs => ?_)
  obtain ⟨o, x8⟩ := s
  replace hs : BoxM o ∧ (Fr [(57, 9999)] i_o o) ∧ (0 ≤ x8 ∧ x8 ≤ x3) ∧ (LTm o x3 (100100 + 2860000 * x7 + 220000 * x8)) := hs
  obtain ⟨hB_o, fr_o, w0, w1⟩ := hs
  have g0_4_i := bM_0_4 hB_i_o
  have g0_4_o : o.1 0 4 = i_o.1 0 4 := fr_o.1 0 4 rfl
  have avo : AVm o x1 x3 x3 := AVm.cg (show AVm i_o x1 x3 x3 by assumption) (fun j => fr_o.1 3 j rfl)
  show T (l_X12_acts_446 x1 x3 x6 x7 o x8) _
  unfold l_X12_acts_446
  refine T_qLt ⟨by omega, by omega⟩ ⟨by omega, by omega⟩ (fun h29 => ?_) (fun h29 => ?_)
  ·
    unfold e_X12_acts_455
    refine T_qB (tl_X12_acts_455 x1 x3 x6 x7 x8 o 0 hB_o (by omega) (by omega) (by first | assumption | exact avo.elim (fun q => absurd q (by omega)) (fun q => q)) (by omega) (by omega) (by omega) (by first | assumption | exact LTm_0 | exact LTm.up (by assumption) (by omega) | (have q9 := w1; rwa [show x7 = x3 by omega] at q9) | omega)) (fun r30 hc_r30 hp31 => ?_)
    obtain ⟨o_32, q_o_32⟩ : ∃ q, q = r30 := ⟨_, rfl⟩
    subst q_o_32
    replace hp31 : BoxM o_32 ∧ (Fr [(57, 9999)] o o_32) ∧ (LTm o_32 x3 (100100 + 2860000 * x7 + 220000 * x8 + 220000)) := hp31
    have hps_hp31 := hp31
    obtain ⟨hp31_0, hp31_1, hp31_2⟩ := hps_hp31
    obtain ⟨hB_o_32, fc_o_32, hp31⟩ := hp31
    replace hp31 := hid hp31
    have fr_o_32 : Fr [(57, 9999)] i_o o_32 := Fr.tr fr_o fc_o_32 rfl
    have g0_4_o_32 : o_32.1 0 4 = o.1 0 4 := fc_o_32.1 0 4 rfl
    show T (b_X12_acts_556 o_32 x1 x3 x6 x7 x8) _
    unfold b_X12_acts_556
    refine T_some ?_
    show (BoxM o_32 ∧ (Fr [(57, 9999)] i_o o_32) ∧ (0 ≤ (x8 + 1) ∧ (x8 + 1) ≤ x3) ∧ (LTm o_32 x3 (100100 + 2860000 * x7 + 220000 * (x8 + 1)))) ∧ (x3 - (x8 + 1)).toNat < (x3 - x8).toNat
    exact ⟨⟨hB_o_32, fr_o_32, (by omega), (by first | assumption | exact LTm_0 | exact LTm.up (by assumption) (by omega) | (have q9 := w1; rwa [show x7 = x3 by omega] at q9) | omega)⟩, by omega⟩
  ·
    refine T_some ?_
    show BoxM o ∧ (Fr [(57, 9999)] i_o o) ∧ (LTm o x3 (100100 + 2860000 * x7 + 2860000))
    exact ⟨hB_o, fr_o, (by first | assumption | exact LTm_0 | exact LTm.up (by assumption) (by omega) | (have q9 := w1; rwa [show x7 = x3 by omega] at q9) | omega)⟩
set_option maxRecDepth 20000 in
set_option maxHeartbeats 4000000 in
theorem tl_X12_acts_437 (x1 : Int) (x3 : Int) (x6 : Int) (i_o : OO) (i_x7 : Int) (hB_i_o : BoxM i_o) (k0 : 0 ≤ x1 ∧ x1 ≤ 5) (k1 : 1 ≤ x3 ∧ x3 ≤ 13) (k2 : AVm i_o x1 x3 x3) (v0 : 0 ≤ i_x7 ∧ i_x7 ≤ x3) (v1 : LTm i_o x3 (100100 + 2860000 * i_x7)) : T (loopW (fun s => l_X12_acts_437 x1 x3 x6 s.1 s.2) (i_o, i_x7)) (fun r => BoxM r ∧ (Fr [(57, 9999)] i_o r)) := by
  have fr_i_o : Fr [(57, 9999)] i_o i_o := Fr.rf
  refine T_loop (fun s => BoxM s.1 ∧ (Fr [(57, 9999)] i_o s.1) ∧ (0 ≤ s.2 ∧ s.2 ≤ x3) ∧ (LTm s.1 x3 (100100 + 2860000 * s.2))) (fun s => (x3 - s.2).toNat) (by exact ⟨hB_i_o, fr_i_o, v0, v1⟩) (fun s hs => ?_)
  obtain ⟨o, x7⟩ := s
  replace hs : BoxM o ∧ (Fr [(57, 9999)] i_o o) ∧ (0 ≤ x7 ∧ x7 ≤ x3) ∧ (LTm o x3 (100100 + 2860000 * x7)) := hs
  obtain ⟨hB_o, fr_o, w0, w1⟩ := hs
  have g0_4_i := bM_0_4 hB_i_o
  have g0_4_o : o.1 0 4 = i_o.1 0 4 := fr_o.1 0 4 rfl
  have avo : AVm o x1 x3 x3 := AVm.cg (show AVm i_o x1 x3 x3 by assumption) (fun j => fr_o.1 3 j rfl)
  show T (l_X12_acts_437 x1 x3 x6 o x7) _
  unfold l_X12_acts_437
  refine T_qLt ⟨by omega, by omega⟩ ⟨by omega, by omega⟩ (fun h33 => ?_) (fun h33 => ?_)
  ·
    unfold e_X12_acts_446
    refine T_qB (tl_X12_acts_446 x1 x3 x6 x7 o 0 hB_o (by omega) (by omega) (by first | assumption | exact avo.elim (fun q => absurd q (by omega)) (fun q => q)) (by omega) (by omega) (by first | assumption | exact LTm_0 | exact LTm.up (by assumption) (by omega) | (have q9 := w1; rwa [show x7 = x3 by omega] at q9) | omega)) (fun r34 hc_r34 hp35 => ?_)
    obtain ⟨o_36, q_o_36⟩ : ∃ q, q = r34 := ⟨_, rfl⟩
    subst q_o_36
    replace hp35 : BoxM o_36 ∧ (Fr [(57, 9999)] o o_36) ∧ (LTm o_36 x3 (100100 + 2860000 * x7 + 2860000)) := hp35
    have hps_hp35 := hp35
    obtain ⟨hp35_0, hp35_1, hp35_2⟩ := hps_hp35
    obtain ⟨hB_o_36, fc_o_36, hp35⟩ := hp35
    replace hp35 := hid hp35
    have fr_o_36 : Fr [(57, 9999)] i_o o_36 := Fr.tr fr_o fc_o_36 rfl
    have g0_4_o_36 : o_36.1 0 4 = o.1 0 4 := fc_o_36.1 0 4 rfl
    show T (b_X12_acts_562 o_36 x1 x3 x6 x7) _
    unfold b_X12_acts_562
    refine T_some ?_
    show (BoxM o_36 ∧ (Fr [(57, 9999)] i_o o_36) ∧ (0 ≤ (x7 + 1) ∧ (x7 + 1) ≤ x3) ∧ (LTm o_36 x3 (100100 + 2860000 * (x7 + 1)))) ∧ (x3 - (x7 + 1)).toNat < (x3 - x7).toNat
    exact ⟨⟨hB_o_36, fr_o_36, (by omega), (by first | assumption | exact LTm_0 | exact LTm.up (by assumption) (by omega) | (have q9 := w1; rwa [show x7 = x3 by omega] at q9) | omega)⟩, by omega⟩
  ·
    refine T_some ?_
    show BoxM o ∧ (Fr [(57, 9999)] i_o o)
    exact ⟨hB_o, fr_o⟩
set_option maxRecDepth 20000 in
set_option maxHeartbeats 4000000 in
theorem tl_X12_acts_191 (x1 : Int) (x3 : Int) (x4 : Int) (x6 : Int) (i_o : OO) (i_x5 : Int) (i_x7 : Int) (hB_i_o : BoxM i_o) (k0 : 0 ≤ x1 ∧ x1 ≤ 5) (k1 : 1 ≤ x3 ∧ x3 ≤ 13) (k2 : AVm i_o x1 x3 x3) (v0 : 0 ≤ i_x7 ∧ i_x7 ≤ x3) (v1 : i_x5 = CG (i_o.1 56) x3) (v2 : DBm i_o x3 (999 + 200 * i_x5)) (v3 : 0 ≤ i_x5) : T (loopW (fun s => l_X12_acts_191 x1 x3 x4 x6 s.1 s.2.1 s.2.2) (i_o, i_x5, i_x7)) (fun r => BoxM r.1 ∧ (Fr [(56, 9999)] i_o r.1) ∧ (r.2 = CG (r.1.1 56) x3) ∧ (DBm r.1 x3 (999 + 200 * r.2)) ∧ (0 ≤ r.2)) := by
  have fr_i_o : Fr [(56, 9999)] i_o i_o := Fr.rf
  refine T_loop (fun s => BoxM s.1 ∧ (Fr [(56, 9999)] i_o s.1) ∧ (0 ≤ s.2.2 ∧ s.2.2 ≤ x3) ∧ (s.2.1 = CG (s.1.1 56) x3) ∧ (DBm s.1 x3 (999 + 200 * s.2.1)) ∧ (0 ≤ s.2.1)) (fun s => (x3 - s.2.2).toNat) (by exact ⟨hB_i_o, fr_i_o, v0, v1, v2, v3⟩) (fun s hs => ?_)
  obtain ⟨o, x5, x7⟩ := s
  replace hs : BoxM o ∧ (Fr [(56, 9999)] i_o o) ∧ (0 ≤ x7 ∧ x7 ≤ x3) ∧ (x5 = CG (o.1 56) x3) ∧ (DBm o x3 (999 + 200 * x5)) ∧ (0 ≤ x5) := hs
  obtain ⟨hB_o, fr_o, w0, w1, w2, w3⟩ := hs
  have g0_4_i := bM_0_4 hB_i_o
  have g0_4_o : o.1 0 4 = i_o.1 0 4 := fr_o.1 0 4 rfl
  have avo : AVm o x1 x3 x3 := AVm.cg (show AVm i_o x1 x3 x3 by assumption) (fun j => fr_o.1 3 j rfl)
  have cle := CG_le (f := o.1 56) (n := x3) (by omega)
  show T (l_X12_acts_191 x1 x3 x4 x6 o x5 x7) _
  unfold l_X12_acts_191
  refine T_qLt ⟨by omega, by omega⟩ ⟨by omega, by omega⟩ (fun h37 => ?_) (fun h37 => ?_)
  ·
    refine T_qB (t_X12_ahead o x1 x7 0 hB_o (by omega) (by omega) (by omega)) (fun r54 hc_r54 hp38 => ?_)
    replace hp38 : (inR r54) ∧ (r54 = o.1 3 (40 * x1 + 3 * x7 + 1 + 0).toNat) := hp38
    have hps_hp38 := hp38
    obtain ⟨hp38_0, hp38_1⟩ := hps_hp38
    replace hp38 := hid hp38
    obtain ⟨av1, av2⟩ := avo x7 (by omega) (by omega)
    have av3 := av2 0 (by omega) (by omega)
    have av4 := av2 1 (by omega) (by omega)
    refine T_qEq ⟨by omega, by omega⟩ ⟨by decide, by decide⟩ (fun h39 => ?_) (fun h39 => ?_)
    ·
      unfold b_X12_acts_230
      refine T_qB (t_X12_ahead o x1 x7 1 hB_o (by omega) (by omega) (by omega)) (fun r48 hc_r48 hp40 => ?_)
      replace hp40 : (inR r48) ∧ (r48 = o.1 3 (40 * x1 + 3 * x7 + 1 + 1).toNat) := hp40
      have hps_hp40 := hp40
      obtain ⟨hp40_0, hp40_1⟩ := hps_hp40
      replace hp40 := hid hp40
      refine T_qEq ⟨by omega, by omega⟩ ⟨by decide, by decide⟩ (fun h41 => ?_) (fun h41 => ?_)
      ·
        unfold b_X12_acts_265
        refine T_qIn ⟨by omega, by omega⟩ ?_
        refine T_qNm (fun n47 e_n47 => ?_)
        have b_n47 : -9 ≤ n47 ∧ n47 ≤ 100000 := by rw [e_n47]; exact bM_56 hB_o _
        refine T_qLt ⟨by omega, by omega⟩ ⟨by decide, by decide⟩ (fun h42 => ?_) (fun h42 => ?_)
        ·
          refine T_qLt ⟨by omega, by omega⟩ ⟨by decide, by decide⟩ (fun h43 => ?_) (fun h43 => ?_)
          ·
            unfold b_X12_acts_326
            refine T_some ?_
            show (BoxM o ∧ (Fr [(56, 9999)] i_o o) ∧ (0 ≤ (x7 + 1) ∧ (x7 + 1) ≤ x3) ∧ (x5 = CG (o.1 56) x3) ∧ (DBm o x3 (999 + 200 * x5)) ∧ (0 ≤ x5)) ∧ (x3 - (x7 + 1)).toNat < (x3 - x7).toNat
            exact ⟨⟨hB_o, fr_o, (by omega), (by omega), (by first | assumption | exact DBm.up (by assumption) (by omega) | omega), (by omega)⟩, by omega⟩
          ·
            refine T_qLt ⟨by omega, by omega⟩ ⟨by decide, by decide⟩ (fun h44 => ?_) (fun h44 => ?_)
            ·
              unfold b_X12_acts_326
              refine T_some ?_
              show (BoxM o ∧ (Fr [(56, 9999)] i_o o) ∧ (0 ≤ (x7 + 1) ∧ (x7 + 1) ≤ x3) ∧ (x5 = CG (o.1 56) x3) ∧ (DBm o x3 (999 + 200 * x5)) ∧ (0 ≤ x5)) ∧ (x3 - (x7 + 1)).toNat < (x3 - x7).toNat
              exact ⟨⟨hB_o, fr_o, (by omega), (by omega), (by first | assumption | exact DBm.up (by assumption) (by omega) | omega), (by omega)⟩, by omega⟩
            ·
              refine T_qLt ⟨by omega, by omega⟩ ⟨by omega, by omega⟩ (fun h45 => ?_) (fun h45 => ?_)
              ·
                unfold b_X12_acts_307
                refine T_qIn ⟨by omega, by omega⟩ ?_
                refine T_qNm (fun n43 e_n43 => ?_)
                have b_n43 : -2147483648 ≤ n43 ∧ n43 ≤ 2147483647 := by rw [e_n43]; exact bM_3 hB_o _
                have cl := CG_lt (f := o.1 56) (n := x3) (i := x7) (by omega) (by omega) (by omega)
                refine T_qIn ⟨by omega, by omega⟩ ?_
                refine T_qNm (fun o45 e_o45 => ?_)
                have hB_o45 : BoxM o45 := by rw [e_o45]; exact Box.s1 hB_o (show -9 ≤ ((o.1 0 4) + n43) ∧ ((o.1 0 4) + n43) ≤ 100000 from ⟨by omega, by omega⟩)
                have fr_o45 : Fr [(56, 9999)] i_o o45 := by rw [e_o45]; exact Fr.s1 fr_o rfl
                have g0_4_o45 : o45.1 0 4 = o.1 0 4 := by rw [e_o45]; rfl
                have cg1 : CG (o45.1 56) x3 = CG (o.1 56) x3 + 1 := by rw [e_o45]; exact CG_upd (by omega) (by omega) (by omega) (by omega)
                have db1 : DBm o45 x3 (999 + 200 * (x5 + 1)) := by rw [e_o45]; exact DBm_upd w2 (by omega) (by omega)
                unfold b_X12_acts_326
                refine T_some ?_
                show (BoxM o45 ∧ (Fr [(56, 9999)] i_o o45) ∧ (0 ≤ (x7 + 1) ∧ (x7 + 1) ≤ x3) ∧ ((x5 + 1) = CG (o45.1 56) x3) ∧ (DBm o45 x3 (999 + 200 * (x5 + 1))) ∧ (0 ≤ (x5 + 1))) ∧ (x3 - (x7 + 1)).toNat < (x3 - x7).toNat
                exact ⟨⟨hB_o45, fr_o45, (by omega), (by omega), (by first | assumption | exact DBm.up (by assumption) (by omega) | omega), (by omega)⟩, by omega⟩
              ·
                unfold b_X12_acts_307
                refine T_qIn ⟨by omega, by omega⟩ ?_
                refine T_qNm (fun n43 e_n43 => ?_)
                have b_n43 : -2147483648 ≤ n43 ∧ n43 ≤ 2147483647 := by rw [e_n43]; exact bM_3 hB_o _
                have cl := CG_lt (f := o.1 56) (n := x3) (i := x7) (by omega) (by omega) (by omega)
                refine T_qIn ⟨by omega, by omega⟩ ?_
                refine T_qNm (fun o45 e_o45 => ?_)
                have hB_o45 : BoxM o45 := by rw [e_o45]; exact Box.s1 hB_o (show -9 ≤ ((o.1 0 4) + n43) ∧ ((o.1 0 4) + n43) ≤ 100000 from ⟨by omega, by omega⟩)
                have fr_o45 : Fr [(56, 9999)] i_o o45 := by rw [e_o45]; exact Fr.s1 fr_o rfl
                have g0_4_o45 : o45.1 0 4 = o.1 0 4 := by rw [e_o45]; rfl
                have cg1 : CG (o45.1 56) x3 = CG (o.1 56) x3 + 1 := by rw [e_o45]; exact CG_upd (by omega) (by omega) (by omega) (by omega)
                have db1 : DBm o45 x3 (999 + 200 * (x5 + 1)) := by rw [e_o45]; exact DBm_upd w2 (by omega) (by omega)
                unfold b_X12_acts_326
                refine T_some ?_
                show (BoxM o45 ∧ (Fr [(56, 9999)] i_o o45) ∧ (0 ≤ (x7 + 1) ∧ (x7 + 1) ≤ x3) ∧ ((x5 + 1) = CG (o45.1 56) x3) ∧ (DBm o45 x3 (999 + 200 * (x5 + 1))) ∧ (0 ≤ (x5 + 1))) ∧ (x3 - (x7 + 1)).toNat < (x3 - x7).toNat
                exact ⟨⟨hB_o45, fr_o45, (by omega), (by omega), (by first | assumption | exact DBm.up (by assumption) (by omega) | omega), (by omega)⟩, by omega⟩
        ·
          unfold b_X12_acts_326
          refine T_some ?_
          show (BoxM o ∧ (Fr [(56, 9999)] i_o o) ∧ (0 ≤ (x7 + 1) ∧ (x7 + 1) ≤ x3) ∧ (x5 = CG (o.1 56) x3) ∧ (DBm o x3 (999 + 200 * x5)) ∧ (0 ≤ x5)) ∧ (x3 - (x7 + 1)).toNat < (x3 - x7).toNat
          exact ⟨⟨hB_o, fr_o, (by omega), (by omega), (by first | assumption | exact DBm.up (by assumption) (by omega) | omega), (by omega)⟩, by omega⟩
      ·
        refine T_qB (t_X12_ahead o x1 x7 1 hB_o (by omega) (by omega) (by omega)) (fun r50 hc_r50 hp46 => ?_)
        replace hp46 : (inR r50) ∧ (r50 = o.1 3 (40 * x1 + 3 * x7 + 1 + 1).toNat) := hp46
        have hps_hp46 := hp46
        obtain ⟨hp46_0, hp46_1⟩ := hps_hp46
        replace hp46 := hid hp46
        refine T_qIn ⟨by omega, by omega⟩ ?_
        refine T_qNm (fun n53 e_n53 => ?_)
        have b_n53 : -9 ≤ n53 ∧ n53 ≤ 100000 := by rw [e_n53]; exact bM_56 hB_o _
        have dbj := w2 r50 (by omega) (by omega)
        unfold b_X12_acts_265
        refine T_qIn ⟨by omega, by omega⟩ ?_
        refine T_qNm (fun n47 e_n47 => ?_)
        have b_n47 : -9 ≤ n47 ∧ n47 ≤ 100000 := by rw [e_n47]; exact bM_56 hB_o _
        refine T_qLt ⟨by omega, by omega⟩ ⟨by decide, by decide⟩ (fun h47 => ?_) (fun h47 => ?_)
        ·
          refine T_qLt ⟨by omega, by omega⟩ ⟨by decide, by decide⟩ (fun h48 => ?_) (fun h48 => ?_)
          ·
            unfold b_X12_acts_326
            refine T_some ?_
            show (BoxM o ∧ (Fr [(56, 9999)] i_o o) ∧ (0 ≤ (x7 + 1) ∧ (x7 + 1) ≤ x3) ∧ (x5 = CG (o.1 56) x3) ∧ (DBm o x3 (999 + 200 * x5)) ∧ (0 ≤ x5)) ∧ (x3 - (x7 + 1)).toNat < (x3 - x7).toNat
            exact ⟨⟨hB_o, fr_o, (by omega), (by omega), (by first | assumption | exact DBm.up (by assumption) (by omega) | omega), (by omega)⟩, by omega⟩
          ·
            refine T_qLt ⟨by omega, by omega⟩ ⟨by decide, by decide⟩ (fun h49 => ?_) (fun h49 => ?_)
            ·
              unfold b_X12_acts_326
              refine T_some ?_
              show (BoxM o ∧ (Fr [(56, 9999)] i_o o) ∧ (0 ≤ (x7 + 1) ∧ (x7 + 1) ≤ x3) ∧ (x5 = CG (o.1 56) x3) ∧ (DBm o x3 (999 + 200 * x5)) ∧ (0 ≤ x5)) ∧ (x3 - (x7 + 1)).toNat < (x3 - x7).toNat
              exact ⟨⟨hB_o, fr_o, (by omega), (by omega), (by first | assumption | exact DBm.up (by assumption) (by omega) | omega), (by omega)⟩, by omega⟩
            ·
              refine T_qLt ⟨by omega, by omega⟩ ⟨by omega, by omega⟩ (fun h50 => ?_) (fun h50 => ?_)
              ·
                unfold b_X12_acts_307
                refine T_qIn ⟨by omega, by omega⟩ ?_
                refine T_qNm (fun n43 e_n43 => ?_)
                have b_n43 : -2147483648 ≤ n43 ∧ n43 ≤ 2147483647 := by rw [e_n43]; exact bM_3 hB_o _
                have cl := CG_lt (f := o.1 56) (n := x3) (i := x7) (by omega) (by omega) (by omega)
                refine T_qIn ⟨by omega, by omega⟩ ?_
                refine T_qNm (fun o45 e_o45 => ?_)
                have hB_o45 : BoxM o45 := by rw [e_o45]; exact Box.s1 hB_o (show -9 ≤ ((o.1 0 4) + n43) ∧ ((o.1 0 4) + n43) ≤ 100000 from ⟨by omega, by omega⟩)
                have fr_o45 : Fr [(56, 9999)] i_o o45 := by rw [e_o45]; exact Fr.s1 fr_o rfl
                have g0_4_o45 : o45.1 0 4 = o.1 0 4 := by rw [e_o45]; rfl
                have cg1 : CG (o45.1 56) x3 = CG (o.1 56) x3 + 1 := by rw [e_o45]; exact CG_upd (by omega) (by omega) (by omega) (by omega)
                have db1 : DBm o45 x3 (999 + 200 * (x5 + 1)) := by rw [e_o45]; exact DBm_upd w2 (by omega) (by omega)
                unfold b_X12_acts_326
                refine T_some ?_
                show (BoxM o45 ∧ (Fr [(56, 9999)] i_o o45) ∧ (0 ≤ (x7 + 1) ∧ (x7 + 1) ≤ x3) ∧ ((x5 + 1) = CG (o45.1 56) x3) ∧ (DBm o45 x3 (999 + 200 * (x5 + 1))) ∧ (0 ≤ (x5 + 1))) ∧ (x3 - (x7 + 1)).toNat < (x3 - x7).toNat
                exact ⟨⟨hB_o45, fr_o45, (by omega), (by omega), (by first | assumption | exact DBm.up (by assumption) (by omega) | omega), (by omega)⟩, by omega⟩
              ·
                unfold b_X12_acts_307
                refine T_qIn ⟨by omega, by omega⟩ ?_
                refine T_qNm (fun n43 e_n43 => ?_)
                have b_n43 : -2147483648 ≤ n43 ∧ n43 ≤ 2147483647 := by rw [e_n43]; exact bM_3 hB_o _
                have cl := CG_lt (f := o.1 56) (n := x3) (i := x7) (by omega) (by omega) (by omega)
                refine T_qIn ⟨by omega, by omega⟩ ?_
                refine T_qNm (fun o45 e_o45 => ?_)
                have hB_o45 : BoxM o45 := by rw [e_o45]; exact Box.s1 hB_o (show -9 ≤ (n53 + n43) ∧ (n53 + n43) ≤ 100000 from ⟨by omega, by omega⟩)
                have fr_o45 : Fr [(56, 9999)] i_o o45 := by rw [e_o45]; exact Fr.s1 fr_o rfl
                have g0_4_o45 : o45.1 0 4 = o.1 0 4 := by rw [e_o45]; rfl
                have cg1 : CG (o45.1 56) x3 = CG (o.1 56) x3 + 1 := by rw [e_o45]; exact CG_upd (by omega) (by omega) (by omega) (by omega)
                have db1 : DBm o45 x3 (999 + 200 * (x5 + 1)) := by rw [e_o45]; exact DBm_upd w2 (by omega) (by omega)
                unfold b_X12_acts_326
                refine T_some ?_
                show (BoxM o45 ∧ (Fr [(56, 9999)] i_o o45) ∧ (0 ≤ (x7 + 1) ∧ (x7 + 1) ≤ x3) ∧ ((x5 + 1) = CG (o45.1 56) x3) ∧ (DBm o45 x3 (999 + 200 * (x5 + 1))) ∧ (0 ≤ (x5 + 1))) ∧ (x3 - (x7 + 1)).toNat < (x3 - x7).toNat
                exact ⟨⟨hB_o45, fr_o45, (by omega), (by omega), (by first | assumption | exact DBm.up (by assumption) (by omega) | omega), (by omega)⟩, by omega⟩
        ·
          unfold b_X12_acts_326
          refine T_some ?_
          show (BoxM o ∧ (Fr [(56, 9999)] i_o o) ∧ (0 ≤ (x7 + 1) ∧ (x7 + 1) ≤ x3) ∧ (x5 = CG (o.1 56) x3) ∧ (DBm o x3 (999 + 200 * x5)) ∧ (0 ≤ x5)) ∧ (x3 - (x7 + 1)).toNat < (x3 - x7).toNat
          exact ⟨⟨hB_o, fr_o, (by omega), (by omega), (by first | assumption | exact DBm.up (by assumption) (by omega) | omega), (by omega)⟩, by omega⟩
    ·
      refine T_qB (t_X12_ahead o x1 x7 0 hB_o (by omega) (by omega) (by omega)) (fun r56 hc_r56 hp51 => ?_)
      replace hp51 : (inR r56) ∧ (r56 = o.1 3 (40 * x1 + 3 * x7 + 1 + 0).toNat) := hp51
      have hps_hp51 := hp51
      obtain ⟨hp51_0, hp51_1⟩ := hps_hp51
      replace hp51 := hid hp51
      refine T_qIn ⟨by omega, by omega⟩ ?_
      refine T_qNm (fun n59 e_n59 => ?_)
      have b_n59 : -9 ≤ n59 ∧ n59 ≤ 100000 := by rw [e_n59]; exact bM_56 hB_o _
      have dbi := w2 r56 (by omega) (by omega)
      unfold b_X12_acts_230
      refine T_qB (t_X12_ahead o x1 x7 1 hB_o (by omega) (by omega) (by omega)) (fun r48 hc_r48 hp52 => ?_)
      replace hp52 : (inR r48) ∧ (r48 = o.1 3 (40 * x1 + 3 * x7 + 1 + 1).toNat) := hp52
      have hps_hp52 := hp52
      obtain ⟨hp52_0, hp52_1⟩ := hps_hp52
      replace hp52 := hid hp52
      refine T_qEq ⟨by omega, by omega⟩ ⟨by decide, by decide⟩ (fun h53 => ?_) (fun h53 => ?_)
      ·
        unfold b_X12_acts_265
        refine T_qIn ⟨by omega, by omega⟩ ?_
        refine T_qNm (fun n47 e_n47 => ?_)
        have b_n47 : -9 ≤ n47 ∧ n47 ≤ 100000 := by rw [e_n47]; exact bM_56 hB_o _
        refine T_qLt ⟨by omega, by omega⟩ ⟨by decide, by decide⟩ (fun h54 => ?_) (fun h54 => ?_)
        ·
          refine T_qLt ⟨by omega, by omega⟩ ⟨by decide, by decide⟩ (fun h55 => ?_) (fun h55 => ?_)
          ·
            unfold b_X12_acts_326
            refine T_some ?_
            show (BoxM o ∧ (Fr [(56, 9999)] i_o o) ∧ (0 ≤ (x7 + 1) ∧ (x7 + 1) ≤ x3) ∧ (x5 = CG (o.1 56) x3) ∧ (DBm o x3 (999 + 200 * x5)) ∧ (0 ≤ x5)) ∧ (x3 - (x7 + 1)).toNat < (x3 - x7).toNat
            exact ⟨⟨hB_o, fr_o, (by omega), (by omega), (by first | assumption | exact DBm.up (by assumption) (by omega) | omega), (by omega)⟩, by omega⟩
          ·
            refine T_qLt ⟨by omega, by omega⟩ ⟨by decide, by decide⟩ (fun h56 => ?_) (fun h56 => ?_)
            ·
              unfold b_X12_acts_326
              refine T_some ?_
              show (BoxM o ∧ (Fr [(56, 9999)] i_o o) ∧ (0 ≤ (x7 + 1) ∧ (x7 + 1) ≤ x3) ∧ (x5 = CG (o.1 56) x3) ∧ (DBm o x3 (999 + 200 * x5)) ∧ (0 ≤ x5)) ∧ (x3 - (x7 + 1)).toNat < (x3 - x7).toNat
              exact ⟨⟨hB_o, fr_o, (by omega), (by omega), (by first | assumption | exact DBm.up (by assumption) (by omega) | omega), (by omega)⟩, by omega⟩
            ·
              refine T_qLt ⟨by omega, by omega⟩ ⟨by omega, by omega⟩ (fun h57 => ?_) (fun h57 => ?_)
              ·
                unfold b_X12_acts_307
                refine T_qIn ⟨by omega, by omega⟩ ?_
                refine T_qNm (fun n43 e_n43 => ?_)
                have b_n43 : -2147483648 ≤ n43 ∧ n43 ≤ 2147483647 := by rw [e_n43]; exact bM_3 hB_o _
                have cl := CG_lt (f := o.1 56) (n := x3) (i := x7) (by omega) (by omega) (by omega)
                refine T_qIn ⟨by omega, by omega⟩ ?_
                refine T_qNm (fun o45 e_o45 => ?_)
                have hB_o45 : BoxM o45 := by rw [e_o45]; exact Box.s1 hB_o (show -9 ≤ (n59 + n43) ∧ (n59 + n43) ≤ 100000 from ⟨by omega, by omega⟩)
                have fr_o45 : Fr [(56, 9999)] i_o o45 := by rw [e_o45]; exact Fr.s1 fr_o rfl
                have g0_4_o45 : o45.1 0 4 = o.1 0 4 := by rw [e_o45]; rfl
                have cg1 : CG (o45.1 56) x3 = CG (o.1 56) x3 + 1 := by rw [e_o45]; exact CG_upd (by omega) (by omega) (by omega) (by omega)
                have db1 : DBm o45 x3 (999 + 200 * (x5 + 1)) := by rw [e_o45]; exact DBm_upd w2 (by omega) (by omega)
                unfold b_X12_acts_326
                refine T_some ?_
                show (BoxM o45 ∧ (Fr [(56, 9999)] i_o o45) ∧ (0 ≤ (x7 + 1) ∧ (x7 + 1) ≤ x3) ∧ ((x5 + 1) = CG (o45.1 56) x3) ∧ (DBm o45 x3 (999 + 200 * (x5 + 1))) ∧ (0 ≤ (x5 + 1))) ∧ (x3 - (x7 + 1)).toNat < (x3 - x7).toNat
                exact ⟨⟨hB_o45, fr_o45, (by omega), (by omega), (by first | assumption | exact DBm.up (by assumption) (by omega) | omega), (by omega)⟩, by omega⟩
              ·
                unfold b_X12_acts_307
                refine T_qIn ⟨by omega, by omega⟩ ?_
                refine T_qNm (fun n43 e_n43 => ?_)
                have b_n43 : -2147483648 ≤ n43 ∧ n43 ≤ 2147483647 := by rw [e_n43]; exact bM_3 hB_o _
                have cl := CG_lt (f := o.1 56) (n := x3) (i := x7) (by omega) (by omega) (by omega)
                refine T_qIn ⟨by omega, by omega⟩ ?_
                refine T_qNm (fun o45 e_o45 => ?_)
                have hB_o45 : BoxM o45 := by rw [e_o45]; exact Box.s1 hB_o (show -9 ≤ ((o.1 0 4) + n43) ∧ ((o.1 0 4) + n43) ≤ 100000 from ⟨by omega, by omega⟩)
                have fr_o45 : Fr [(56, 9999)] i_o o45 := by rw [e_o45]; exact Fr.s1 fr_o rfl
                have g0_4_o45 : o45.1 0 4 = o.1 0 4 := by rw [e_o45]; rfl
                have cg1 : CG (o45.1 56) x3 = CG (o.1 56) x3 + 1 := by rw [e_o45]; exact CG_upd (by omega) (by omega) (by omega) (by omega)
                have db1 : DBm o45 x3 (999 + 200 * (x5 + 1)) := by rw [e_o45]; exact DBm_upd w2 (by omega) (by omega)
                unfold b_X12_acts_326
                refine T_some ?_
                show (BoxM o45 ∧ (Fr [(56, 9999)] i_o o45) ∧ (0 ≤ (x7 + 1) ∧ (x7 + 1) ≤ x3) ∧ ((x5 + 1) = CG (o45.1 56) x3) ∧ (DBm o45 x3 (999 + 200 * (x5 + 1))) ∧ (0 ≤ (x5 + 1))) ∧ (x3 - (x7 + 1)).toNat < (x3 - x7).toNat
                exact ⟨⟨hB_o45, fr_o45, (by omega), (by omega), (by first | assumption | exact DBm.up (by assumption) (by omega) | omega), (by omega)⟩, by omega⟩
        ·
          unfold b_X12_acts_326
          refine T_some ?_
          show (BoxM o ∧ (Fr [(56, 9999)] i_o o) ∧ (0 ≤ (x7 + 1) ∧ (x7 + 1) ≤ x3) ∧ (x5 = CG (o.1 56) x3) ∧ (DBm o x3 (999 + 200 * x5)) ∧ (0 ≤ x5)) ∧ (x3 - (x7 + 1)).toNat < (x3 - x7).toNat
          exact ⟨⟨hB_o, fr_o, (by omega), (by omega), (by first | assumption | exact DBm.up (by assumption) (by omega) | omega), (by omega)⟩, by omega⟩
      ·
        refine T_qB (t_X12_ahead o x1 x7 1 hB_o (by omega) (by omega) (by omega)) (fun r50 hc_r50 hp58 => ?_)
        replace hp58 : (inR r50) ∧ (r50 = o.1 3 (40 * x1 + 3 * x7 + 1 + 1).toNat) := hp58
        have hps_hp58 := hp58
        obtain ⟨hp58_0, hp58_1⟩ := hps_hp58
        replace hp58 := hid hp58
        refine T_qIn ⟨by omega, by omega⟩ ?_
        refine T_qNm (fun n53 e_n53 => ?_)
        have b_n53 : -9 ≤ n53 ∧ n53 ≤ 100000 := by rw [e_n53]; exact bM_56 hB_o _
        have dbj := w2 r50 (by omega) (by omega)
        unfold b_X12_acts_265
        refine T_qIn ⟨by omega, by omega⟩ ?_
        refine T_qNm (fun n47 e_n47 => ?_)
        have b_n47 : -9 ≤ n47 ∧ n47 ≤ 100000 := by rw [e_n47]; exact bM_56 hB_o _
        refine T_qLt ⟨by omega, by omega⟩ ⟨by decide, by decide⟩ (fun h59 => ?_) (fun h59 => ?_)
        ·
          refine T_qLt ⟨by omega, by omega⟩ ⟨by decide, by decide⟩ (fun h60 => ?_) (fun h60 => ?_)
          ·
            unfold b_X12_acts_326
            refine T_some ?_
            show (BoxM o ∧ (Fr [(56, 9999)] i_o o) ∧ (0 ≤ (x7 + 1) ∧ (x7 + 1) ≤ x3) ∧ (x5 = CG (o.1 56) x3) ∧ (DBm o x3 (999 + 200 * x5)) ∧ (0 ≤ x5)) ∧ (x3 - (x7 + 1)).toNat < (x3 - x7).toNat
            exact ⟨⟨hB_o, fr_o, (by omega), (by omega), (by first | assumption | exact DBm.up (by assumption) (by omega) | omega), (by omega)⟩, by omega⟩
          ·
            refine T_qLt ⟨by omega, by omega⟩ ⟨by decide, by decide⟩ (fun h61 => ?_) (fun h61 => ?_)
            ·
              unfold b_X12_acts_326
              refine T_some ?_
              show (BoxM o ∧ (Fr [(56, 9999)] i_o o) ∧ (0 ≤ (x7 + 1) ∧ (x7 + 1) ≤ x3) ∧ (x5 = CG (o.1 56) x3) ∧ (DBm o x3 (999 + 200 * x5)) ∧ (0 ≤ x5)) ∧ (x3 - (x7 + 1)).toNat < (x3 - x7).toNat
              exact ⟨⟨hB_o, fr_o, (by omega), (by omega), (by first | assumption | exact DBm.up (by assumption) (by omega) | omega), (by omega)⟩, by omega⟩
            ·
              refine T_qLt ⟨by omega, by omega⟩ ⟨by omega, by omega⟩ (fun h62 => ?_) (fun h62 => ?_)
              ·
                unfold b_X12_acts_307
                refine T_qIn ⟨by omega, by omega⟩ ?_
                refine T_qNm (fun n43 e_n43 => ?_)
                have b_n43 : -2147483648 ≤ n43 ∧ n43 ≤ 2147483647 := by rw [e_n43]; exact bM_3 hB_o _
                have cl := CG_lt (f := o.1 56) (n := x3) (i := x7) (by omega) (by omega) (by omega)
                refine T_qIn ⟨by omega, by omega⟩ ?_
                refine T_qNm (fun o45 e_o45 => ?_)
                have hB_o45 : BoxM o45 := by rw [e_o45]; exact Box.s1 hB_o (show -9 ≤ (n59 + n43) ∧ (n59 + n43) ≤ 100000 from ⟨by omega, by omega⟩)
                have fr_o45 : Fr [(56, 9999)] i_o o45 := by rw [e_o45]; exact Fr.s1 fr_o rfl
                have g0_4_o45 : o45.1 0 4 = o.1 0 4 := by rw [e_o45]; rfl
                have cg1 : CG (o45.1 56) x3 = CG (o.1 56) x3 + 1 := by rw [e_o45]; exact CG_upd (by omega) (by omega) (by omega) (by omega)
                have db1 : DBm o45 x3 (999 + 200 * (x5 + 1)) := by rw [e_o45]; exact DBm_upd w2 (by omega) (by omega)
                unfold b_X12_acts_326
                refine T_some ?_
                show (BoxM o45 ∧ (Fr [(56, 9999)] i_o o45) ∧ (0 ≤ (x7 + 1) ∧ (x7 + 1) ≤ x3) ∧ ((x5 + 1) = CG (o45.1 56) x3) ∧ (DBm o45 x3 (999 + 200 * (x5 + 1))) ∧ (0 ≤ (x5 + 1))) ∧ (x3 - (x7 + 1)).toNat < (x3 - x7).toNat
                exact ⟨⟨hB_o45, fr_o45, (by omega), (by omega), (by first | assumption | exact DBm.up (by assumption) (by omega) | omega), (by omega)⟩, by omega⟩
              ·
                unfold b_X12_acts_307
                refine T_qIn ⟨by omega, by omega⟩ ?_
                refine T_qNm (fun n43 e_n43 => ?_)
                have b_n43 : -2147483648 ≤ n43 ∧ n43 ≤ 2147483647 := by rw [e_n43]; exact bM_3 hB_o _
                have cl := CG_lt (f := o.1 56) (n := x3) (i := x7) (by omega) (by omega) (by omega)
                refine T_qIn ⟨by omega, by omega⟩ ?_
                refine T_qNm (fun o45 e_o45 => ?_)
                have hB_o45 : BoxM o45 := by rw [e_o45]; exact Box.s1 hB_o (show -9 ≤ (n53 + n43) ∧ (n53 + n43) ≤ 100000 from ⟨by omega, by omega⟩)
                have fr_o45 : Fr [(56, 9999)] i_o o45 := by rw [e_o45]; exact Fr.s1 fr_o rfl
                have g0_4_o45 : o45.1 0 4 = o.1 0 4 := by rw [e_o45]; rfl
                have cg1 : CG (o45.1 56) x3 = CG (o.1 56) x3 + 1 := by rw [e_o45]; exact CG_upd (by omega) (by omega) (by omega) (by omega)
                have db1 : DBm o45 x3 (999 + 200 * (x5 + 1)) := by rw [e_o45]; exact DBm_upd w2 (by omega) (by omega)
                unfold b_X12_acts_326
                refine T_some ?_
                show (BoxM o45 ∧ (Fr [(56, 9999)] i_o o45) ∧ (0 ≤ (x7 + 1) ∧ (x7 + 1) ≤ x3) ∧ ((x5 + 1) = CG (o45.1 56) x3) ∧ (DBm o45 x3 (999 + 200 * (x5 + 1))) ∧ (0 ≤ (x5 + 1))) ∧ (x3 - (x7 + 1)).toNat < (x3 - x7).toNat
                exact ⟨⟨hB_o45, fr_o45, (by omega), (by omega), (by first | assumption | exact DBm.up (by assumption) (by omega) | omega), (by omega)⟩, by omega⟩
        ·
          unfold b_X12_acts_326
          refine T_some ?_
          show (BoxM o ∧ (Fr [(56, 9999)] i_o o) ∧ (0 ≤ (x7 + 1) ∧ (x7 + 1) ≤ x3) ∧ (x5 = CG (o.1 56) x3) ∧ (DBm o x3 (999 + 200 * x5)) ∧ (0 ≤ x5)) ∧ (x3 - (x7 + 1)).toNat < (x3 - x7).toNat
          exact ⟨⟨hB_o, fr_o, (by omega), (by omega), (by first | assumption | exact DBm.up (by assumption) (by omega) | omega), (by omega)⟩, by omega⟩
  ·
    refine T_some ?_
    show BoxM o ∧ (Fr [(56, 9999)] i_o o) ∧ (x5 = CG (o.1 56) x3) ∧ (DBm o x3 (999 + 200 * x5)) ∧ (0 ≤ x5)
    exact ⟨hB_o, fr_o, (by omega), (by first | assumption | exact DBm.up (by assumption) (by omega) | omega), (by omega)⟩
set_option maxRecDepth 20000 in
set_option maxHeartbeats 4000000 in
theorem tl_X12_acts_177 (x1 : Int) (x3 : Int) (x4 : Int) (i_o : OO) (i_x5 : Int) (i_x6 : Int) (hB_i_o : BoxM i_o) (k0 : 0 ≤ x1 ∧ x1 ≤ 5) (k1 : 1 ≤ x3 ∧ x3 ≤ 13) (k2 : x4 = 0 ∨ AVm i_o x1 x3 x3) (k3 : 0 ≤ x4 ∧ x4 ≤ 1) (v0 : 0 ≤ i_x6 ∧ i_x6 ≤ x3) (v1 : i_x5 = CG (i_o.1 56) x3) (v2 : DBm i_o x3 (999 + 200 * i_x5)) (v3 : 0 ≤ i_x5) : T (loopW (fun s => l_X12_acts_177 x1 x3 x4 s.1 s.2.1 s.2.2) (i_o, i_x5, i_x6)) (fun r => BoxM r.1 ∧ (Fr [(56, 9999)] i_o r.1) ∧ (r.2 = CG (r.1.1 56) x3) ∧ (DBm r.1 x3 (999 + 200 * r.2)) ∧ (0 ≤ r.2)) := by
  have fr_i_o : Fr [(56, 9999)] i_o i_o := Fr.rf
  refine T_loop (fun s => BoxM s.1 ∧ (Fr [(56, 9999)] i_o s.1) ∧ (0 ≤ s.2.2 ∧ s.2.2 ≤ x3) ∧ (s.2.1 = CG (s.1.1 56) x3) ∧ (DBm s.1 x3 (999 + 200 * s.2.1)) ∧ (0 ≤ s.2.1)) (fun s => (x3 - s.2.2).toNat) (by exact ⟨hB_i_o, fr_i_o, v0, v1, v2, v3⟩) (fun s hs => ?_)
  obtain ⟨o, x5, x6⟩ := s
  replace hs : BoxM o ∧ (Fr [(56, 9999)] i_o o) ∧ (0 ≤ x6 ∧ x6 ≤ x3) ∧ (x5 = CG (o.1 56) x3) ∧ (DBm o x3 (999 + 200 * x5)) ∧ (0 ≤ x5) := hs
  obtain ⟨hB_o, fr_o, w0, w1, w2, w3⟩ := hs
  have g0_4_i := bM_0_4 hB_i_o
  have g0_4_o : o.1 0 4 = i_o.1 0 4 := fr_o.1 0 4 rfl
  have avo : x4 = 0 ∨ AVm o x1 x3 x3 := (show x4 = 0 ∨ AVm i_o x1 x3 x3 by assumption).imp id (fun q => AVm.cg q (fun j => fr_o.1 3 j rfl))
  have cle := CG_le (f := o.1 56) (n := x3) (by omega)
  show T (l_X12_acts_177 x1 x3 x4 o x5 x6) _
  unfold l_X12_acts_177
  refine T_qLt ⟨by omega, by omega⟩ ⟨by omega, by omega⟩ (fun h63 => ?_) (fun h63 => ?_)
  ·
    refine T_qEq ⟨by omega, by omega⟩ ⟨by decide, by decide⟩ (fun h64 => ?_) (fun h64 => ?_)
    ·
      refine T_some ?_
      show BoxM o ∧ (Fr [(56, 9999)] i_o o) ∧ (x5 = CG (o.1 56) x3) ∧ (DBm o x3 (999 + 200 * x5)) ∧ (0 ≤ x5)
      exact ⟨hB_o, fr_o, (by omega), (by first | assumption | exact DBm.up (by assumption) (by omega) | omega), (by omega)⟩
    ·
      unfold e_X12_acts_191
      refine T_qB (tl_X12_acts_191 x1 x3 x4 x6 o x5 0 hB_o (by omega) (by omega) (by first | assumption | exact avo.elim (fun q => absurd q (by omega)) (fun q => q)) (by omega) (by omega) (by first | assumption | exact DBm.up (by assumption) (by omega) | omega) (by omega)) (fun r65 hc_r65 hp66 => ?_)
      obtain ⟨o_67, x5_68⟩ := r65
      replace hp66 : BoxM o_67 ∧ (Fr [(56, 9999)] o o_67) ∧ (x5_68 = CG (o_67.1 56) x3) ∧ (DBm o_67 x3 (999 + 200 * x5_68)) ∧ (0 ≤ x5_68) := hp66
      have hps_hp66 := hp66
      obtain ⟨hp66_0, hp66_1, hp66_2, hp66_3, hp66_4⟩ := hps_hp66
      obtain ⟨hB_o_67, fc_o_67, hp66⟩ := hp66
      replace hp66 := hid hp66
      have fr_o_67 : Fr [(56, 9999)] i_o o_67 := Fr.tr fr_o fc_o_67 rfl
      have g0_4_o_67 : o_67.1 0 4 = o.1 0 4 := fc_o_67.1 0 4 rfl
      show T (b_X12_acts_332 o_67 x1 x3 x4 x5_68 x6) _
      unfold b_X12_acts_332
      refine T_some ?_
      show (BoxM o_67 ∧ (Fr [(56, 9999)] i_o o_67) ∧ (0 ≤ (x6 + 1) ∧ (x6 + 1) ≤ x3) ∧ (x5_68 = CG (o_67.1 56) x3) ∧ (DBm o_67 x3 (999 + 200 * x5_68)) ∧ (0 ≤ x5_68)) ∧ (x3 - (x6 + 1)).toNat < (x3 - x6).toNat
      exact ⟨⟨hB_o_67, fr_o_67, (by omega), (by omega), (by first | assumption | exact DBm.up (by assumption) (by omega) | omega), (by omega)⟩, by omega⟩
  ·
    refine T_some ?_
    show BoxM o ∧ (Fr [(56, 9999)] i_o o) ∧ (x5 = CG (o.1 56) x3) ∧ (DBm o x3 (999 + 200 * x5)) ∧ (0 ≤ x5)
    exact ⟨hB_o, fr_o, (by omega), (by first | assumption | exact DBm.up (by assumption) (by omega) | omega), (by omega)⟩
set_option maxRecDepth 20000 in
set_option maxHeartbeats 4000000 in
theorem t_X12_acts (o : OO) (x1 : Int) (hB_o : BoxM o) (k0 : inR x1) : T (s_X12_acts o x1) (fun v => BoxM v.2 ∧ (Fr [(0, 0), (0, 65), (0, 66), (1, 9999), (54, 9999), (55, 9999), (56, 9999), (57, 9999)] o v.2)) := by
  have fr_o : Fr [(0, 0), (0, 65), (0, 66), (1, 9999), (54, 9999), (55, 9999), (56, 9999), (57, 9999)] o o := Fr.rf
  have g0_4_o := bM_0_4 hB_o
  unfold s_X12_acts
  refine T_qB2 (t_X12_askedRow o x1 hB_o (by omega)) (fun r72 o74 hc_r72 hp69 => ?_)
  replace hp69 : BoxM o74 ∧ (Fr [(0, 0), (1, 9999)] o o74) ∧ (r72 = -1 ∨ r72 = -3 ∨ (r72 = 0 ∧ 0 ≤ x1 ∧ x1 ≤ 5 ∧ 0 ≤ o74.1 2 x1.toNat)) := hp69
  obtain ⟨hB_o74, fc_o74, hp69⟩ := hp69
  have fr_o74 : Fr [(0, 0), (0, 65), (0, 66), (1, 9999), (54, 9999), (55, 9999), (56, 9999), (57, 9999)] o o74 := Fr.tr fr_o fc_o74 rfl
  have g0_4_o74 : o74.1 0 4 = o.1 0 4 := fc_o74.1 0 4 rfl
  refine T_qLt ⟨by omega, by omega⟩ ⟨by decide, by decide⟩ (fun h70 => ?_) (fun h70 => ?_)
  ·
    refine T_some ?_
    show BoxM o74 ∧ (Fr [(0, 0), (0, 65), (0, 66), (1, 9999), (54, 9999), (55, 9999), (56, 9999), (57, 9999)] o o74)
    exact ⟨hB_o74, fr_o74⟩
  ·
    refine T_qIn ⟨by omega, by omega⟩ ?_
    refine T_qNm (fun n76 e_n76 => ?_)
    have b_n76 : -9 ≤ n76 ∧ n76 ≤ 40 := by rw [e_n76]; exact bM_2 hB_o74 _
    refine T_qDv ⟨⟨by omega, by omega⟩, ⟨by decide, by decide⟩, by decide⟩ ?_
    have jd71 : jq n76 3 = n76 / 3 := jq_nn (by omega)
    refine T_qNm (fun n78 e_n78 => ?_)
    refine T_qIn ⟨by omega, by omega⟩ ?_
    refine T_qNm (fun n80 e_n80 => ?_)
    have b_n80 : -9 ≤ n80 ∧ n80 ≤ 40 := by rw [e_n80]; exact bM_2 hB_o74 _
    refine T_qDv ⟨⟨by omega, by omega⟩, ⟨by decide, by decide⟩, by decide⟩ ?_
    have jd72 : jq n80 3 = n80 / 3 := jq_nn (by omega)
    refine T_qEq ⟨by omega, by omega⟩ ⟨by decide, by decide⟩ (fun h73 => ?_) (fun h73 => ?_)
    ·
      refine T_qB (t_X12_in n78 1 13 (by omega) (by omega) (by omega)) (fun r82 hc_r82 hp74 => ?_)
      replace hp74 : ((r82 = 1 ∧ 1 ≤ n78 ∧ n78 ≤ 13) ∨ (r82 = 0 ∧ (n78 < 1 ∨ 13 < n78))) := hp74
      refine T_qEq ⟨by omega, by omega⟩ ⟨by decide, by decide⟩ (fun h75 => ?_) (fun h75 => ?_)
      ·
        unfold b_X12_acts_42
        refine T_qB2 (t_X12_meets o74 5 hB_o74 (by omega)) (fun r1 o3 hc_r1 hp76 => ?_)
        replace hp76 : BoxM o3 ∧ (Fr [(0, 0), (1, 9999)] o74 o3) ∧ (r1 = -3) := hp76
        obtain ⟨hB_o3, fc_o3, hp76⟩ := hp76
        have fr_o3 : Fr [(0, 0), (0, 65), (0, 66), (1, 9999), (54, 9999), (55, 9999), (56, 9999), (57, 9999)] o o3 := Fr.tr fr_o74 fc_o3 rfl
        have g0_4_o3 : o3.1 0 4 = o74.1 0 4 := fc_o3.1 0 4 rfl
        refine T_some ?_
        show BoxM o3 ∧ (Fr [(0, 0), (0, 65), (0, 66), (1, 9999), (54, 9999), (55, 9999), (56, 9999), (57, 9999)] o o3)
        exact ⟨hB_o3, fr_o3⟩
      ·
        unfold e_X12_acts_54
        refine T_qB (tl_X12_acts_54 x1 n78 o74 1 0 hB_o74 (by omega) (by omega) (by omega) (by omega) (by omega) (by first | assumption | exact Or.inl rfl | exact Or.inr AVm_0 | exact an9.elim (fun q => Or.inl q) (fun q => absurd q.1 (by decide)) | exact an9.elim (fun q => Or.inl q) (fun q => Or.inr (AVm.cg (AVm_s (w2.elim (fun z => absurd z (by omega)) (fun z => z)) (by omega) q.2) (fun j => by rw [e_o61]; rfl))) | (have q9 := w2; rwa [show x5 = x3 by omega] at q9) | omega) (by first | assumption | exact EN_0 | (rw [e_o61]; exact EN_s w3 (by omega)) | (have q9 := w3; rwa [show x5 = x3 by omega] at q9) | omega)) (fun r77 hc_r77 hp78 => ?_)
        obtain ⟨o_79, x4_80⟩ := r77
        replace hp78 : BoxM o_79 ∧ (Fr [(56, 9999)] o74 o_79) ∧ (0 ≤ x4_80 ∧ x4_80 ≤ 1) ∧ (x4_80 = 0 ∨ AVm o_79 x1 n78 n78) ∧ (EN o_79 n78) := hp78
        have hps_hp78 := hp78
        obtain ⟨hp78_0, hp78_1, hp78_2, hp78_3, hp78_4⟩ := hps_hp78
        obtain ⟨hB_o_79, fc_o_79, hp78⟩ := hp78
        replace hp78 := hid hp78
        have fr_o_79 : Fr [(0, 0), (0, 65), (0, 66), (1, 9999), (54, 9999), (55, 9999), (56, 9999), (57, 9999)] o o_79 := Fr.tr fr_o74 fc_o_79 rfl
        have g0_4_o_79 : o_79.1 0 4 = o74.1 0 4 := fc_o_79.1 0 4 rfl
        show T (b_X12_acts_171 o_79 x1 n78 x4_80) _
        have en9 : EN o_79 n78 := by assumption
        have cg0 : CG (o_79.1 56) n78 = 0 := CG_none (fun j hj => by rw [en9 j hj]; decide)
        have db0 : DBm o_79 n78 (999 + 200 * 0) := fun j q0 q1 => by have := en9 j.toNat (by omega); omega
        have av9 : x4_80 = 0 ∨ AVm o_79 x1 n78 n78 := by assumption
        unfold b_X12_acts_171
        unfold e_X12_acts_177
        refine T_qB (tl_X12_acts_177 x1 n78 x4_80 o_79 0 0 hB_o_79 (by omega) (by omega) (by first | assumption | exact Or.inl rfl | exact Or.inr AVm_0 | exact an9.elim (fun q => Or.inl q) (fun q => absurd q.1 (by decide)) | exact an9.elim (fun q => Or.inl q) (fun q => Or.inr (AVm.cg (AVm_s (w2.elim (fun z => absurd z (by omega)) (fun z => z)) (by omega) q.2) (fun j => by rw [e_o61]; rfl))) | (have q9 := w2; rwa [show x5 = x3 by omega] at q9) | omega) (by omega) (by omega) (by omega) (by first | assumption | exact DBm.up (by assumption) (by omega) | omega) (by omega)) (fun r81 hc_r81 hp82 => ?_)
        obtain ⟨o_83, x5_84⟩ := r81
        replace hp82 : BoxM o_83 ∧ (Fr [(56, 9999)] o_79 o_83) ∧ (x5_84 = CG (o_83.1 56) n78) ∧ (DBm o_83 n78 (999 + 200 * x5_84)) ∧ (0 ≤ x5_84) := hp82
        have hps_hp82 := hp82
        obtain ⟨hp82_0, hp82_1, hp82_2, hp82_3, hp82_4⟩ := hps_hp82
        obtain ⟨hB_o_83, fc_o_83, hp82⟩ := hp82
        replace hp82 := hid hp82
        have fr_o_83 : Fr [(0, 0), (0, 65), (0, 66), (1, 9999), (54, 9999), (55, 9999), (56, 9999), (57, 9999)] o o_83 := Fr.tr fr_o_79 fc_o_83 rfl
        have g0_4_o_83 : o_83.1 0 4 = o_79.1 0 4 := fc_o_83.1 0 4 rfl
        show T (b_X12_acts_338 o_83 x1 n78 x4_80 x5_84) _
        have cle9 := CG_le (f := o_83.1 56) (n := n78) (by omega)
        have av8 : x4_80 = 0 ∨ AVm o_83 x1 n78 n78 := av9.imp id (fun q => AVm.cg q (fun j => fc_o_83.1 3 j rfl))
        unfold b_X12_acts_338
        refine T_qEq ⟨by omega, by omega⟩ ⟨by decide, by decide⟩ (fun h85 => ?_) (fun h85 => ?_)
        ·
          unfold b_X12_acts_349
          refine T_qB2 (t_X12_meets o_83 3 hB_o_83 (by omega)) (fun r4 o6 hc_r4 hp86 => ?_)
          replace hp86 : BoxM o6 ∧ (Fr [(0, 0), (1, 9999)] o_83 o6) ∧ (r4 = -3) := hp86
          obtain ⟨hB_o6, fc_o6, hp86⟩ := hp86
          have fr_o6 : Fr [(0, 0), (0, 65), (0, 66), (1, 9999), (54, 9999), (55, 9999), (56, 9999), (57, 9999)] o o6 := Fr.tr fr_o_83 fc_o6 rfl
          have g0_4_o6 : o6.1 0 4 = o_83.1 0 4 := fc_o6.1 0 4 rfl
          refine T_some ?_
          show BoxM o6 ∧ (Fr [(0, 0), (0, 65), (0, 66), (1, 9999), (54, 9999), (55, 9999), (56, 9999), (57, 9999)] o o6)
          exact ⟨hB_o6, fr_o6⟩
        ·
          refine T_qLt ⟨by omega, by omega⟩ ⟨by omega, by omega⟩ (fun h87 => ?_) (fun h87 => ?_)
          ·
            unfold b_X12_acts_349
            refine T_qB2 (t_X12_meets o_83 3 hB_o_83 (by omega)) (fun r4 o6 hc_r4 hp88 => ?_)
            replace hp88 : BoxM o6 ∧ (Fr [(0, 0), (1, 9999)] o_83 o6) ∧ (r4 = -3) := hp88
            obtain ⟨hB_o6, fc_o6, hp88⟩ := hp88
            have fr_o6 : Fr [(0, 0), (0, 65), (0, 66), (1, 9999), (54, 9999), (55, 9999), (56, 9999), (57, 9999)] o o6 := Fr.tr fr_o_83 fc_o6 rfl
            have g0_4_o6 : o6.1 0 4 = o_83.1 0 4 := fc_o6.1 0 4 rfl
            refine T_some ?_
            show BoxM o6 ∧ (Fr [(0, 0), (0, 65), (0, 66), (1, 9999), (54, 9999), (55, 9999), (56, 9999), (57, 9999)] o o6)
            exact ⟨hB_o6, fr_o6⟩
          ·
            unfold e_X12_acts_364
            refine T_qB (tl_X12_acts_364 o_83 x1 n78 (o_83.1 0 4) 0 hB_o_83 (by omega) (by omega) (by omega) (by omega)) (fun r89 hc_r89 hp90 => ?_)
            obtain ⟨x6_91, q_x6_91⟩ : ∃ q, q = r89 := ⟨_, rfl⟩
            subst q_x6_91
            replace hp90 : (0 ≤ x6_91 ∧ x6_91 ≤ 100000) := hp90
            show T (b_X12_acts_402 o_83 x1 n78 x6_91) _
            unfold b_X12_acts_402
            unfold e_X12_acts_405
            refine T_qB (tl_X12_acts_405 x1 n78 x6_91 o_83 0 hB_o_83 (by omega) (by omega) (by omega) (by omega) (by first | assumption | exact LTm_0 | exact LTm.up (by assumption) (by omega) | (have q9 := w1; rwa [show x7 = x3 by omega] at q9) | omega)) (fun r92 hc_r92 hp93 => ?_)
            obtain ⟨o_94, q_o_94⟩ : ∃ q, q = r92 := ⟨_, rfl⟩
            subst q_o_94
            replace hp93 : BoxM o_94 ∧ (Fr [(57, 9999)] o_83 o_94) ∧ (LTm o_94 n78 100100) := hp93
            have hps_hp93 := hp93
            obtain ⟨hp93_0, hp93_1, hp93_2⟩ := hps_hp93
            obtain ⟨hB_o_94, fc_o_94, hp93⟩ := hp93
            replace hp93 := hid hp93
            have fr_o_94 : Fr [(0, 0), (0, 65), (0, 66), (1, 9999), (54, 9999), (55, 9999), (56, 9999), (57, 9999)] o o_94 := Fr.tr fr_o_83 fc_o_94 rfl
            have g0_4_o_94 : o_94.1 0 4 = o_83.1 0 4 := fc_o_94.1 0 4 rfl
            show T (b_X12_acts_434 o_94 x1 n78 x6_91) _
            have avo : AVm o_94 x1 n78 n78 := AVm.cg (av8.elim (fun q => absurd q (by omega)) (fun q => q)) (fun j => fc_o_94.1 3 j rfl)
            unfold b_X12_acts_434
            unfold e_X12_acts_437
            refine T_qB (tl_X12_acts_437 x1 n78 x6_91 o_94 0 hB_o_94 (by omega) (by omega) (by first | assumption | exact avo.elim (fun q => absurd q (by omega)) (fun q => q)) (by omega) (by first | assumption | exact LTm_0 | exact LTm.up (by assumption) (by omega) | (have q9 := w1; rwa [show x7 = x3 by omega] at q9) | omega)) (fun r95 hc_r95 hp96 => ?_)
            obtain ⟨o_97, q_o_97⟩ : ∃ q, q = r95 := ⟨_, rfl⟩
            subst q_o_97
            replace hp96 : BoxM o_97 ∧ (Fr [(57, 9999)] o_94 o_97) := hp96
            have hps_hp96 := hp96
            obtain ⟨hp96_0, hp96_1⟩ := hps_hp96
            obtain ⟨hB_o_97, fc_o_97⟩ := hp96
            have fr_o_97 : Fr [(0, 0), (0, 65), (0, 66), (1, 9999), (54, 9999), (55, 9999), (56, 9999), (57, 9999)] o o_97 := Fr.tr fr_o_94 fc_o_97 rfl
            have g0_4_o_97 : o_97.1 0 4 = o_94.1 0 4 := fc_o_97.1 0 4 rfl
            show T (b_X12_acts_568 o_97 n78 x6_91) _
            unfold b_X12_acts_568
            refine T_qNm (fun o15 e_o15 => ?_)
            have hB_o15 : BoxM o15 := by rw [e_o15]; exact Box.s1 hB_o_97 (show 0 ≤ n78 ∧ n78 ≤ 13 from ⟨by omega, by omega⟩)
            have fr_o15 : Fr [(0, 0), (0, 65), (0, 66), (1, 9999), (54, 9999), (55, 9999), (56, 9999), (57, 9999)] o o15 := by rw [e_o15]; exact Fr.s1 fr_o_97 rfl
            have g0_4_o15 : o15.1 0 4 = o_97.1 0 4 := by rw [e_o15]; rfl
            refine T_qNm (fun o16 e_o16 => ?_)
            have hB_o16 : BoxM o16 := by rw [e_o16]; exact Box.s1 hB_o15 (show -9 ≤ x6_91 ∧ x6_91 ≤ 100000 from ⟨by omega, by omega⟩)
            have fr_o16 : Fr [(0, 0), (0, 65), (0, 66), (1, 9999), (54, 9999), (55, 9999), (56, 9999), (57, 9999)] o o16 := by rw [e_o16]; exact Fr.s1 fr_o15 rfl
            have g0_4_o16 : o16.1 0 4 = o15.1 0 4 := by rw [e_o16]; rfl
            unfold e_X12_acts_582
            refine T_qB (tl_X12_acts_582 n78 x6_91 o16 0 hB_o16 (by omega) (by omega)) (fun r98 hc_r98 hp99 => ?_)
            obtain ⟨o_100, q_o_100⟩ : ∃ q, q = r98 := ⟨_, rfl⟩
            subst q_o_100
            replace hp99 : BoxM o_100 ∧ (Fr [(54, 9999), (55, 9999)] o16 o_100) := hp99
            have hps_hp99 := hp99
            obtain ⟨hp99_0, hp99_1⟩ := hps_hp99
            obtain ⟨hB_o_100, fc_o_100⟩ := hp99
            have fr_o_100 : Fr [(0, 0), (0, 65), (0, 66), (1, 9999), (54, 9999), (55, 9999), (56, 9999), (57, 9999)] o o_100 := Fr.tr fr_o16 fc_o_100 rfl
            have g0_4_o_100 : o_100.1 0 4 = o16.1 0 4 := fc_o_100.1 0 4 rfl
            show T (b_X12_acts_622 o_100 x6_91) _
            unfold b_X12_acts_622
            refine T_some ?_
            show BoxM o_100 ∧ (Fr [(0, 0), (0, 65), (0, 66), (1, 9999), (54, 9999), (55, 9999), (56, 9999), (57, 9999)] o o_100)
            exact ⟨hB_o_100, fr_o_100⟩
    ·
      unfold b_X12_acts_42
      refine T_qB2 (t_X12_meets o74 5 hB_o74 (by omega)) (fun r1 o3 hc_r1 hp101 => ?_)
      replace hp101 : BoxM o3 ∧ (Fr [(0, 0), (1, 9999)] o74 o3) ∧ (r1 = -3) := hp101
      obtain ⟨hB_o3, fc_o3, hp101⟩ := hp101
      have fr_o3 : Fr [(0, 0), (0, 65), (0, 66), (1, 9999), (54, 9999), (55, 9999), (56, 9999), (57, 9999)] o o3 := Fr.tr fr_o74 fc_o3 rfl
      have g0_4_o3 : o3.1 0 4 = o74.1 0 4 := fc_o3.1 0 4 rfl
      refine T_some ?_
      show BoxM o3 ∧ (Fr [(0, 0), (0, 65), (0, 66), (1, 9999), (54, 9999), (55, 9999), (56, 9999), (57, 9999)] o o3)
      exact ⟨hB_o3, fr_o3⟩
set_option maxRecDepth 20000 in
set_option maxHeartbeats 4000000 in
theorem t_X12_asked (o : OO) (hB_o : BoxM o) : T (s_X12_asked o) (fun _ => True) := by
  unfold s_X12_asked
  refine T_some ?_
  show True
  exact trivial
set_option maxRecDepth 20000 in
set_option maxHeartbeats 4000000 in
theorem tl_X12_askedWeights_45 (o : OO) (x1 : Int) (i_x3 : Int) (i_x4 : Int) (hB_o : BoxM o) (k0 : 0 ≤ x1 ∧ x1 ≤ 5) (v0 : 0 ≤ i_x3 ∧ i_x3 ≤ 1) (v1 : 0 ≤ i_x4 ∧ i_x4 ≤ 4) (v2 : i_x3 = 0 ∨ (i_x3 = 1 ∧ W4 o x1 i_x4)) : T (loopW (fun s => l_X12_askedWeights_45 o x1 s.1 s.2) (i_x3, i_x4)) (fun r => (0 ≤ r ∧ r ≤ 1) ∧ (r = 0 ∨ (r = 1 ∧ W4 o x1 4))) := by
  refine T_loop (fun s => (0 ≤ s.1 ∧ s.1 ≤ 1) ∧ (0 ≤ s.2 ∧ s.2 ≤ 4) ∧ (s.1 = 0 ∨ (s.1 = 1 ∧ W4 o x1 s.2))) (fun s => (4 - s.2).toNat) (by exact ⟨v0, v1, v2⟩) (fun s hs => ?_)
  obtain ⟨x3, x4⟩ := s
  replace hs : (0 ≤ x3 ∧ x3 ≤ 1) ∧ (0 ≤ x4 ∧ x4 ≤ 4) ∧ (x3 = 0 ∨ (x3 = 1 ∧ W4 o x1 x4)) := hs
  obtain ⟨w0, w1, w2⟩ := hs
  show T (l_X12_askedWeights_45 o x1 x3 x4) _
  unfold l_X12_askedWeights_45
  refine T_qLt ⟨by omega, by omega⟩ ⟨by decide, by decide⟩ (fun h1 => ?_) (fun h1 => ?_)
  ·
    refine T_qEq ⟨by omega, by omega⟩ ⟨by decide, by decide⟩ (fun h2 => ?_) (fun h2 => ?_)
    ·
      unfold b_X12_askedWeights_80
      unfold b_X12_askedWeights_81
      refine T_some ?_
      show ((0 ≤ 0 ∧ 0 ≤ 1) ∧ (0 ≤ (x4 + 1) ∧ (x4 + 1) ≤ 4) ∧ (0 = 0 ∨ (0 = 1 ∧ W4 o x1 (x4 + 1)))) ∧ (4 - (x4 + 1)).toNat < (4 - x4).toNat
      exact ⟨⟨(by omega), (by omega), (by first | exact Or.inr ⟨rfl, W4_0⟩ | exact Or.inl rfl | exact Or.inl (by omega) | exact Or.inr ⟨rfl, W4_s (w2.elim (fun q => absurd q (by omega)) (fun q => q.2)) (by omega)⟩ | exact Or.inr ⟨by omega, by omega⟩ | exact Or.inl ⟨rfl, hw9.elim (fun q => absurd q (by omega)) (fun q => q.2)⟩ | exact w2.elim (fun q => Or.inl q) (fun q => Or.inr ⟨q.1, by have q2 := q.2; rwa [show x4 = 4 by omega] at q2⟩))⟩, by omega⟩
    ·
      refine T_qIn ⟨by omega, by omega⟩ ?_
      refine T_qNm (fun n8 e_n8 => ?_)
      have b_n8 : -2147483648 ≤ n8 ∧ n8 ≤ 2147483647 := by rw [e_n8]; exact bM_3 hB_o _
      refine T_qB (t_X12_in n8 0 100 (by omega) (by omega) (by omega)) (fun r9 hc_r9 hp3 => ?_)
      replace hp3 : ((r9 = 1 ∧ 0 ≤ n8 ∧ n8 ≤ 100) ∨ (r9 = 0 ∧ (n8 < 0 ∨ 100 < n8))) := hp3
      refine T_qEq ⟨by omega, by omega⟩ ⟨by decide, by decide⟩ (fun h4 => ?_) (fun h4 => ?_)
      ·
        unfold b_X12_askedWeights_80
        unfold b_X12_askedWeights_81
        refine T_some ?_
        show ((0 ≤ 0 ∧ 0 ≤ 1) ∧ (0 ≤ (x4 + 1) ∧ (x4 + 1) ≤ 4) ∧ (0 = 0 ∨ (0 = 1 ∧ W4 o x1 (x4 + 1)))) ∧ (4 - (x4 + 1)).toNat < (4 - x4).toNat
        exact ⟨⟨(by omega), (by omega), (by first | exact Or.inr ⟨rfl, W4_0⟩ | exact Or.inl rfl | exact Or.inl (by omega) | exact Or.inr ⟨rfl, W4_s (w2.elim (fun q => absurd q (by omega)) (fun q => q.2)) (by omega)⟩ | exact Or.inr ⟨by omega, by omega⟩ | exact Or.inl ⟨rfl, hw9.elim (fun q => absurd q (by omega)) (fun q => q.2)⟩ | exact w2.elim (fun q => Or.inl q) (fun q => Or.inr ⟨q.1, by have q2 := q.2; rwa [show x4 = 4 by omega] at q2⟩))⟩, by omega⟩
      ·
        unfold b_X12_askedWeights_81
        refine T_some ?_
        show ((0 ≤ 1 ∧ 1 ≤ 1) ∧ (0 ≤ (x4 + 1) ∧ (x4 + 1) ≤ 4) ∧ (1 = 0 ∨ (1 = 1 ∧ W4 o x1 (x4 + 1)))) ∧ (4 - (x4 + 1)).toNat < (4 - x4).toNat
        exact ⟨⟨(by omega), (by omega), (by first | exact Or.inr ⟨rfl, W4_0⟩ | exact Or.inl rfl | exact Or.inl (by omega) | exact Or.inr ⟨rfl, W4_s (w2.elim (fun q => absurd q (by omega)) (fun q => q.2)) (by omega)⟩ | exact Or.inr ⟨by omega, by omega⟩ | exact Or.inl ⟨rfl, hw9.elim (fun q => absurd q (by omega)) (fun q => q.2)⟩ | exact w2.elim (fun q => Or.inl q) (fun q => Or.inr ⟨q.1, by have q2 := q.2; rwa [show x4 = 4 by omega] at q2⟩))⟩, by omega⟩
  ·
    refine T_some ?_
    show (0 ≤ x3 ∧ x3 ≤ 1) ∧ (x3 = 0 ∨ (x3 = 1 ∧ W4 o x1 4))
    exact ⟨(by omega), (by first | exact Or.inr ⟨rfl, W4_0⟩ | exact Or.inl rfl | exact Or.inl (by omega) | exact Or.inr ⟨rfl, W4_s (w2.elim (fun q => absurd q (by omega)) (fun q => q.2)) (by omega)⟩ | exact Or.inr ⟨by omega, by omega⟩ | exact Or.inl ⟨rfl, hw9.elim (fun q => absurd q (by omega)) (fun q => q.2)⟩ | exact w2.elim (fun q => Or.inl q) (fun q => Or.inr ⟨q.1, by have q2 := q.2; rwa [show x4 = 4 by omega] at q2⟩))⟩
set_option maxRecDepth 20000 in
set_option maxHeartbeats 4000000 in
theorem t_X12_askedWeights (o : OO) (x1 : Int) (x2 : Int) (hB_o : BoxM o) (k0 : 0 ≤ x1 ∧ x1 ≤ 5) (k1 : 0 ≤ x2 ∧ x2 ≤ 5) : T (s_X12_askedWeights o x1 x2) (fun v => BoxM v.2 ∧ (Fr [(0, 0), (1, 9999)] o v.2) ∧ ((v.1 = 0 ∧ W4 v.2 x1 4) ∨ (v.1 < 0 ∧ inR v.1))) := by
  have fr_o : Fr [(0, 0), (1, 9999)] o o := Fr.rf
  unfold s_X12_askedWeights
  refine T_qIn ⟨by omega, by omega⟩ ?_
  refine T_qNm (fun n12 e_n12 => ?_)
  have b_n12 : -9 ≤ n12 ∧ n12 ≤ 40 := by rw [e_n12]; exact bM_2 hB_o _
  refine T_qLt ⟨by omega, by omega⟩ ⟨by decide, by decide⟩ (fun h5 => ?_) (fun h5 => ?_)
  ·
    unfold b_X12_askedWeights_18
    refine T_qB2 (t_X12_meets o 1 hB_o (by omega)) (fun r1 o3 hc_r1 hp6 => ?_)
    replace hp6 : BoxM o3 ∧ (Fr [(0, 0), (1, 9999)] o o3) ∧ (r1 = -3) := hp6
    obtain ⟨hB_o3, fc_o3, hp6⟩ := hp6
    have fr_o3 : Fr [(0, 0), (1, 9999)] o o3 := Fr.tr fr_o fc_o3 rfl
    refine T_some ?_
    show BoxM o3 ∧ (Fr [(0, 0), (1, 9999)] o o3) ∧ ((r1 = 0 ∧ W4 o3 x1 4) ∨ (r1 < 0 ∧ inR r1))
    exact ⟨hB_o3, fr_o3, (by first | exact Or.inr ⟨rfl, W4_0⟩ | exact Or.inl rfl | exact Or.inl (by omega) | exact Or.inr ⟨rfl, W4_s (w2.elim (fun q => absurd q (by omega)) (fun q => q.2)) (by omega)⟩ | exact Or.inr ⟨by omega, by omega⟩ | exact Or.inl ⟨rfl, hw9.elim (fun q => absurd q (by omega)) (fun q => q.2)⟩ | exact w2.elim (fun q => Or.inl q) (fun q => Or.inr ⟨q.1, by have q2 := q.2; rwa [show x4 = 4 by omega] at q2⟩))⟩
  ·
    refine T_qIn ⟨by omega, by omega⟩ ?_
    refine T_qNm (fun n14 e_n14 => ?_)
    have b_n14 : -9 ≤ n14 ∧ n14 ≤ 40 := by rw [e_n14]; exact bM_2 hB_o _
    refine T_qLt ⟨by omega, by omega⟩ ⟨by decide, by decide⟩ (fun h7 => ?_) (fun h7 => ?_)
    ·
      unfold b_X12_askedWeights_18
      refine T_qB2 (t_X12_meets o 1 hB_o (by omega)) (fun r1 o3 hc_r1 hp8 => ?_)
      replace hp8 : BoxM o3 ∧ (Fr [(0, 0), (1, 9999)] o o3) ∧ (r1 = -3) := hp8
      obtain ⟨hB_o3, fc_o3, hp8⟩ := hp8
      have fr_o3 : Fr [(0, 0), (1, 9999)] o o3 := Fr.tr fr_o fc_o3 rfl
      refine T_some ?_
      show BoxM o3 ∧ (Fr [(0, 0), (1, 9999)] o o3) ∧ ((r1 = 0 ∧ W4 o3 x1 4) ∨ (r1 < 0 ∧ inR r1))
      exact ⟨hB_o3, fr_o3, (by first | exact Or.inr ⟨rfl, W4_0⟩ | exact Or.inl rfl | exact Or.inl (by omega) | exact Or.inr ⟨rfl, W4_s (w2.elim (fun q => absurd q (by omega)) (fun q => q.2)) (by omega)⟩ | exact Or.inr ⟨by omega, by omega⟩ | exact Or.inl ⟨rfl, hw9.elim (fun q => absurd q (by omega)) (fun q => q.2)⟩ | exact w2.elim (fun q => Or.inl q) (fun q => Or.inr ⟨q.1, by have q2 := q.2; rwa [show x4 = 4 by omega] at q2⟩))⟩
    ·
      refine T_qIn ⟨by omega, by omega⟩ ?_
      refine T_qNm (fun n16 e_n16 => ?_)
      have b_n16 : -9 ≤ n16 ∧ n16 ≤ 40 := by rw [e_n16]; exact bM_2 hB_o _
      refine T_qEq ⟨by omega, by omega⟩ ⟨by decide, by decide⟩ (fun h9 => ?_) (fun h9 => ?_)
      ·
        unfold e_X12_askedWeights_45
        refine T_qB (tl_X12_askedWeights_45 o x1 1 0 hB_o (by omega) (by omega) (by omega) (by first | exact Or.inr ⟨rfl, W4_0⟩ | exact Or.inl rfl | exact Or.inl (by omega) | exact Or.inr ⟨rfl, W4_s (w2.elim (fun q => absurd q (by omega)) (fun q => q.2)) (by omega)⟩ | exact Or.inr ⟨by omega, by omega⟩ | exact Or.inl ⟨rfl, hw9.elim (fun q => absurd q (by omega)) (fun q => q.2)⟩ | exact w2.elim (fun q => Or.inl q) (fun q => Or.inr ⟨q.1, by have q2 := q.2; rwa [show x4 = 4 by omega] at q2⟩))) (fun r10 hc_r10 hp11 => ?_)
        obtain ⟨x3_12, q_x3_12⟩ : ∃ q, q = r10 := ⟨_, rfl⟩
        subst q_x3_12
        replace hp11 : (0 ≤ x3_12 ∧ x3_12 ≤ 1) ∧ (x3_12 = 0 ∨ (x3_12 = 1 ∧ W4 o x1 4)) := hp11
        have hps_hp11 := hp11
        obtain ⟨hp11_0, hp11_1⟩ := hps_hp11
        replace hp11 := hid hp11
        show T (b_X12_askedWeights_88 o x3_12) _
        have hw9 : x3_12 = 0 ∨ (x3_12 = 1 ∧ W4 o x1 4) := hp11.2
        unfold b_X12_askedWeights_88
        refine T_qEq ⟨by omega, by omega⟩ ⟨by decide, by decide⟩ (fun h13 => ?_) (fun h13 => ?_)
        ·
          refine T_qB2 (t_X12_meets o 3 hB_o (by omega)) (fun r4 o6 hc_r4 hp14 => ?_)
          replace hp14 : BoxM o6 ∧ (Fr [(0, 0), (1, 9999)] o o6) ∧ (r4 = -3) := hp14
          obtain ⟨hB_o6, fc_o6, hp14⟩ := hp14
          have fr_o6 : Fr [(0, 0), (1, 9999)] o o6 := Fr.tr fr_o fc_o6 rfl
          unfold b_X12_askedWeights_101
          refine T_some ?_
          show BoxM o6 ∧ (Fr [(0, 0), (1, 9999)] o o6) ∧ ((r4 = 0 ∧ W4 o6 x1 4) ∨ (r4 < 0 ∧ inR r4))
          exact ⟨hB_o6, fr_o6, (by first | exact Or.inr ⟨rfl, W4_0⟩ | exact Or.inl rfl | exact Or.inl (by omega) | exact Or.inr ⟨rfl, W4_s (w2.elim (fun q => absurd q (by omega)) (fun q => q.2)) (by omega)⟩ | exact Or.inr ⟨by omega, by omega⟩ | exact Or.inl ⟨rfl, hw9.elim (fun q => absurd q (by omega)) (fun q => q.2)⟩ | exact w2.elim (fun q => Or.inl q) (fun q => Or.inr ⟨q.1, by have q2 := q.2; rwa [show x4 = 4 by omega] at q2⟩))⟩
        ·
          unfold b_X12_askedWeights_101
          refine T_some ?_
          show BoxM o ∧ (Fr [(0, 0), (1, 9999)] o o) ∧ ((0 = 0 ∧ W4 o x1 4) ∨ (0 < 0 ∧ inR 0))
          exact ⟨hB_o, fr_o, (by first | exact Or.inr ⟨rfl, W4_0⟩ | exact Or.inl rfl | exact Or.inl (by omega) | exact Or.inr ⟨rfl, W4_s (w2.elim (fun q => absurd q (by omega)) (fun q => q.2)) (by omega)⟩ | exact Or.inr ⟨by omega, by omega⟩ | exact Or.inl ⟨rfl, hw9.elim (fun q => absurd q (by omega)) (fun q => q.2)⟩ | exact w2.elim (fun q => Or.inl q) (fun q => Or.inr ⟨q.1, by have q2 := q.2; rwa [show x4 = 4 by omega] at q2⟩))⟩
      ·
        refine T_qB2 (t_X12_meets o 5 hB_o (by omega)) (fun r17 o19 hc_r17 hp15 => ?_)
        replace hp15 : BoxM o19 ∧ (Fr [(0, 0), (1, 9999)] o o19) ∧ (r17 = -3) := hp15
        obtain ⟨hB_o19, fc_o19, hp15⟩ := hp15
        have fr_o19 : Fr [(0, 0), (1, 9999)] o o19 := Fr.tr fr_o fc_o19 rfl
        refine T_some ?_
        show BoxM o19 ∧ (Fr [(0, 0), (1, 9999)] o o19) ∧ ((r17 = 0 ∧ W4 o19 x1 4) ∨ (r17 < 0 ∧ inR r17))
        exact ⟨hB_o19, fr_o19, (by first | exact Or.inr ⟨rfl, W4_0⟩ | exact Or.inl rfl | exact Or.inl (by omega) | exact Or.inr ⟨rfl, W4_s (w2.elim (fun q => absurd q (by omega)) (fun q => q.2)) (by omega)⟩ | exact Or.inr ⟨by omega, by omega⟩ | exact Or.inl ⟨rfl, hw9.elim (fun q => absurd q (by omega)) (fun q => q.2)⟩ | exact w2.elim (fun q => Or.inl q) (fun q => Or.inr ⟨q.1, by have q2 := q.2; rwa [show x4 = 4 by omega] at q2⟩))⟩
set_option maxRecDepth 20000 in
set_option maxHeartbeats 4000000 in
theorem tl_X12_cellsOf_5 (o : OO) (x1 : Int) (i_z2 : Int64) (i_x4 : Int) (hB_o : BoxM o) (k0 : 0 ≤ x1 ∧ x1 ≤ 23) (v0 : 0 ≤ i_x4 ∧ i_x4 ≤ 64) : T (loopW (fun s => l_X12_cellsOf_5 o x1 s.1 s.2) (i_z2, i_x4)) (fun r => True) := by
  refine T_loop (fun s => (0 ≤ s.2 ∧ s.2 ≤ 64)) (fun s => (64 - s.2).toNat) (by exact v0) (fun s hs => ?_)
  obtain ⟨z2, x4⟩ := s
  replace hs : (0 ≤ x4 ∧ x4 ≤ 64) := hs
  have w0 := hs
  show T (l_X12_cellsOf_5 o x1 z2 x4) _
  unfold l_X12_cellsOf_5
  refine T_qIn ⟨by omega, by omega⟩ ?_
  refine T_qNm (fun n2 e_n2 => ?_)
  have b_n2 : 0 ≤ n2 ∧ n2 ≤ 64 := by rw [e_n2]; exact bM_30 hB_o _
  refine T_qLt ⟨by omega, by omega⟩ ⟨by omega, by omega⟩ (fun h1 => ?_) (fun h1 => ?_)
  ·
    refine T_qIn ⟨by omega, by omega⟩ ?_
    refine T_qNm (fun n4 e_n4 => ?_)
    have b_n4 : 0 ≤ n4 ∧ n4 ≤ 63 := by rw [e_n4]; exact bM_31 hB_o _
    refine T_qNm (fun m5 e_m5 => ?_)
    refine T_some ?_
    show ((0 ≤ (x4 + 1) ∧ (x4 + 1) ≤ 64)) ∧ (64 - (x4 + 1)).toNat < (64 - x4).toNat
    exact ⟨(by omega), by omega⟩
  ·
    refine T_some ?_
    show True
    exact trivial
set_option maxRecDepth 20000 in
set_option maxHeartbeats 4000000 in
theorem t_X12_cellsOf (o : OO) (x1 : Int) (hB_o : BoxM o) (k0 : 0 ≤ x1 ∧ x1 ≤ 23) : T (s_X12_cellsOf o x1) (fun _ => True) := by
  unfold s_X12_cellsOf
  refine T_qNm (fun m6 e_m6 => ?_)
  unfold e_X12_cellsOf_5
  refine T_qB (tl_X12_cellsOf_5 o x1 m6 0 hB_o (by omega) (by omega)) (fun r2 hc_r2 hp3 => ?_)
  obtain ⟨z2_4, q_z2_4⟩ : ∃ q, q = r2 := ⟨_, rfl⟩
  subst q_z2_4
  show T (b_X12_cellsOf_39 o z2_4) _
  unfold b_X12_cellsOf_39
  refine T_some ?_
  show True
  exact trivial
set_option maxRecDepth 20000 in
set_option maxHeartbeats 4000000 in
theorem t_X12_has (z0 : Int64) (x2 : Int) (k0 : 0 ≤ x2 ∧ x2 ≤ 63) : T (s_X12_has z0 x2) (fun v => ((v = 1 ∧ bt z0 x2.toNat = true) ∨ (v = 0 ∧ bt z0 x2.toNat = false))) := by
  unfold s_X12_has
  refine T_qJe (fun h1 => ?_) (fun h1 => ?_)
  ·
    unfold b_X12_has_15
    refine T_qZ (Or.inr rfl) ?_
    refine T_some ?_
    show ((1 = 1 ∧ bt z0 x2.toNat = true) ∨ (1 = 0 ∧ bt z0 x2.toNat = false))
    exact (by first | exact Or.inl ⟨rfl, (bt_shr (by omega) (by omega)).mp h1⟩ | exact Or.inr ⟨rfl, by have q2 : ¬ bt z0 x2.toNat = true := fun e => h1 ((bt_shr (by omega) (by omega)).mpr e); simpa using q2⟩)
  ·
    unfold b_X12_has_15
    refine T_qZ (Or.inl rfl) ?_
    refine T_some ?_
    show ((0 = 1 ∧ bt z0 x2.toNat = true) ∨ (0 = 0 ∧ bt z0 x2.toNat = false))
    exact (by first | exact Or.inl ⟨rfl, (bt_shr (by omega) (by omega)).mp h1⟩ | exact Or.inr ⟨rfl, by have q2 : ¬ bt z0 x2.toNat = true := fun e => h1 ((bt_shr (by omega) (by omega)).mpr e); simpa using q2⟩)
set_option maxRecDepth 20000 in
set_option maxHeartbeats 4000000 in
theorem tl_X12_parks_4 (o : OO) (x1 : Int) (i_x2 : Int) (i_x3 : Int) (hB_o : BoxM o) (k0 : 0 ≤ x1 ∧ x1 ≤ 23) (v0 : 0 ≤ i_x2 ∧ i_x2 ≤ i_x3) (v1 : 0 ≤ i_x3 ∧ i_x3 ≤ 64) : T (loopW (fun s => l_X12_parks_4 o x1 s.1 s.2) (i_x2, i_x3)) (fun r => (0 ≤ r ∧ r ≤ 64)) := by
  refine T_loop (fun s => (0 ≤ s.1 ∧ s.1 ≤ s.2) ∧ (0 ≤ s.2 ∧ s.2 ≤ 64)) (fun s => (64 - s.2).toNat) (by exact ⟨v0, v1⟩) (fun s hs => ?_)
  obtain ⟨x2, x3⟩ := s
  replace hs : (0 ≤ x2 ∧ x2 ≤ x3) ∧ (0 ≤ x3 ∧ x3 ≤ 64) := hs
  obtain ⟨w0, w1⟩ := hs
  show T (l_X12_parks_4 o x1 x2 x3) _
  unfold l_X12_parks_4
  refine T_qIn ⟨by omega, by omega⟩ ?_
  refine T_qNm (fun n3 e_n3 => ?_)
  have b_n3 : 0 ≤ n3 ∧ n3 ≤ 64 := by rw [e_n3]; exact bM_30 hB_o _
  refine T_qLt ⟨by omega, by omega⟩ ⟨by omega, by omega⟩ (fun h1 => ?_) (fun h1 => ?_)
  ·
    refine T_qIn ⟨by omega, by omega⟩ ?_
    refine T_qNm (fun n5 e_n5 => ?_)
    have b_n5 : 0 ≤ n5 ∧ n5 ≤ 63 := by rw [e_n5]; exact bM_31 hB_o _
    refine T_qIn ⟨by omega, by omega⟩ ?_
    refine T_qNm (fun n7 e_n7 => ?_)
    have b_n7 : 0 ≤ n7 ∧ n7 ≤ 4 := by rw [e_n7]; exact bM_11 hB_o _
    refine T_qEq ⟨by omega, by omega⟩ ⟨by decide, by decide⟩ (fun h2 => ?_) (fun h2 => ?_)
    ·
      unfold b_X12_parks_40
      refine T_qNm (fun n1 e_n1 => ?_)
      refine T_some ?_
      show ((0 ≤ n1 ∧ n1 ≤ (x3 + 1)) ∧ (0 ≤ (x3 + 1) ∧ (x3 + 1) ≤ 64)) ∧ (64 - (x3 + 1)).toNat < (64 - x3).toNat
      exact ⟨⟨(by omega), (by omega)⟩, by omega⟩
    ·
      unfold b_X12_parks_40
      refine T_qNm (fun n1 e_n1 => ?_)
      refine T_some ?_
      show ((0 ≤ n1 ∧ n1 ≤ (x3 + 1)) ∧ (0 ≤ (x3 + 1) ∧ (x3 + 1) ≤ 64)) ∧ (64 - (x3 + 1)).toNat < (64 - x3).toNat
      exact ⟨⟨(by omega), (by omega)⟩, by omega⟩
  ·
    refine T_some ?_
    show (0 ≤ x2 ∧ x2 ≤ 64)
    exact (by omega)
set_option maxRecDepth 20000 in
set_option maxHeartbeats 4000000 in
theorem t_X12_parks (o : OO) (x1 : Int) (hB_o : BoxM o) (k0 : 0 ≤ x1 ∧ x1 ≤ 23) : T (s_X12_parks o x1) (fun v => (0 ≤ v ∧ v ≤ 64)) := by
  unfold s_X12_parks
  unfold e_X12_parks_4
  refine T_qB (tl_X12_parks_4 o x1 0 0 hB_o (by omega) (by omega) (by omega)) (fun r3 hc_r3 hp4 => ?_)
  obtain ⟨x2_5, q_x2_5⟩ : ∃ q, q = r3 := ⟨_, rfl⟩
  subst q_x2_5
  replace hp4 : (0 ≤ x2_5 ∧ x2_5 ≤ 64) := hp4
  show T (b_X12_parks_48 o x2_5) _
  unfold b_X12_parks_48
  refine T_some ?_
  show (0 ≤ x2_5 ∧ x2_5 ≤ 64)
  exact (by omega)
set_option maxRecDepth 20000 in
set_option maxHeartbeats 4000000 in
theorem tl_X12_ruleFor_7 (o : OO) (x1 : Int) (x2 : Int) (x3 : Int) (i_x4 : Int) (i_x5 : Int) (hB_o : BoxM o) (k0 : 0 ≤ x1 ∧ x1 ≤ 7) (k1 : inR x2) (k2 : inR x3) (v0 : 0 ≤ i_x5 ∧ i_x5 ≤ o.1 0 10) (v1 : (i_x4 = -9 ∨ (0 ≤ i_x4 ∧ 0 ≤ o.1 9 (8 * i_x4 + x1).toNat)) ∧ i_x4 < o.1 0 10) : T (loopW (fun s => l_X12_ruleFor_7 o x1 x2 x3 s.1 s.2) (i_x4, i_x5)) (fun r => ((r = -9 ∨ (0 ≤ r ∧ 0 ≤ o.1 9 (8 * r + x1).toNat)) ∧ r < o.1 0 10)) := by
  refine T_loop (fun s => (0 ≤ s.2 ∧ s.2 ≤ o.1 0 10) ∧ ((s.1 = -9 ∨ (0 ≤ s.1 ∧ 0 ≤ o.1 9 (8 * s.1 + x1).toNat)) ∧ s.1 < o.1 0 10)) (fun s => (o.1 0 10 - s.2).toNat) (by exact ⟨v0, v1⟩) (fun s hs => ?_)
  obtain ⟨x4, x5⟩ := s
  replace hs : (0 ≤ x5 ∧ x5 ≤ o.1 0 10) ∧ ((x4 = -9 ∨ (0 ≤ x4 ∧ 0 ≤ o.1 9 (8 * x4 + x1).toNat)) ∧ x4 < o.1 0 10) := hs
  obtain ⟨w0, w1⟩ := hs
  have g0_10_o := bM_0_10 hB_o
  show T (l_X12_ruleFor_7 o x1 x2 x3 x4 x5) _
  unfold l_X12_ruleFor_7
  refine T_qLt ⟨by omega, by omega⟩ ⟨by omega, by omega⟩ (fun h1 => ?_) (fun h1 => ?_)
  ·
    refine T_qIn ⟨by omega, by omega⟩ ?_
    refine T_qNm (fun n6 e_n6 => ?_)
    have b_n6 : 0 ≤ n6 ∧ n6 ≤ 999 := by rw [e_n6]; exact bM_7 hB_o _
    refine T_qLt ⟨by omega, by omega⟩ ⟨by omega, by omega⟩ (fun h2 => ?_) (fun h2 => ?_)
    ·
      unfold b_X12_ruleFor_57
      unfold b_X12_ruleFor_58
      refine T_qEq ⟨by decide, by decide⟩ ⟨by decide, by decide⟩ (fun h3 => ?_) (fun h3 => ?_)
      ·
        unfold b_X12_ruleFor_92
        unfold b_X12_ruleFor_94
        refine T_some ?_
        show ((0 ≤ (x5 + 1) ∧ (x5 + 1) ≤ o.1 0 10) ∧ ((x4 = -9 ∨ (0 ≤ x4 ∧ 0 ≤ o.1 9 (8 * x4 + x1).toNat)) ∧ x4 < o.1 0 10)) ∧ (o.1 0 10 - (x5 + 1)).toNat < (o.1 0 10 - x5).toNat
        exact ⟨⟨(by omega), (by omega)⟩, by omega⟩
      ·
        refine T_qLt ⟨by omega, by omega⟩ ⟨by decide, by decide⟩ (fun h4 => ?_) (fun h4 => ?_)
        ·
          unfold b_X12_ruleFor_87
          unfold b_X12_ruleFor_94
          refine T_some ?_
          show ((0 ≤ (x5 + 1) ∧ (x5 + 1) ≤ o.1 0 10) ∧ ((x5 = -9 ∨ (0 ≤ x5 ∧ 0 ≤ o.1 9 (8 * x5 + x1).toNat)) ∧ x5 < o.1 0 10)) ∧ (o.1 0 10 - (x5 + 1)).toNat < (o.1 0 10 - x5).toNat
          exact ⟨⟨(by omega), (by omega)⟩, by omega⟩
        ·
          refine T_qIn ⟨by omega, by omega⟩ ?_
          refine T_qNm (fun n2 e_n2 => ?_)
          have b_n2 : 0 ≤ n2 ∧ n2 ≤ 999 := by rw [e_n2]; exact bM_8 hB_o _
          refine T_qIn ⟨by omega, by omega⟩ ?_
          refine T_qNm (fun n4 e_n4 => ?_)
          have b_n4 : 0 ≤ n4 ∧ n4 ≤ 999 := by rw [e_n4]; exact bM_8 hB_o _
          refine T_qLt ⟨by omega, by omega⟩ ⟨by omega, by omega⟩ (fun h5 => ?_) (fun h5 => ?_)
          ·
            unfold b_X12_ruleFor_92
            unfold b_X12_ruleFor_94
            refine T_some ?_
            show ((0 ≤ (x5 + 1) ∧ (x5 + 1) ≤ o.1 0 10) ∧ ((x4 = -9 ∨ (0 ≤ x4 ∧ 0 ≤ o.1 9 (8 * x4 + x1).toNat)) ∧ x4 < o.1 0 10)) ∧ (o.1 0 10 - (x5 + 1)).toNat < (o.1 0 10 - x5).toNat
            exact ⟨⟨(by omega), (by omega)⟩, by omega⟩
          ·
            unfold b_X12_ruleFor_87
            unfold b_X12_ruleFor_94
            refine T_some ?_
            show ((0 ≤ (x5 + 1) ∧ (x5 + 1) ≤ o.1 0 10) ∧ ((x5 = -9 ∨ (0 ≤ x5 ∧ 0 ≤ o.1 9 (8 * x5 + x1).toNat)) ∧ x5 < o.1 0 10)) ∧ (o.1 0 10 - (x5 + 1)).toNat < (o.1 0 10 - x5).toNat
            exact ⟨⟨(by omega), (by omega)⟩, by omega⟩
    ·
      refine T_qIn ⟨by omega, by omega⟩ ?_
      refine T_qNm (fun n8 e_n8 => ?_)
      have b_n8 : 0 ≤ n8 ∧ n8 ≤ 999 := by rw [e_n8]; exact bM_8 hB_o _
      refine T_qLt ⟨by omega, by omega⟩ ⟨by omega, by omega⟩ (fun h6 => ?_) (fun h6 => ?_)
      ·
        unfold b_X12_ruleFor_57
        unfold b_X12_ruleFor_58
        refine T_qEq ⟨by decide, by decide⟩ ⟨by decide, by decide⟩ (fun h7 => ?_) (fun h7 => ?_)
        ·
          unfold b_X12_ruleFor_92
          unfold b_X12_ruleFor_94
          refine T_some ?_
          show ((0 ≤ (x5 + 1) ∧ (x5 + 1) ≤ o.1 0 10) ∧ ((x4 = -9 ∨ (0 ≤ x4 ∧ 0 ≤ o.1 9 (8 * x4 + x1).toNat)) ∧ x4 < o.1 0 10)) ∧ (o.1 0 10 - (x5 + 1)).toNat < (o.1 0 10 - x5).toNat
          exact ⟨⟨(by omega), (by omega)⟩, by omega⟩
        ·
          refine T_qLt ⟨by omega, by omega⟩ ⟨by decide, by decide⟩ (fun h8 => ?_) (fun h8 => ?_)
          ·
            unfold b_X12_ruleFor_87
            unfold b_X12_ruleFor_94
            refine T_some ?_
            show ((0 ≤ (x5 + 1) ∧ (x5 + 1) ≤ o.1 0 10) ∧ ((x5 = -9 ∨ (0 ≤ x5 ∧ 0 ≤ o.1 9 (8 * x5 + x1).toNat)) ∧ x5 < o.1 0 10)) ∧ (o.1 0 10 - (x5 + 1)).toNat < (o.1 0 10 - x5).toNat
            exact ⟨⟨(by omega), (by omega)⟩, by omega⟩
          ·
            refine T_qIn ⟨by omega, by omega⟩ ?_
            refine T_qNm (fun n2 e_n2 => ?_)
            have b_n2 : 0 ≤ n2 ∧ n2 ≤ 999 := by rw [e_n2]; exact bM_8 hB_o _
            refine T_qIn ⟨by omega, by omega⟩ ?_
            refine T_qNm (fun n4 e_n4 => ?_)
            have b_n4 : 0 ≤ n4 ∧ n4 ≤ 999 := by rw [e_n4]; exact bM_8 hB_o _
            refine T_qLt ⟨by omega, by omega⟩ ⟨by omega, by omega⟩ (fun h9 => ?_) (fun h9 => ?_)
            ·
              unfold b_X12_ruleFor_92
              unfold b_X12_ruleFor_94
              refine T_some ?_
              show ((0 ≤ (x5 + 1) ∧ (x5 + 1) ≤ o.1 0 10) ∧ ((x4 = -9 ∨ (0 ≤ x4 ∧ 0 ≤ o.1 9 (8 * x4 + x1).toNat)) ∧ x4 < o.1 0 10)) ∧ (o.1 0 10 - (x5 + 1)).toNat < (o.1 0 10 - x5).toNat
              exact ⟨⟨(by omega), (by omega)⟩, by omega⟩
            ·
              unfold b_X12_ruleFor_87
              unfold b_X12_ruleFor_94
              refine T_some ?_
              show ((0 ≤ (x5 + 1) ∧ (x5 + 1) ≤ o.1 0 10) ∧ ((x5 = -9 ∨ (0 ≤ x5 ∧ 0 ≤ o.1 9 (8 * x5 + x1).toNat)) ∧ x5 < o.1 0 10)) ∧ (o.1 0 10 - (x5 + 1)).toNat < (o.1 0 10 - x5).toNat
              exact ⟨⟨(by omega), (by omega)⟩, by omega⟩
      ·
        refine T_qIn ⟨by omega, by omega⟩ ?_
        refine T_qNm (fun n10 e_n10 => ?_)
        have b_n10 : -9 ≤ n10 ∧ n10 ≤ 9999 := by rw [e_n10]; exact bM_9 hB_o _
        refine T_qLt ⟨by omega, by omega⟩ ⟨by decide, by decide⟩ (fun h10 => ?_) (fun h10 => ?_)
        ·
          unfold b_X12_ruleFor_57
          unfold b_X12_ruleFor_58
          refine T_qEq ⟨by decide, by decide⟩ ⟨by decide, by decide⟩ (fun h11 => ?_) (fun h11 => ?_)
          ·
            unfold b_X12_ruleFor_92
            unfold b_X12_ruleFor_94
            refine T_some ?_
            show ((0 ≤ (x5 + 1) ∧ (x5 + 1) ≤ o.1 0 10) ∧ ((x4 = -9 ∨ (0 ≤ x4 ∧ 0 ≤ o.1 9 (8 * x4 + x1).toNat)) ∧ x4 < o.1 0 10)) ∧ (o.1 0 10 - (x5 + 1)).toNat < (o.1 0 10 - x5).toNat
            exact ⟨⟨(by omega), (by omega)⟩, by omega⟩
          ·
            refine T_qLt ⟨by omega, by omega⟩ ⟨by decide, by decide⟩ (fun h12 => ?_) (fun h12 => ?_)
            ·
              unfold b_X12_ruleFor_87
              unfold b_X12_ruleFor_94
              refine T_some ?_
              show ((0 ≤ (x5 + 1) ∧ (x5 + 1) ≤ o.1 0 10) ∧ ((x5 = -9 ∨ (0 ≤ x5 ∧ 0 ≤ o.1 9 (8 * x5 + x1).toNat)) ∧ x5 < o.1 0 10)) ∧ (o.1 0 10 - (x5 + 1)).toNat < (o.1 0 10 - x5).toNat
              exact ⟨⟨(by omega), (by omega)⟩, by omega⟩
            ·
              refine T_qIn ⟨by omega, by omega⟩ ?_
              refine T_qNm (fun n2 e_n2 => ?_)
              have b_n2 : 0 ≤ n2 ∧ n2 ≤ 999 := by rw [e_n2]; exact bM_8 hB_o _
              refine T_qIn ⟨by omega, by omega⟩ ?_
              refine T_qNm (fun n4 e_n4 => ?_)
              have b_n4 : 0 ≤ n4 ∧ n4 ≤ 999 := by rw [e_n4]; exact bM_8 hB_o _
              refine T_qLt ⟨by omega, by omega⟩ ⟨by omega, by omega⟩ (fun h13 => ?_) (fun h13 => ?_)
              ·
                unfold b_X12_ruleFor_92
                unfold b_X12_ruleFor_94
                refine T_some ?_
                show ((0 ≤ (x5 + 1) ∧ (x5 + 1) ≤ o.1 0 10) ∧ ((x4 = -9 ∨ (0 ≤ x4 ∧ 0 ≤ o.1 9 (8 * x4 + x1).toNat)) ∧ x4 < o.1 0 10)) ∧ (o.1 0 10 - (x5 + 1)).toNat < (o.1 0 10 - x5).toNat
                exact ⟨⟨(by omega), (by omega)⟩, by omega⟩
              ·
                unfold b_X12_ruleFor_87
                unfold b_X12_ruleFor_94
                refine T_some ?_
                show ((0 ≤ (x5 + 1) ∧ (x5 + 1) ≤ o.1 0 10) ∧ ((x5 = -9 ∨ (0 ≤ x5 ∧ 0 ≤ o.1 9 (8 * x5 + x1).toNat)) ∧ x5 < o.1 0 10)) ∧ (o.1 0 10 - (x5 + 1)).toNat < (o.1 0 10 - x5).toNat
                exact ⟨⟨(by omega), (by omega)⟩, by omega⟩
        ·
          unfold b_X12_ruleFor_58
          refine T_qEq ⟨by decide, by decide⟩ ⟨by decide, by decide⟩ (fun h14 => ?_) (fun h14 => ?_)
          ·
            unfold b_X12_ruleFor_92
            unfold b_X12_ruleFor_94
            refine T_some ?_
            show ((0 ≤ (x5 + 1) ∧ (x5 + 1) ≤ o.1 0 10) ∧ ((x4 = -9 ∨ (0 ≤ x4 ∧ 0 ≤ o.1 9 (8 * x4 + x1).toNat)) ∧ x4 < o.1 0 10)) ∧ (o.1 0 10 - (x5 + 1)).toNat < (o.1 0 10 - x5).toNat
            exact ⟨⟨(by omega), (by omega)⟩, by omega⟩
          ·
            refine T_qLt ⟨by omega, by omega⟩ ⟨by decide, by decide⟩ (fun h15 => ?_) (fun h15 => ?_)
            ·
              unfold b_X12_ruleFor_87
              unfold b_X12_ruleFor_94
              refine T_some ?_
              show ((0 ≤ (x5 + 1) ∧ (x5 + 1) ≤ o.1 0 10) ∧ ((x5 = -9 ∨ (0 ≤ x5 ∧ 0 ≤ o.1 9 (8 * x5 + x1).toNat)) ∧ x5 < o.1 0 10)) ∧ (o.1 0 10 - (x5 + 1)).toNat < (o.1 0 10 - x5).toNat
              exact ⟨⟨(by omega), (by omega)⟩, by omega⟩
            ·
              refine T_qIn ⟨by omega, by omega⟩ ?_
              refine T_qNm (fun n2 e_n2 => ?_)
              have b_n2 : 0 ≤ n2 ∧ n2 ≤ 999 := by rw [e_n2]; exact bM_8 hB_o _
              refine T_qIn ⟨by omega, by omega⟩ ?_
              refine T_qNm (fun n4 e_n4 => ?_)
              have b_n4 : 0 ≤ n4 ∧ n4 ≤ 999 := by rw [e_n4]; exact bM_8 hB_o _
              refine T_qLt ⟨by omega, by omega⟩ ⟨by omega, by omega⟩ (fun h16 => ?_) (fun h16 => ?_)
              ·
                unfold b_X12_ruleFor_92
                unfold b_X12_ruleFor_94
                refine T_some ?_
                show ((0 ≤ (x5 + 1) ∧ (x5 + 1) ≤ o.1 0 10) ∧ ((x4 = -9 ∨ (0 ≤ x4 ∧ 0 ≤ o.1 9 (8 * x4 + x1).toNat)) ∧ x4 < o.1 0 10)) ∧ (o.1 0 10 - (x5 + 1)).toNat < (o.1 0 10 - x5).toNat
                exact ⟨⟨(by omega), (by omega)⟩, by omega⟩
              ·
                unfold b_X12_ruleFor_87
                unfold b_X12_ruleFor_94
                refine T_some ?_
                show ((0 ≤ (x5 + 1) ∧ (x5 + 1) ≤ o.1 0 10) ∧ ((x5 = -9 ∨ (0 ≤ x5 ∧ 0 ≤ o.1 9 (8 * x5 + x1).toNat)) ∧ x5 < o.1 0 10)) ∧ (o.1 0 10 - (x5 + 1)).toNat < (o.1 0 10 - x5).toNat
                exact ⟨⟨(by omega), (by omega)⟩, by omega⟩
  ·
    refine T_some ?_
    show ((x4 = -9 ∨ (0 ≤ x4 ∧ 0 ≤ o.1 9 (8 * x4 + x1).toNat)) ∧ x4 < o.1 0 10)
    exact (by omega)
set_option maxRecDepth 20000 in
set_option maxHeartbeats 4000000 in
theorem t_X12_ruleFor (o : OO) (x1 : Int) (x2 : Int) (x3 : Int) (hB_o : BoxM o) (k0 : 0 ≤ x1 ∧ x1 ≤ 7) (k1 : inR x2) (k2 : inR x3) : T (s_X12_ruleFor o x1 x2 x3) (fun v => ((v = -9 ∨ (0 ≤ v ∧ 0 ≤ o.1 9 (8 * v + x1).toNat)) ∧ v < o.1 0 10)) := by
  have g0_10_o := bM_0_10 hB_o
  unfold s_X12_ruleFor
  unfold e_X12_ruleFor_7
  refine T_qB (tl_X12_ruleFor_7 o x1 x2 x3 (-9) 0 hB_o (by omega) (by omega) (by omega) (by omega) (by omega)) (fun r17 hc_r17 hp18 => ?_)
  obtain ⟨x4_19, q_x4_19⟩ : ∃ q, q = r17 := ⟨_, rfl⟩
  subst q_x4_19
  replace hp18 : ((x4_19 = -9 ∨ (0 ≤ x4_19 ∧ 0 ≤ o.1 9 (8 * x4_19 + x1).toNat)) ∧ x4_19 < o.1 0 10) := hp18
  show T (b_X12_ruleFor_102 o x4_19) _
  unfold b_X12_ruleFor_102
  refine T_some ?_
  show ((x4_19 = -9 ∨ (0 ≤ x4_19 ∧ 0 ≤ o.1 9 (8 * x4_19 + x1).toNat)) ∧ x4_19 < o.1 0 10)
  exact (by omega)
