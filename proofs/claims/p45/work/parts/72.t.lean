set_option maxRecDepth 20000 in
set_option maxHeartbeats 4000000 in
theorem t_X0_exists (o : OO) (x1 : Int) (hB_o : BoxC o) (k0 : inR x1) : T (s_X0_exists o x1) (fun v => ((v = 1 ∧ (0 ≤ x1 ∧ x1 < o.1 66 0)) ∨ (v = 0 ∧ ¬ (0 ≤ x1 ∧ x1 < o.1 66 0)))) := by
  have g66_0_o := bC_66_0 hB_o
  unfold s_X0_exists
  refine T_qLt ⟨by omega, by omega⟩ ⟨by decide, by decide⟩ (fun h1 => ?_) (fun h1 => ?_)
  ·
    unfold b_X0_exists_16
    unfold b_X0_exists_17
    refine T_qZ (Or.inl rfl) ?_
    refine T_some ?_
    show ((0 = 1 ∧ (0 ≤ x1 ∧ x1 < o.1 66 0)) ∨ (0 = 0 ∧ ¬ (0 ≤ x1 ∧ x1 < o.1 66 0)))
    exact (by omega)
  ·
    refine T_qLt ⟨by omega, by omega⟩ ⟨by omega, by omega⟩ (fun h2 => ?_) (fun h2 => ?_)
    ·
      unfold b_X0_exists_17
      refine T_qZ (Or.inr rfl) ?_
      refine T_some ?_
      show ((1 = 1 ∧ (0 ≤ x1 ∧ x1 < o.1 66 0)) ∨ (1 = 0 ∧ ¬ (0 ≤ x1 ∧ x1 < o.1 66 0)))
      exact (by omega)
    ·
      unfold b_X0_exists_16
      unfold b_X0_exists_17
      refine T_qZ (Or.inl rfl) ?_
      refine T_some ?_
      show ((0 = 1 ∧ (0 ≤ x1 ∧ x1 < o.1 66 0)) ∨ (0 = 0 ∧ ¬ (0 ≤ x1 ∧ x1 < o.1 66 0)))
      exact (by omega)
set_option maxRecDepth 20000 in
set_option maxHeartbeats 4000000 in
theorem t_X0_laterBy (o : OO) (x1 : Int) (hB_o : BoxC o) (k0 : 0 ≤ x1 ∧ x1 ≤ 12) : T (s_X0_laterBy o x1) (fun _ => True) := by
  unfold s_X0_laterBy
  refine T_qIn ⟨by omega, by omega⟩ ?_
  refine T_qNm (fun n2 e_n2 => ?_)
  have b_n2 : -2147483648 ≤ n2 ∧ n2 ≤ 2147483647 := by rw [e_n2]; exact bC_68 hB_o _
  refine T_qIn ⟨by omega, by omega⟩ ?_
  refine T_qNm (fun n4 e_n4 => ?_)
  have b_n4 : 0 ≤ n4 ∧ n4 ≤ 100000 := by rw [e_n4]; exact bC_67 hB_o _
  refine T_some ?_
  show True
  exact trivial
set_option maxRecDepth 20000 in
set_option maxHeartbeats 4000000 in
theorem t_X11_tell (o : OO) (x1 : Int) (hB_o : BoxC o) : T (s_X11_tell o x1) (fun v => BoxC v.2 ∧ (Fr [(0, 14)] o v.2) ∧ (v.1 = 1)) := by
  have fr_o : Fr [(0, 14)] o o := Fr.rf
  unfold s_X11_tell
  refine T_qNm (fun o1 e_o1 => ?_)
  have hB_o1 : BoxC o1 := by rw [e_o1]; exact Box.s1 hB_o (show True from trivial)
  have fr_o1 : Fr [(0, 14)] o o1 := by rw [e_o1]; exact Fr.s1 fr_o rfl
  refine T_some ?_
  show BoxC o1 ∧ (Fr [(0, 14)] o o1) ∧ (1 = 1)
  exact ⟨hB_o1, fr_o1, (by omega)⟩
set_option maxRecDepth 20000 in
set_option maxHeartbeats 4000000 in
theorem t_X0_endOf (o : OO) (x1 : Int) (hB_o : BoxC o) (k0 : 0 ≤ x1 ∧ x1 ≤ 12) : T (s_X0_endOf o x1) (fun v => (0 ≤ v ∧ v ≤ 100000)) := by
  unfold s_X0_endOf
  refine T_qIn ⟨by omega, by omega⟩ ?_
  refine T_qNm (fun n2 e_n2 => ?_)
  have b_n2 : 0 ≤ n2 ∧ n2 ≤ 100000 := by rw [e_n2]; exact bC_67 hB_o _
  refine T_some ?_
  show (0 ≤ n2 ∧ n2 ≤ 100000)
  exact (by omega)
set_option maxRecDepth 20000 in
set_option maxHeartbeats 4000000 in
theorem t_X11_act (o : OO) (x1 : Int) (hB_o : BoxC o) (k0 : inR x1) : T (s_X11_act o x1) (fun v => BoxC v.2 ∧ (Fr [(0, 14)] o v.2)) := by
  have fr_o : Fr [(0, 14)] o o := Fr.rf
  have g66_0_o := bC_66_0 hB_o
  unfold s_X11_act
  refine T_qB (t_X0_exists o x1 hB_o (by omega)) (fun r1 hc_r1 hp1 => ?_)
  replace hp1 : ((r1 = 1 ∧ (0 ≤ x1 ∧ x1 < o.1 66 0)) ∨ (r1 = 0 ∧ ¬ (0 ≤ x1 ∧ x1 < o.1 66 0))) := hp1
  refine T_qEq ⟨by omega, by omega⟩ ⟨by decide, by decide⟩ (fun h2 => ?_) (fun h2 => ?_)
  ·
    refine T_some ?_
    show BoxC o ∧ (Fr [(0, 14)] o o)
    exact ⟨hB_o, fr_o⟩
  ·
    refine T_qB (t_X0_laterBy o x1 hB_o (by omega)) (fun r3 hc_r3 hp3 => ?_)
    refine T_qB2 (t_X11_tell o r3 hB_o) (fun r5 o7 hc_r5 hp4 => ?_)
    replace hp4 : BoxC o7 ∧ (Fr [(0, 14)] o o7) ∧ (r5 = 1) := hp4
    obtain ⟨hB_o7, fc_o7, hp4⟩ := hp4
    have fr_o7 : Fr [(0, 14)] o o7 := Fr.tr fr_o fc_o7 rfl
    have g66_0_o7 : o7.1 66 0 = o.1 66 0 := fc_o7.1 66 0 rfl
    refine T_qB (t_X0_endOf o7 x1 hB_o7 (by omega)) (fun r8 hc_r8 hp5 => ?_)
    replace hp5 : (0 ≤ r8 ∧ r8 ≤ 100000) := hp5
    refine T_some ?_
    show BoxC o7 ∧ (Fr [(0, 14)] o o7)
    exact ⟨hB_o7, fr_o7⟩
set_option maxRecDepth 20000 in
set_option maxHeartbeats 4000000 in
theorem t_X8_exists (o : OO) (x1 : Int) (hB_o : BoxC o) (k0 : inR x1) : T (s_X8_exists o x1) (fun v => ((v = 1 ∧ (0 ≤ x1 ∧ x1 < 6)) ∨ (v = 0 ∧ ¬ (0 ≤ x1 ∧ x1 < 6)))) := by
  have g1_0_o := bC_1_0 hB_o
  unfold s_X8_exists
  refine T_qLt ⟨by omega, by omega⟩ ⟨by decide, by decide⟩ (fun h1 => ?_) (fun h1 => ?_)
  ·
    unfold b_X8_exists_16
    unfold b_X8_exists_17
    refine T_qZ (Or.inl rfl) ?_
    refine T_some ?_
    show ((0 = 1 ∧ (0 ≤ x1 ∧ x1 < 6)) ∨ (0 = 0 ∧ ¬ (0 ≤ x1 ∧ x1 < 6)))
    exact (by omega)
  ·
    refine T_qLt ⟨by omega, by omega⟩ ⟨by omega, by omega⟩ (fun h2 => ?_) (fun h2 => ?_)
    ·
      unfold b_X8_exists_17
      refine T_qZ (Or.inr rfl) ?_
      refine T_some ?_
      show ((1 = 1 ∧ (0 ≤ x1 ∧ x1 < 6)) ∨ (1 = 0 ∧ ¬ (0 ≤ x1 ∧ x1 < 6)))
      exact (by omega)
    ·
      unfold b_X8_exists_16
      unfold b_X8_exists_17
      refine T_qZ (Or.inl rfl) ?_
      refine T_some ?_
      show ((0 = 1 ∧ (0 ≤ x1 ∧ x1 < 6)) ∨ (0 = 0 ∧ ¬ (0 ≤ x1 ∧ x1 < 6)))
      exact (by omega)
set_option maxRecDepth 20000 in
set_option maxHeartbeats 4000000 in
theorem t_X8_isThere (o : OO) (x1 : Int) (hB_o : BoxC o) (k0 : 0 ≤ x1 ∧ x1 ≤ 5) : T (s_X8_isThere o x1) (fun v => ((v = 1 ∧ (¬ o.1 2 x1.toNat = -1)) ∨ (v = 0 ∧ ¬ (¬ o.1 2 x1.toNat = -1)))) := by
  unfold s_X8_isThere
  refine T_qIn ⟨by omega, by omega⟩ ?_
  refine T_qNm (fun n2 e_n2 => ?_)
  have b_n2 : -1 ≤ n2 ∧ n2 ≤ 40 := by rw [e_n2]; exact bC_2 hB_o _
  refine T_qEq ⟨by omega, by omega⟩ ⟨by decide, by decide⟩ (fun h1 => ?_) (fun h1 => ?_)
  ·
    unfold b_X8_isThere_15
    refine T_qZ (Or.inl rfl) ?_
    refine T_some ?_
    show ((0 = 1 ∧ (¬ o.1 2 x1.toNat = -1)) ∨ (0 = 0 ∧ ¬ (¬ o.1 2 x1.toNat = -1)))
    exact (by omega)
  ·
    unfold b_X8_isThere_15
    refine T_qZ (Or.inr rfl) ?_
    refine T_some ?_
    show ((1 = 1 ∧ (¬ o.1 2 x1.toNat = -1)) ∨ (1 = 0 ∧ ¬ (¬ o.1 2 x1.toNat = -1)))
    exact (by omega)
set_option maxRecDepth 20000 in
set_option maxHeartbeats 4000000 in
theorem t_X11_found (o : OO) (x1 : Int) (hB_o : BoxC o) (k0 : 1 ≤ x1 ∧ x1 ≤ 5) : T (s_X11_found o x1) (fun v => BoxC v.2 ∧ (Fr [(0, 17), (77, 9999)] o v.2) ∧ (v.1 = -3)) := by
  have fr_o : Fr [(0, 17), (77, 9999)] o o := Fr.rf
  unfold s_X11_found
  refine T_qNm (fun o1 e_o1 => ?_)
  have hB_o1 : BoxC o1 := by rw [e_o1]; exact Box.s1 hB_o (show 0 ≤ x1 ∧ x1 ≤ 5 from ⟨by omega, by omega⟩)
  have fr_o1 : Fr [(0, 17), (77, 9999)] o o1 := by rw [e_o1]; exact Fr.s1 fr_o rfl
  refine T_qIn ⟨by omega, by omega⟩ ?_
  refine T_qNm (fun n3 e_n3 => ?_)
  refine T_qIn ⟨by omega, by omega⟩ ?_
  refine T_qNm (fun o5 e_o5 => ?_)
  have hB_o5 : BoxC o5 := by rw [e_o5]; exact Box.s1 hB_o1 (show True from trivial)
  have fr_o5 : Fr [(0, 17), (77, 9999)] o o5 := by rw [e_o5]; exact Fr.s1 fr_o1 rfl
  refine T_some ?_
  show BoxC o5 ∧ (Fr [(0, 17), (77, 9999)] o o5) ∧ ((-3) = -3)
  exact ⟨hB_o5, fr_o5, (by omega)⟩
set_option maxRecDepth 20000 in
set_option maxHeartbeats 4000000 in
theorem t_X8_sizeOf (o : OO) (x1 : Int) (hB_o : BoxC o) (k0 : 0 ≤ x1 ∧ x1 ≤ 5) : T (s_X8_sizeOf o x1) (fun v => (v = o.1 2 x1.toNat) ∧ (-1 ≤ v ∧ v ≤ 40)) := by
  unfold s_X8_sizeOf
  refine T_qIn ⟨by omega, by omega⟩ ?_
  refine T_qNm (fun n2 e_n2 => ?_)
  have b_n2 : -1 ≤ n2 ∧ n2 ≤ 40 := by rw [e_n2]; exact bC_2 hB_o _
  refine T_some ?_
  show (n2 = o.1 2 x1.toNat) ∧ (-1 ≤ n2 ∧ n2 ≤ 40)
  exact ⟨(by omega), (by omega)⟩
set_option maxRecDepth 20000 in
set_option maxHeartbeats 4000000 in
theorem t_X8_at (o : OO) (x1 : Int) (x2 : Int) (hB_o : BoxC o) (k0 : 0 ≤ x1 * 40 + x2 ∧ x1 * 40 + x2 < 240) : T (s_X8_at o x1 x2) (fun v => (v = o.1 3 (x1 * 40 + x2).toNat) ∧ (inR v)) := by
  unfold s_X8_at
  refine T_qIn ⟨by omega, by omega⟩ ?_
  refine T_qNm (fun n2 e_n2 => ?_)
  have b_n2 : -2147483648 ≤ n2 ∧ n2 ≤ 2147483647 := by rw [e_n2]; exact bC_3 hB_o _
  refine T_some ?_
  show (n2 = o.1 3 (x1 * 40 + x2).toNat) ∧ (inR n2)
  exact ⟨(by omega), (by omega)⟩
set_option maxRecDepth 20000 in
set_option maxHeartbeats 4000000 in
theorem t_X0_isAhead (x0 : Int) (x1 : Int) (k0 : inR x0) (k1 : 0 ≤ x1 ∧ x1 ≤ 13) : T (s_X0_isAhead x0 x1) (fun v => ((v = 1 ∧ (x0 = -9 ∨ (0 ≤ x0 ∧ x0 < x1))) ∨ (v = 0 ∧ ¬ (x0 = -9 ∨ (0 ≤ x0 ∧ x0 < x1))))) := by
  unfold s_X0_isAhead
  refine T_qEq ⟨by omega, by omega⟩ ⟨by decide, by decide⟩ (fun h1 => ?_) (fun h1 => ?_)
  ·
    unfold b_X0_isAhead_15
    unfold b_X0_isAhead_20
    refine T_qZ (Or.inr rfl) ?_
    refine T_some ?_
    show ((1 = 1 ∧ (x0 = -9 ∨ (0 ≤ x0 ∧ x0 < x1))) ∨ (1 = 0 ∧ ¬ (x0 = -9 ∨ (0 ≤ x0 ∧ x0 < x1))))
    exact (by omega)
  ·
    refine T_qLt ⟨by omega, by omega⟩ ⟨by decide, by decide⟩ (fun h2 => ?_) (fun h2 => ?_)
    ·
      unfold b_X0_isAhead_19
      unfold b_X0_isAhead_20
      refine T_qZ (Or.inl rfl) ?_
      refine T_some ?_
      show ((0 = 1 ∧ (x0 = -9 ∨ (0 ≤ x0 ∧ x0 < x1))) ∨ (0 = 0 ∧ ¬ (x0 = -9 ∨ (0 ≤ x0 ∧ x0 < x1))))
      exact (by omega)
    ·
      refine T_qLt ⟨by omega, by omega⟩ ⟨by omega, by omega⟩ (fun h3 => ?_) (fun h3 => ?_)
      ·
        unfold b_X0_isAhead_15
        unfold b_X0_isAhead_20
        refine T_qZ (Or.inr rfl) ?_
        refine T_some ?_
        show ((1 = 1 ∧ (x0 = -9 ∨ (0 ≤ x0 ∧ x0 < x1))) ∨ (1 = 0 ∧ ¬ (x0 = -9 ∨ (0 ≤ x0 ∧ x0 < x1))))
        exact (by omega)
      ·
        unfold b_X0_isAhead_19
        unfold b_X0_isAhead_20
        refine T_qZ (Or.inl rfl) ?_
        refine T_some ?_
        show ((0 = 1 ∧ (x0 = -9 ∨ (0 ≤ x0 ∧ x0 < x1))) ∨ (0 = 0 ∧ ¬ (x0 = -9 ∨ (0 ≤ x0 ∧ x0 < x1))))
        exact (by omega)
set_option maxRecDepth 20000 in
set_option maxHeartbeats 4000000 in
theorem tl_J7_fill_53178_5 (x1 : Int) (x3 : Int) (i_o : OO) (i_x2 : Int) (hB_i_o : BoxC i_o) (k0 : x1 = -9 ∨ (0 ≤ x1 ∧ x1 ≤ 100000)) (k1 : x3 = 13) (v0 : 0 ≤ i_x2 ∧ i_x2 ≤ 13) (v1 : FP i_o 69 i_x2 x1) : T (loopW (fun s => l_J7_fill_53178_5 x1 x3 s.1 s.2) (i_o, i_x2)) (fun r => BoxC r ∧ (Fr [(69, 9999)] i_o r) ∧ (FP r 69 13 x1)) := by
  have fr_i_o : Fr [(69, 9999)] i_o i_o := Fr.rf
  refine T_loop (fun s => BoxC s.1 ∧ (Fr [(69, 9999)] i_o s.1) ∧ (0 ≤ s.2 ∧ s.2 ≤ 13) ∧ (FP s.1 69 s.2 x1)) (fun s => (13 - s.2).toNat) (by exact ⟨hB_i_o, fr_i_o, v0, v1⟩) (fun s hs => ?_)
  obtain ⟨o, x2⟩ := s
  replace hs : BoxC o ∧ (Fr [(69, 9999)] i_o o) ∧ (0 ≤ x2 ∧ x2 ≤ 13) ∧ (FP o 69 x2 x1) := hs
  obtain ⟨hB_o, fr_o, w0, w1⟩ := hs
  show T (l_J7_fill_53178_5 x1 x3 o x2) _
  unfold l_J7_fill_53178_5
  refine T_qLt ⟨by omega, by omega⟩ ⟨by omega, by omega⟩ (fun h1 => ?_) (fun h1 => ?_)
  ·
    refine T_qIn ⟨by omega, by omega⟩ ?_
    refine T_qNm (fun o2 e_o2 => ?_)
    have hB_o2 : BoxC o2 := by rw [e_o2]; exact Box.s1 hB_o (show x1 = -9 ∨ (0 ≤ x1 ∧ x1 ≤ 100000) from (by omega))
    have fr_o2 : Fr [(69, 9999)] i_o o2 := by rw [e_o2]; exact Fr.s1 fr_o rfl
    refine T_some ?_
    show (BoxC o2 ∧ (Fr [(69, 9999)] i_o o2) ∧ (0 ≤ (x2 + 1) ∧ (x2 + 1) ≤ 13) ∧ (FP o2 69 (x2 + 1) x1)) ∧ (13 - (x2 + 1)).toNat < (13 - x2).toNat
    exact ⟨⟨hB_o2, fr_o2, (by omega), (by first | assumption | (have q2 := w1; rwa [show x2 = 13 by omega] at q2) | exact FP_0 | (rw [e_o2]; exact FP_s w1 (by omega)))⟩, by omega⟩
  ·
    refine T_some ?_
    show BoxC o ∧ (Fr [(69, 9999)] i_o o) ∧ (FP o 69 13 x1)
    exact ⟨hB_o, fr_o, (by first | assumption | (have q2 := w1; rwa [show x2 = 13 by omega] at q2) | exact FP_0 | (rw [e_o]; exact FP_s w1 (by omega)))⟩
set_option maxRecDepth 20000 in
set_option maxHeartbeats 4000000 in
theorem t_J7_fill_53178 (o : OO) (x1 : Int) (hB_o : BoxC o) (k0 : x1 = -9 ∨ (0 ≤ x1 ∧ x1 ≤ 100000)) : T (s_J7_fill_53178 o x1) (fun v => BoxC v ∧ (Fr [(69, 9999)] o v) ∧ (FP v 69 13 x1)) := by
  have fr_o : Fr [(69, 9999)] o o := Fr.rf
  unfold s_J7_fill_53178
  unfold e_J7_fill_53178_5
  refine T_qB (tl_J7_fill_53178_5 x1 13 o 0 hB_o (by omega) (by omega) (by omega) (by first | assumption | (have q2 := w1; rwa [show x2 = 13 by omega] at q2) | exact FP_0 | (rw [e_o]; exact FP_s w1 (by omega)))) (fun r2 hc_r2 hp3 => ?_)
  obtain ⟨o_4, q_o_4⟩ : ∃ q, q = r2 := ⟨_, rfl⟩
  subst q_o_4
  replace hp3 : BoxC o_4 ∧ (Fr [(69, 9999)] o o_4) ∧ (FP o_4 69 13 x1) := hp3
  have hps_hp3 := hp3
  obtain ⟨hp3_0, hp3_1, hp3_2⟩ := hps_hp3
  obtain ⟨hB_o_4, fc_o_4, hp3⟩ := hp3
  replace hp3 := hid hp3
  have fr_o_4 : Fr [(69, 9999)] o o_4 := Fr.tr fr_o fc_o_4 rfl
  show T (b_J7_fill_53178_20 o_4) _
  unfold b_J7_fill_53178_20
  refine T_some ?_
  show BoxC o_4 ∧ (Fr [(69, 9999)] o o_4) ∧ (FP o_4 69 13 x1)
  exact ⟨hB_o_4, fr_o_4, (by first | assumption | (have q2 := w1; rwa [show x2 = 13 by omega] at q2) | exact FP_0 | (rw [e_o_4]; exact FP_s w1 (by omega)))⟩
set_option maxRecDepth 20000 in
set_option maxHeartbeats 4000000 in
theorem t_X0_isOpen (o : OO) (x1 : Int) (hB_o : BoxC o) (k0 : x1 = -9 ∨ (0 ≤ x1 ∧ x1 ≤ 12)) : T (s_X0_isOpen o x1) (fun v => (v = 1 ∨ (v = 0 ∧ (x1 = -9 ∨ ¬ o.1 69 x1.toNat = -9)))) := by
  unfold s_X0_isOpen
  refine T_qEq ⟨by omega, by omega⟩ ⟨by decide, by decide⟩ (fun h1 => ?_) (fun h1 => ?_)
  ·
    unfold b_X0_isOpen_21
    unfold b_X0_isOpen_22
    refine T_qZ (Or.inl rfl) ?_
    refine T_some ?_
    show (0 = 1 ∨ (0 = 0 ∧ (x1 = -9 ∨ ¬ o.1 69 x1.toNat = -9)))
    exact (by omega)
  ·
    refine T_qIn ⟨by omega, by omega⟩ ?_
    refine T_qNm (fun n2 e_n2 => ?_)
    have b_n2 : n2 = -9 ∨ (0 ≤ n2 ∧ n2 ≤ 100000) := by rw [e_n2]; exact bC_69 hB_o _
    refine T_qEq ⟨by omega, by omega⟩ ⟨by decide, by decide⟩ (fun h2 => ?_) (fun h2 => ?_)
    ·
      unfold b_X0_isOpen_22
      refine T_qZ (Or.inr rfl) ?_
      refine T_some ?_
      show (1 = 1 ∨ (1 = 0 ∧ (x1 = -9 ∨ ¬ o.1 69 x1.toNat = -9)))
      exact (by omega)
    ·
      unfold b_X0_isOpen_21
      unfold b_X0_isOpen_22
      refine T_qZ (Or.inl rfl) ?_
      refine T_some ?_
      show (0 = 1 ∨ (0 = 0 ∧ (x1 = -9 ∨ ¬ o.1 69 x1.toNat = -9)))
      exact (by omega)
set_option maxRecDepth 20000 in
set_option maxHeartbeats 4000000 in
theorem t_X0_endAhead (o : OO) (x1 : Int) (hB_o : BoxC o) (k0 : x1 = -9 ∨ (0 ≤ x1 ∧ x1 ≤ 12)) : T (s_X0_endAhead o x1) (fun v => (v = -9 ∨ (0 ≤ v ∧ v ≤ 100000)) ∧ ((x1 = -9 ∧ v = 0) ∨ (0 ≤ x1 ∧ v = o.1 69 x1.toNat))) := by
  unfold s_X0_endAhead
  refine T_qEq ⟨by omega, by omega⟩ ⟨by decide, by decide⟩ (fun h1 => ?_) (fun h1 => ?_)
  ·
    unfold b_X0_endAhead_16
    refine T_some ?_
    show (0 = -9 ∨ (0 ≤ 0 ∧ 0 ≤ 100000)) ∧ ((x1 = -9 ∧ 0 = 0) ∨ (0 ≤ x1 ∧ 0 = o.1 69 x1.toNat))
    exact ⟨(by omega), (by omega)⟩
  ·
    refine T_qIn ⟨by omega, by omega⟩ ?_
    refine T_qNm (fun n2 e_n2 => ?_)
    have b_n2 : n2 = -9 ∨ (0 ≤ n2 ∧ n2 ≤ 100000) := by rw [e_n2]; exact bC_69 hB_o _
    unfold b_X0_endAhead_16
    refine T_some ?_
    show (n2 = -9 ∨ (0 ≤ n2 ∧ n2 ≤ 100000)) ∧ ((x1 = -9 ∧ n2 = 0) ∨ (0 ≤ x1 ∧ n2 = o.1 69 x1.toNat))
    exact ⟨(by omega), (by omega)⟩
set_option maxRecDepth 20000 in
set_option maxHeartbeats 4000000 in
theorem tl_X0_drawEnds_30 (x2 : Int) (x3 : Int) (x4 : Int) (x6 : Int) (i_o : OO) (i_x5 : Int) (i_x7 : Int) (hB_i_o : BoxC i_o) (k0 : 0 ≤ x2 ∧ x2 ≤ 5) (k1 : 1 ≤ x3 ∧ x3 ≤ 13) (k2 : 0 ≤ x4 ∧ x4 ≤ 999) (k3 : AV i_o x2 x3 x3) (k4 : 0 ≤ x6 ∧ x6 ≤ x3) (k5 : x6 < x3) (v0 : 0 ≤ i_x7 ∧ i_x7 ≤ x3) (v1 : i_x5 = CD i_o x3) (v2 : DB i_o (999 + 200 * i_x5)) (v3 : OD i_o i_x5 x3) (v4 : 0 ≤ i_x5) : T (loopW (fun s => l_X0_drawEnds_30 x2 x3 x4 x6 s.1 s.2.1 s.2.2) (i_o, i_x5, i_x7)) (fun r => BoxC r.1 ∧ (Fr [(69, 9999), (70, 9999)] i_o r.1) ∧ (r.2 = CD r.1 x3) ∧ (DB r.1 (999 + 200 * r.2)) ∧ (OD r.1 r.2 x3) ∧ (0 ≤ r.2)) := by
  have fr_i_o : Fr [(69, 9999), (70, 9999)] i_o i_o := Fr.rf
  refine T_loop (fun s => BoxC s.1 ∧ (Fr [(69, 9999), (70, 9999)] i_o s.1) ∧ (0 ≤ s.2.2 ∧ s.2.2 ≤ x3) ∧ (s.2.1 = CD s.1 x3) ∧ (DB s.1 (999 + 200 * s.2.1)) ∧ (OD s.1 s.2.1 x3) ∧ (0 ≤ s.2.1)) (fun s => (x3 - s.2.2).toNat) (by exact ⟨hB_i_o, fr_i_o, v0, v1, v2, v3, v4⟩) (fun s hs => ?_)
  obtain ⟨o, x5, x7⟩ := s
  replace hs : BoxC o ∧ (Fr [(69, 9999), (70, 9999)] i_o o) ∧ (0 ≤ x7 ∧ x7 ≤ x3) ∧ (x5 = CD o x3) ∧ (DB o (999 + 200 * x5)) ∧ (OD o x5 x3) ∧ (0 ≤ x5) := hs
  obtain ⟨hB_o, fr_o, w0, w1, w2, w3, w4⟩ := hs
  have avo : AV o x2 x3 x3 := AV.cg (show AV i_o x2 x3 x3 by assumption) (fun j => fr_o.1 3 j rfl)
  show T (l_X0_drawEnds_30 x2 x3 x4 x6 o x5 x7) _
  unfold l_X0_drawEnds_30
  refine T_qLt ⟨by omega, by omega⟩ ⟨by omega, by omega⟩ (fun h1 => ?_) (fun h1 => ?_)
  ·
    refine T_qB (t_X8_at o x2 ((3 * x7) + 1) hB_o (by omega)) (fun r1 hc_r1 hp2 => ?_)
    replace hp2 : (r1 = o.1 3 (x2 * 40 + ((3 * x7) + 1)).toNat) ∧ (inR r1) := hp2
    have hps_hp2 := hp2
    obtain ⟨hp2_0, hp2_1⟩ := hps_hp2
    replace hp2 := hid hp2
    obtain ⟨av1, av2, av3⟩ := avo x7 (by omega) (by omega)
    refine T_qB (t_X8_at o x2 ((3 * x7) + 2) hB_o (by omega)) (fun r3 hc_r3 hp3 => ?_)
    replace hp3 : (r3 = o.1 3 (x2 * 40 + ((3 * x7) + 2)).toNat) ∧ (inR r3) := hp3
    have hps_hp3 := hp3
    obtain ⟨hp3_0, hp3_1⟩ := hps_hp3
    replace hp3 := hid hp3
    refine T_qIn ⟨by omega, by omega⟩ ?_
    refine T_qNm (fun n6 e_n6 => ?_)
    have b_n6 : n6 = -9 ∨ (0 ≤ n6 ∧ n6 ≤ 100000) := by rw [e_n6]; exact bC_69 hB_o _
    refine T_qEq ⟨by omega, by omega⟩ ⟨by decide, by decide⟩ (fun h4 => ?_) (fun h4 => ?_)
    ·
      refine T_qB (t_X0_isOpen o r1 hB_o (by omega)) (fun r7 hc_r7 hp5 => ?_)
      replace hp5 : (r7 = 1 ∨ (r7 = 0 ∧ (r1 = -9 ∨ ¬ o.1 69 r1.toNat = -9))) := hp5
      refine T_qEq ⟨by omega, by omega⟩ ⟨by decide, by decide⟩ (fun h6 => ?_) (fun h6 => ?_)
      ·
        refine T_qB (t_X0_isOpen o r3 hB_o (by omega)) (fun r9 hc_r9 hp7 => ?_)
        replace hp7 : (r9 = 1 ∨ (r9 = 0 ∧ (r3 = -9 ∨ ¬ o.1 69 r3.toNat = -9))) := hp7
        refine T_qEq ⟨by omega, by omega⟩ ⟨by decide, by decide⟩ (fun h8 => ?_) (fun h8 => ?_)
        ·
          refine T_qB (t_X0_endAhead o r1 hB_o (by omega)) (fun r11 hc_r11 hp9 => ?_)
          replace hp9 : (r11 = -9 ∨ (0 ≤ r11 ∧ r11 ≤ 100000)) ∧ ((r1 = -9 ∧ r11 = 0) ∨ (0 ≤ r1 ∧ r11 = o.1 69 r1.toNat)) := hp9
          have hps_hp9 := hp9
          obtain ⟨hp9_0, hp9_1⟩ := hps_hp9
          replace hp9 := hid hp9
          have dbi := w2 r1.toNat (by omega)
          refine T_qB (t_X0_endAhead o r3 hB_o (by omega)) (fun r13 hc_r13 hp10 => ?_)
          replace hp10 : (r13 = -9 ∨ (0 ≤ r13 ∧ r13 ≤ 100000)) ∧ ((r3 = -9 ∧ r13 = 0) ∨ (0 ≤ r3 ∧ r13 = o.1 69 r3.toNat)) := hp10
          have hps_hp10 := hp10
          obtain ⟨hp10_0, hp10_1⟩ := hps_hp10
          replace hp10 := hid hp10
          have dbj := w2 r3.toNat (by omega)
          have cl := CD_lt (o := o) (n := x3) (i := x7) (by omega) (by omega) (by omega)
          refine T_qR ⟨by omega, by omega⟩ ?_
          refine T_qR ⟨by omega, by omega⟩ ?_
          refine T_qR ⟨by omega, by omega⟩ ?_
          refine T_qR ⟨by omega, by omega⟩ ?_
          refine T_qNm (fun n19 e_n19 => ?_)
          refine T_qB (t_X8_at o x2 (3 * x7) hB_o (by omega)) (fun r20 hc_r20 hp11 => ?_)
          replace hp11 : (r20 = o.1 3 (x2 * 40 + (3 * x7)).toNat) ∧ (inR r20) := hp11
          have hps_hp11 := hp11
          obtain ⟨hp11_0, hp11_1⟩ := hps_hp11
          replace hp11 := hid hp11
          refine T_qIn ⟨by omega, by omega⟩ ?_
          refine T_qNm (fun o23 e_o23 => ?_)
          have hB_o23 : BoxC o23 := by rw [e_o23]; exact Box.s1 hB_o (show (n19 + r20) = -9 ∨ (0 ≤ (n19 + r20) ∧ (n19 + r20) ≤ 100000) from (by omega))
          have fr_o23 : Fr [(69, 9999), (70, 9999)] i_o o23 := by rw [e_o23]; exact Fr.s1 fr_o rfl
          refine T_qIn ⟨by omega, by omega⟩ ?_
          refine T_qNm (fun o25 e_o25 => ?_)
          have hB_o25 : BoxC o25 := by rw [e_o25]; exact Box.s1 hB_o23 (show 0 ≤ x7 ∧ x7 ≤ 12 from ⟨by omega, by omega⟩)
          have fr_o25 : Fr [(69, 9999), (70, 9999)] i_o o25 := by rw [e_o25]; exact Fr.s1 fr_o23 rfl
          have cd1 : CD o25 x3 = CD o x3 + 1 := by rw [e_o25, e_o23]; exact (CD_cg (fun _ => rfl)).trans (CD_upd (by omega) (by omega) (by omega) (by omega))
          have db1 : DB o25 (999 + 200 * (x5 + 1)) := by rw [e_o25, e_o23]; exact DB_upd (b := 999 + 200 * x5) w2 (by omega) (by omega)
          have od1 : OD o25 (x5 + 1) x3 := by rw [e_o25]; exact OD_s (OD.cg w3 (fun _ => by rw [e_o23]; rfl)) (by omega) ⟨by omega, by omega⟩
          unfold b_X0_drawEnds_148
          refine T_some ?_
          show (BoxC o25 ∧ (Fr [(69, 9999), (70, 9999)] i_o o25) ∧ (0 ≤ (x7 + 1) ∧ (x7 + 1) ≤ x3) ∧ ((x5 + 1) = CD o25 x3) ∧ (DB o25 (999 + 200 * (x5 + 1))) ∧ (OD o25 (x5 + 1) x3) ∧ (0 ≤ (x5 + 1))) ∧ (x3 - (x7 + 1)).toNat < (x3 - x7).toNat
          exact ⟨⟨hB_o25, fr_o25, (by omega), (by omega), (by assumption), (by assumption), (by omega)⟩, by omega⟩
        ·
          unfold b_X0_drawEnds_148
          refine T_some ?_
          show (BoxC o ∧ (Fr [(69, 9999), (70, 9999)] i_o o) ∧ (0 ≤ (x7 + 1) ∧ (x7 + 1) ≤ x3) ∧ (x5 = CD o x3) ∧ (DB o (999 + 200 * x5)) ∧ (OD o x5 x3) ∧ (0 ≤ x5)) ∧ (x3 - (x7 + 1)).toNat < (x3 - x7).toNat
          exact ⟨⟨hB_o, fr_o, (by omega), (by omega), (by assumption), (by assumption), (by omega)⟩, by omega⟩
      ·
        unfold b_X0_drawEnds_148
        refine T_some ?_
        show (BoxC o ∧ (Fr [(69, 9999), (70, 9999)] i_o o) ∧ (0 ≤ (x7 + 1) ∧ (x7 + 1) ≤ x3) ∧ (x5 = CD o x3) ∧ (DB o (999 + 200 * x5)) ∧ (OD o x5 x3) ∧ (0 ≤ x5)) ∧ (x3 - (x7 + 1)).toNat < (x3 - x7).toNat
        exact ⟨⟨hB_o, fr_o, (by omega), (by omega), (by assumption), (by assumption), (by omega)⟩, by omega⟩
    ·
      unfold b_X0_drawEnds_148
      refine T_some ?_
      show (BoxC o ∧ (Fr [(69, 9999), (70, 9999)] i_o o) ∧ (0 ≤ (x7 + 1) ∧ (x7 + 1) ≤ x3) ∧ (x5 = CD o x3) ∧ (DB o (999 + 200 * x5)) ∧ (OD o x5 x3) ∧ (0 ≤ x5)) ∧ (x3 - (x7 + 1)).toNat < (x3 - x7).toNat
      exact ⟨⟨hB_o, fr_o, (by omega), (by omega), (by assumption), (by assumption), (by omega)⟩, by omega⟩
  ·
    refine T_some ?_
    show BoxC o ∧ (Fr [(69, 9999), (70, 9999)] i_o o) ∧ (x5 = CD o x3) ∧ (DB o (999 + 200 * x5)) ∧ (OD o x5 x3) ∧ (0 ≤ x5)
    exact ⟨hB_o, fr_o, (by omega), (by assumption), (by assumption), (by omega)⟩
set_option maxRecDepth 20000 in
set_option maxHeartbeats 4000000 in
theorem tl_X0_drawEnds_15 (x2 : Int) (x3 : Int) (x4 : Int) (i_o : OO) (i_x5 : Int) (i_x6 : Int) (hB_i_o : BoxC i_o) (k0 : 0 ≤ x2 ∧ x2 ≤ 5) (k1 : 1 ≤ x3 ∧ x3 ≤ 13) (k2 : 0 ≤ x4 ∧ x4 ≤ 999) (k3 : AV i_o x2 x3 x3) (v0 : 0 ≤ i_x6 ∧ i_x6 ≤ x3) (v1 : i_x5 = CD i_o x3) (v2 : DB i_o (999 + 200 * i_x5)) (v3 : OD i_o i_x5 x3) (v4 : 0 ≤ i_x5) : T (loopW (fun s => l_X0_drawEnds_15 x2 x3 x4 s.1 s.2.1 s.2.2) (i_o, i_x5, i_x6)) (fun r => BoxC r.1 ∧ (Fr [(69, 9999), (70, 9999)] i_o r.1) ∧ (r.2 = CD r.1 x3) ∧ (OD r.1 r.2 x3) ∧ (0 ≤ r.2)) := by
  have fr_i_o : Fr [(69, 9999), (70, 9999)] i_o i_o := Fr.rf
  refine T_loop (fun s => BoxC s.1 ∧ (Fr [(69, 9999), (70, 9999)] i_o s.1) ∧ (0 ≤ s.2.2 ∧ s.2.2 ≤ x3) ∧ (s.2.1 = CD s.1 x3) ∧ (DB s.1 (999 + 200 * s.2.1)) ∧ (OD s.1 s.2.1 x3) ∧ (0 ≤ s.2.1)) (fun s => (x3 - s.2.2).toNat) (by exact ⟨hB_i_o, fr_i_o, v0, v1, v2, v3, v4⟩) (fun s hs => ?_)
  obtain ⟨o, x5, x6⟩ := s
  replace hs : BoxC o ∧ (Fr [(69, 9999), (70, 9999)] i_o o) ∧ (0 ≤ x6 ∧ x6 ≤ x3) ∧ (x5 = CD o x3) ∧ (DB o (999 + 200 * x5)) ∧ (OD o x5 x3) ∧ (0 ≤ x5) := hs
  obtain ⟨hB_o, fr_o, w0, w1, w2, w3, w4⟩ := hs
  have avo : AV o x2 x3 x3 := AV.cg (show AV i_o x2 x3 x3 by assumption) (fun j => fr_o.1 3 j rfl)
  have cle := CD_le (o := o) (n := x3) (by omega)
  show T (l_X0_drawEnds_15 x2 x3 x4 o x5 x6) _
  unfold l_X0_drawEnds_15
  refine T_qLt ⟨by omega, by omega⟩ ⟨by omega, by omega⟩ (fun h12 => ?_) (fun h12 => ?_)
  ·
    refine T_qLt ⟨by omega, by omega⟩ ⟨by omega, by omega⟩ (fun h13 => ?_) (fun h13 => ?_)
    ·
      unfold e_X0_drawEnds_30
      refine T_qB (tl_X0_drawEnds_30 x2 x3 x4 x6 o x5 0 hB_o (by omega) (by omega) (by omega) (by assumption) (by omega) (by omega) (by omega) (by omega) (by assumption) (by assumption) (by omega)) (fun r14 hc_r14 hp15 => ?_)
      obtain ⟨o_16, x5_17⟩ := r14
      replace hp15 : BoxC o_16 ∧ (Fr [(69, 9999), (70, 9999)] o o_16) ∧ (x5_17 = CD o_16 x3) ∧ (DB o_16 (999 + 200 * x5_17)) ∧ (OD o_16 x5_17 x3) ∧ (0 ≤ x5_17) := hp15
      have hps_hp15 := hp15
      obtain ⟨hp15_0, hp15_1, hp15_2, hp15_3, hp15_4, hp15_5⟩ := hps_hp15
      obtain ⟨hB_o_16, fc_o_16, hp15⟩ := hp15
      replace hp15 := hid hp15
      have fr_o_16 : Fr [(69, 9999), (70, 9999)] i_o o_16 := Fr.tr fr_o fc_o_16 rfl
      show T (b_X0_drawEnds_154 o_16 x2 x3 x4 x5_17 x6) _
      unfold b_X0_drawEnds_154
      refine T_some ?_
      show (BoxC o_16 ∧ (Fr [(69, 9999), (70, 9999)] i_o o_16) ∧ (0 ≤ (x6 + 1) ∧ (x6 + 1) ≤ x3) ∧ (x5_17 = CD o_16 x3) ∧ (DB o_16 (999 + 200 * x5_17)) ∧ (OD o_16 x5_17 x3) ∧ (0 ≤ x5_17)) ∧ (x3 - (x6 + 1)).toNat < (x3 - x6).toNat
      exact ⟨⟨hB_o_16, fr_o_16, (by omega), (by omega), (by assumption), (by assumption), (by omega)⟩, by omega⟩
    ·
      refine T_some ?_
      show BoxC o ∧ (Fr [(69, 9999), (70, 9999)] i_o o) ∧ (x5 = CD o x3) ∧ (OD o x5 x3) ∧ (0 ≤ x5)
      exact ⟨hB_o, fr_o, (by omega), (by assumption), (by omega)⟩
  ·
    refine T_some ?_
    show BoxC o ∧ (Fr [(69, 9999), (70, 9999)] i_o o) ∧ (x5 = CD o x3) ∧ (OD o x5 x3) ∧ (0 ≤ x5)
    exact ⟨hB_o, fr_o, (by omega), (by assumption), (by omega)⟩
set_option maxRecDepth 20000 in
set_option maxHeartbeats 4000000 in
theorem t_X0_drawEnds (o : OO) (x2 : Int) (x3 : Int) (x4 : Int) (hB_o : BoxC o) (k0 : 0 ≤ x2 ∧ x2 ≤ 5) (k1 : 1 ≤ x3 ∧ x3 ≤ 13) (k2 : 0 ≤ x4 ∧ x4 ≤ 999) (k3 : AV o x2 x3 x3) : T (s_X0_drawEnds o x2 x3 x4) (fun v => BoxC v.2 ∧ (Fr [(69, 9999), (70, 9999)] o v.2) ∧ ((v.1 = 1 ∧ DS v.2 x3 ∧ OD v.2 x3 x3) ∨ v.1 = 0)) := by
  have fr_o : Fr [(69, 9999), (70, 9999)] o o := Fr.rf
  unfold s_X0_drawEnds
  refine T_qB (t_J7_fill_53178 o (-9) hB_o (by omega)) (fun o28 hc_o28 hp18 => ?_)
  replace hp18 : BoxC o28 ∧ (Fr [(69, 9999)] o o28) ∧ (FP o28 69 13 (-9)) := hp18
  obtain ⟨hB_o28, fc_o28, hp18⟩ := hp18
  have fr_o28 : Fr [(69, 9999), (70, 9999)] o o28 := Fr.tr fr_o fc_o28 rfl
  have cd0 : CD o28 x3 = 0 := CD_none (fun j hj => hp18 j (by omega)) (by omega)
  have db0 : DB o28 (999 + 200 * 0) := fun j hj => by rw [hp18 j (by omega)]; decide
  have od0 : OD o28 0 x3 := OD_0
  have av0 : AV o28 x2 x3 x3 := AV.cg k3 (fun j => fc_o28.1 3 j rfl)
  unfold e_X0_drawEnds_15
  refine T_qB (tl_X0_drawEnds_15 x2 x3 x4 o28 0 0 hB_o28 (by omega) (by omega) (by omega) (by assumption) (by omega) (by omega) (by assumption) (by assumption) (by omega)) (fun r19 hc_r19 hp20 => ?_)
  obtain ⟨o_21, x5_22⟩ := r19
  replace hp20 : BoxC o_21 ∧ (Fr [(69, 9999), (70, 9999)] o28 o_21) ∧ (x5_22 = CD o_21 x3) ∧ (OD o_21 x5_22 x3) ∧ (0 ≤ x5_22) := hp20
  have hps_hp20 := hp20
  obtain ⟨hp20_0, hp20_1, hp20_2, hp20_3, hp20_4⟩ := hps_hp20
  obtain ⟨hB_o_21, fc_o_21, hp20⟩ := hp20
  replace hp20 := hid hp20
  have fr_o_21 : Fr [(69, 9999), (70, 9999)] o o_21 := Fr.tr fr_o28 fc_o_21 rfl
  show T (b_X0_drawEnds_160 o_21 x3 x5_22) _
  have cle9 := @CD_le o_21 x3 (by omega)
  have od8 : x5_22 = x3 → OD o_21 x3 x3 := fun e => by have q2 := hp20_3; rwa [e] at q2
  unfold b_X0_drawEnds_160
  refine T_qEq ⟨by omega, by omega⟩ ⟨by omega, by omega⟩ (fun h23 => ?_) (fun h23 => ?_)
  ·
    unfold b_X0_drawEnds_171
    refine T_qZ (Or.inr rfl) ?_
    refine T_some ?_
    show BoxC o_21 ∧ (Fr [(69, 9999), (70, 9999)] o o_21) ∧ ((1 = 1 ∧ DS o_21 x3 ∧ OD o_21 x3 x3) ∨ 1 = 0)
    exact ⟨hB_o_21, fr_o_21, (Or.inl ⟨rfl, DS_full hB_o_21 (by omega), od8 (by omega)⟩)⟩
  ·
    unfold b_X0_drawEnds_171
    refine T_qZ (Or.inl rfl) ?_
    refine T_some ?_
    show BoxC o_21 ∧ (Fr [(69, 9999), (70, 9999)] o o_21) ∧ ((0 = 1 ∧ DS o_21 x3 ∧ OD o_21 x3 x3) ∨ 0 = 0)
    exact ⟨hB_o_21, fr_o_21, (Or.inr rfl)⟩
set_option maxRecDepth 20000 in
set_option maxHeartbeats 4000000 in
theorem tl_X0_keep_54 (x1 : Int) (i_o : OO) (i_x2 : Int) (hB_i_o : BoxC i_o) (k0 : 1 ≤ x1 ∧ x1 ≤ 13) (v0 : 0 ≤ i_x2 ∧ i_x2 ≤ x1) (v1 : LT i_o i_x2 0) : T (loopW (fun s => l_X0_keep_54 x1 s.1 s.2) (i_o, i_x2)) (fun r => BoxC r ∧ (Fr [(68, 9999)] i_o r) ∧ (LT r x1 0)) := by
  have fr_i_o : Fr [(68, 9999)] i_o i_o := Fr.rf
  refine T_loop (fun s => BoxC s.1 ∧ (Fr [(68, 9999)] i_o s.1) ∧ (0 ≤ s.2 ∧ s.2 ≤ x1) ∧ (LT s.1 s.2 0)) (fun s => (x1 - s.2).toNat) (by exact ⟨hB_i_o, fr_i_o, v0, v1⟩) (fun s hs => ?_)
  obtain ⟨o, x2⟩ := s
  replace hs : BoxC o ∧ (Fr [(68, 9999)] i_o o) ∧ (0 ≤ x2 ∧ x2 ≤ x1) ∧ (LT o x2 0) := hs
  obtain ⟨hB_o, fr_o, w0, w1⟩ := hs
  have g66_1_i := bC_66_1 hB_i_o
  have g66_1_o : o.1 66 1 = i_o.1 66 1 := fr_o.1 66 1 rfl
  have g66_0_i := bC_66_0 hB_i_o
  have g66_0_o : o.1 66 0 = i_o.1 66 0 := fr_o.1 66 0 rfl
  show T (l_X0_keep_54 x1 o x2) _
  unfold l_X0_keep_54
  refine T_qLt ⟨by omega, by omega⟩ ⟨by omega, by omega⟩ (fun h1 => ?_) (fun h1 => ?_)
  ·
    refine T_qIn ⟨by omega, by omega⟩ ?_
    refine T_qNm (fun o2 e_o2 => ?_)
    have hB_o2 : BoxC o2 := by rw [e_o2]; exact Box.s1 hB_o (show -2147483648 ≤ (o.1 66 1) ∧ (o.1 66 1) ≤ 2147483647 from ⟨by omega, by omega⟩)
    have fr_o2 : Fr [(68, 9999)] i_o o2 := by rw [e_o2]; exact Fr.s1 fr_o rfl
    have g66_1_o2 : o2.1 66 1 = o.1 66 1 := by rw [e_o2]; rfl
    have g66_0_o2 : o2.1 66 0 = o.1 66 0 := by rw [e_o2]; rfl
    have lt1 : LT o2 (x2 + 1) 0 := by rw [e_o2]; exact LT_s w1 (by omega) ⟨by omega, by omega⟩
    refine T_some ?_
    show (BoxC o2 ∧ (Fr [(68, 9999)] i_o o2) ∧ (0 ≤ (x2 + 1) ∧ (x2 + 1) ≤ x1) ∧ (LT o2 (x2 + 1) 0)) ∧ (x1 - (x2 + 1)).toNat < (x1 - x2).toNat
    exact ⟨⟨hB_o2, fr_o2, (by omega), (by first | assumption | (intro i q0 q1; exact absurd q1 (by omega)) | (have q2 := w1; rwa [show x2 = x1 by omega] at q2))⟩, by omega⟩
  ·
    refine T_some ?_
    show BoxC o ∧ (Fr [(68, 9999)] i_o o) ∧ (LT o x1 0)
    exact ⟨hB_o, fr_o, (by first | assumption | (intro i q0 q1; exact absurd q1 (by omega)) | (have q2 := w1; rwa [show x2 = x1 by omega] at q2))⟩
set_option maxRecDepth 20000 in
set_option maxHeartbeats 4000000 in
theorem tl_X0_keep_12 (x1 : Int) (i_o : OO) (i_x2 : Int) (hB_i_o : BoxC i_o) (k0 : 1 ≤ x1 ∧ x1 ≤ 13) (k1 : DS i_o x1) (v0 : 0 ≤ i_x2 ∧ i_x2 ≤ x1) : T (loopW (fun s => l_X0_keep_12 x1 s.1 s.2) (i_o, i_x2)) (fun r => BoxC r ∧ (Fr [(66, 1), (67, 9999)] i_o r)) := by
  have fr_i_o : Fr [(66, 1), (67, 9999)] i_o i_o := Fr.rf
  refine T_loop (fun s => BoxC s.1 ∧ (Fr [(66, 1), (67, 9999)] i_o s.1) ∧ (0 ≤ s.2 ∧ s.2 ≤ x1)) (fun s => (x1 - s.2).toNat) (by exact ⟨hB_i_o, fr_i_o, v0⟩) (fun s hs => ?_)
  obtain ⟨o, x2⟩ := s
  replace hs : BoxC o ∧ (Fr [(66, 1), (67, 9999)] i_o o) ∧ (0 ≤ x2 ∧ x2 ≤ x1) := hs
  obtain ⟨hB_o, fr_o, w0⟩ := hs
  have g66_1_i := bC_66_1 hB_i_o
  have g66_1_o := bC_66_1 hB_o
  have g66_0_i := bC_66_0 hB_i_o
  have g66_0_o : o.1 66 0 = i_o.1 66 0 := fr_o.1 66 0 rfl
  show T (l_X0_keep_12 x1 o x2) _
  unfold l_X0_keep_12
  refine T_qLt ⟨by omega, by omega⟩ ⟨by omega, by omega⟩ (fun h2 => ?_) (fun h2 => ?_)
  ·
    refine T_qIn ⟨by omega, by omega⟩ ?_
    refine T_qNm (fun n4 e_n4 => ?_)
    have b_n4 : n4 = -9 ∨ (0 ≤ n4 ∧ n4 ≤ 100000) := by rw [e_n4]; exact bC_69 hB_o _
    have d4 : 0 ≤ n4 := by rw [e_n4, fr_o.1 69 _ rfl]; exact (show DS i_o x1 by assumption) x2 (by omega) (by omega)
    refine T_qIn ⟨by omega, by omega⟩ ?_
    refine T_qNm (fun o6 e_o6 => ?_)
    have hB_o6 : BoxC o6 := by rw [e_o6]; exact Box.s1 hB_o (show 0 ≤ n4 ∧ n4 ≤ 100000 from ⟨by omega, by omega⟩)
    have fr_o6 : Fr [(66, 1), (67, 9999)] i_o o6 := by rw [e_o6]; exact Fr.s1 fr_o rfl
    have g66_1_o6 : o6.1 66 1 = o.1 66 1 := by rw [e_o6]; rfl
    have g66_0_o6 : o6.1 66 0 = o.1 66 0 := by rw [e_o6]; rfl
    refine T_qIn ⟨by omega, by omega⟩ ?_
    refine T_qNm (fun n8 e_n8 => ?_)
    have b_n8 : n8 = -9 ∨ (0 ≤ n8 ∧ n8 ≤ 100000) := by rw [e_n8]; exact bC_69 hB_o6 _
    have d8 : n8 = n4 := by rw [e_n8, e_o6, e_n4]; rfl
    refine T_qR ⟨by omega, by omega⟩ ?_
    refine T_qR ⟨by omega, by omega⟩ ?_
    refine T_qNm (fun o11 e_o11 => ?_)
    have hB_o11 : BoxC o11 := by rw [e_o11]; exact Box.s1 hB_o6 (show 0 ≤ (max (o6.1 66 1) n8) ∧ (max (o6.1 66 1) n8) ≤ 100000 from ⟨by omega, by omega⟩)
    have fr_o11 : Fr [(66, 1), (67, 9999)] i_o o11 := by rw [e_o11]; exact Fr.s1 fr_o6 rfl
    have g66_1_o11 : o11.1 66 1 = (max (o6.1 66 1) n8) := by rw [e_o11]; rfl
    have g66_0_o11 : o11.1 66 0 = o6.1 66 0 := by rw [e_o11]; rfl
    refine T_some ?_
    show (BoxC o11 ∧ (Fr [(66, 1), (67, 9999)] i_o o11) ∧ (0 ≤ (x2 + 1) ∧ (x2 + 1) ≤ x1)) ∧ (x1 - (x2 + 1)).toNat < (x1 - x2).toNat
    exact ⟨⟨hB_o11, fr_o11, (by omega)⟩, by omega⟩
  ·
    refine T_some ?_
    show BoxC o ∧ (Fr [(66, 1), (67, 9999)] i_o o)
    exact ⟨hB_o, fr_o⟩
set_option maxRecDepth 20000 in
set_option maxHeartbeats 4000000 in
theorem t_X0_keep (o : OO) (x1 : Int) (hB_o : BoxC o) (k0 : 1 ≤ x1 ∧ x1 ≤ 13) (k1 : DS o x1) : T (s_X0_keep o x1) (fun v => BoxC v ∧ (Fr [(66, 0), (66, 1), (67, 9999), (68, 9999)] o v) ∧ (v.1 66 0 = x1) ∧ (LT v x1 0)) := by
  have fr_o : Fr [(66, 0), (66, 1), (67, 9999), (68, 9999)] o o := Fr.rf
  have g66_1_o := bC_66_1 hB_o
  have g66_0_o := bC_66_0 hB_o
  unfold s_X0_keep
  refine T_qNm (fun o12 e_o12 => ?_)
  have hB_o12 : BoxC o12 := by rw [e_o12]; exact Box.s1 hB_o (show 0 ≤ x1 ∧ x1 ≤ 13 from ⟨by omega, by omega⟩)
  have fr_o12 : Fr [(66, 0), (66, 1), (67, 9999), (68, 9999)] o o12 := by rw [e_o12]; exact Fr.s1 fr_o rfl
  have g66_1_o12 : o12.1 66 1 = o.1 66 1 := by rw [e_o12]; rfl
  have g66_0_o12 : o12.1 66 0 = x1 := by rw [e_o12]; rfl
  refine T_qNm (fun o13 e_o13 => ?_)
  have hB_o13 : BoxC o13 := by rw [e_o13]; exact Box.s1 hB_o12 (show 0 ≤ 0 ∧ 0 ≤ 100000 from ⟨by omega, by omega⟩)
  have fr_o13 : Fr [(66, 0), (66, 1), (67, 9999), (68, 9999)] o o13 := by rw [e_o13]; exact Fr.s1 fr_o12 rfl
  have g66_1_o13 : o13.1 66 1 = 0 := by rw [e_o13]; rfl
  have g66_0_o13 : o13.1 66 0 = o12.1 66 0 := by rw [e_o13]; rfl
  have ds1 : DS o13 x1 := by rw [e_o13, e_o12]; exact k1
  unfold e_X0_keep_12
  refine T_qB (tl_X0_keep_12 x1 o13 0 hB_o13 (by omega) (by first | assumption | exact DS.cg (show DS o13 x1 by assumption) (fun j => by first | exact fc_o_3.1 69 j rfl | exact fc_o_1.1 69 j rfl)) (by omega)) (fun r3 hc_r3 hp4 => ?_)
  obtain ⟨o_5, q_o_5⟩ : ∃ q, q = r3 := ⟨_, rfl⟩
  subst q_o_5
  replace hp4 : BoxC o_5 ∧ (Fr [(66, 1), (67, 9999)] o13 o_5) := hp4
  have hps_hp4 := hp4
  obtain ⟨hp4_0, hp4_1⟩ := hps_hp4
  obtain ⟨hB_o_5, fc_o_5⟩ := hp4
  have fr_o_5 : Fr [(66, 0), (66, 1), (67, 9999), (68, 9999)] o o_5 := Fr.tr fr_o13 fc_o_5 rfl
  have g66_1_o_5 := bC_66_1 hB_o_5
  have g66_0_o_5 : o_5.1 66 0 = o13.1 66 0 := fc_o_5.1 66 0 rfl
  show T (b_X0_keep_52 o_5 x1) _
  unfold b_X0_keep_52
  unfold e_X0_keep_54
  refine T_qB (tl_X0_keep_54 x1 o_5 0 hB_o_5 (by omega) (by omega) (by first | assumption | (intro i q0 q1; exact absurd q1 (by omega)) | (have q2 := w1; rwa [show x2 = x1 by omega] at q2))) (fun r6 hc_r6 hp7 => ?_)
  obtain ⟨o_8, q_o_8⟩ : ∃ q, q = r6 := ⟨_, rfl⟩
  subst q_o_8
  replace hp7 : BoxC o_8 ∧ (Fr [(68, 9999)] o_5 o_8) ∧ (LT o_8 x1 0) := hp7
  have hps_hp7 := hp7
  obtain ⟨hp7_0, hp7_1, hp7_2⟩ := hps_hp7
  obtain ⟨hB_o_8, fc_o_8, hp7⟩ := hp7
  replace hp7 := hid hp7
  have fr_o_8 : Fr [(66, 0), (66, 1), (67, 9999), (68, 9999)] o o_8 := Fr.tr fr_o_5 fc_o_8 rfl
  have g66_1_o_8 : o_8.1 66 1 = o_5.1 66 1 := fc_o_8.1 66 1 rfl
  have g66_0_o_8 : o_8.1 66 0 = o_5.1 66 0 := fc_o_8.1 66 0 rfl
  show T (b_X0_keep_75 o_8) _
  unfold b_X0_keep_75
  refine T_some ?_
  show BoxC o_8 ∧ (Fr [(66, 0), (66, 1), (67, 9999), (68, 9999)] o o_8) ∧ (o_8.1 66 0 = x1) ∧ (LT o_8 x1 0)
  exact ⟨hB_o_8, fr_o_8, (by omega), (by first | assumption | (intro i q0 q1; exact absurd q1 (by omega)) | (have q2 := w1; rwa [show x2 = x1 by omega] at q2))⟩
set_option maxRecDepth 20000 in
set_option maxHeartbeats 4000000 in
theorem t_X0_holdBack (o : OO) (x1 : Int) (x2 : Int) (hB_o : BoxC o) (k0 : x1 = -9 ∨ (0 ≤ x1 ∧ x1 ≤ 12)) (k1 : inR x2) : T (s_X0_holdBack o x1 x2) (fun v => BoxC v ∧ (Fr [(68, 9999)] o v) ∧ (∀ n b : Int, (x1 = -9 ∨ x1 < n) → LT o n b → (-b ≤ x2 ∧ x2 ≤ 100000) → LT v n b)) := by
  have fr_o : Fr [(68, 9999)] o o := Fr.rf
  unfold s_X0_holdBack
  refine T_qEq ⟨by omega, by omega⟩ ⟨by decide, by decide⟩ (fun h1 => ?_) (fun h1 => ?_)
  ·
    unfold b_X0_holdBack_22
    refine T_some ?_
    show BoxC o ∧ (Fr [(68, 9999)] o o) ∧ (∀ n b : Int, (x1 = -9 ∨ x1 < n) → LT o n b → (-b ≤ x2 ∧ x2 ≤ 100000) → LT o n b)
    exact ⟨hB_o, fr_o, (by intro n b q1 q2 q3; first | exact q2 | (rw [e_o6]; exact LT_upd q2 (by have q4 := q2 x1 (by omega) (by omega); omega)))⟩
  ·
    refine T_qIn ⟨by omega, by omega⟩ ?_
    refine T_qNm (fun n2 e_n2 => ?_)
    have b_n2 : -2147483648 ≤ n2 ∧ n2 ≤ 2147483647 := by rw [e_n2]; exact bC_68 hB_o _
    refine T_qR ⟨by omega, by omega⟩ ?_
    refine T_qR ⟨by omega, by omega⟩ ?_
    refine T_qIn ⟨by omega, by omega⟩ ?_
    refine T_qNm (fun o6 e_o6 => ?_)
    have hB_o6 : BoxC o6 := by rw [e_o6]; exact Box.s1 hB_o (show -2147483648 ≤ (min n2 x2) ∧ (min n2 x2) ≤ 2147483647 from ⟨by omega, by omega⟩)
    have fr_o6 : Fr [(68, 9999)] o o6 := by rw [e_o6]; exact Fr.s1 fr_o rfl
    unfold b_X0_holdBack_22
    refine T_some ?_
    show BoxC o6 ∧ (Fr [(68, 9999)] o o6) ∧ (∀ n b : Int, (x1 = -9 ∨ x1 < n) → LT o n b → (-b ≤ x2 ∧ x2 ≤ 100000) → LT o6 n b)
    exact ⟨hB_o6, fr_o6, (by intro n b q1 q2 q3; first | exact q2 | (rw [e_o6]; exact LT_upd q2 (by have q4 := q2 x1 (by omega) (by omega); omega)))⟩
set_option maxRecDepth 20000 in
set_option maxHeartbeats 4000000 in
theorem tl_X0_drawLatest_7 (x2 : Int) (i_o : OO) (i_x3 : Int) (hB_i_o : BoxC i_o) (k0 : 0 ≤ x2 ∧ x2 ≤ 5) (k1 : AV i_o x2 (i_o.1 66 0) (i_o.1 66 0)) (k2 : OD i_o (i_o.1 66 0) (i_o.1 66 0)) (k3 : LT i_o (i_o.1 66 0) 0) (k4 : 1 ≤ i_o.1 66 0) (v0 : -1 ≤ i_x3 ∧ i_x3 < i_o.1 66 0) (v1 : LT i_o (i_o.1 66 0) (200 * (i_o.1 66 0 - 1 - i_x3))) : T (loopW (fun s => l_X0_drawLatest_7 x2 s.1 s.2) (i_o, i_x3)) (fun r => BoxC r ∧ (Fr [(68, 9999)] i_o r)) := by
  have fr_i_o : Fr [(68, 9999)] i_o i_o := Fr.rf
  refine T_loop (fun s => BoxC s.1 ∧ (Fr [(68, 9999)] i_o s.1) ∧ (-1 ≤ s.2 ∧ s.2 < s.1.1 66 0) ∧ (LT s.1 (s.1.1 66 0) (200 * (s.1.1 66 0 - 1 - s.2)))) (fun s => (s.2 + 1).toNat) (by exact ⟨hB_i_o, fr_i_o, v0, v1⟩) (fun s hs => ?_)
  obtain ⟨o, x3⟩ := s
  replace hs : BoxC o ∧ (Fr [(68, 9999)] i_o o) ∧ (-1 ≤ x3 ∧ x3 < o.1 66 0) ∧ (LT o (o.1 66 0) (200 * (o.1 66 0 - 1 - x3))) := hs
  obtain ⟨hB_o, fr_o, w0, w1⟩ := hs
  have g66_0_i := bC_66_0 hB_i_o
  have g66_0_o : o.1 66 0 = i_o.1 66 0 := fr_o.1 66 0 rfl
  have avo : AV o x2 (i_o.1 66 0) (i_o.1 66 0) := AV.cg (show AV i_o x2 (i_o.1 66 0) (i_o.1 66 0) by assumption) (fun j => fr_o.1 3 j rfl)
  have odo : OD o (i_o.1 66 0) (i_o.1 66 0) := OD.cg (show OD i_o (i_o.1 66 0) (i_o.1 66 0) by assumption) (fun j => fr_o.1 70 j rfl)
  have w1b : LT o (i_o.1 66 0) (200 * (i_o.1 66 0 - 1 - x3)) := by have q2 := w1; rwa [g66_0_o] at q2
  show T (l_X0_drawLatest_7 x2 o x3) _
  unfold l_X0_drawLatest_7
  refine T_qLt ⟨by omega, by omega⟩ ⟨by decide, by decide⟩ (fun h1 => ?_) (fun h1 => ?_)
  ·
    refine T_some ?_
    show BoxC o ∧ (Fr [(68, 9999)] i_o o)
    exact ⟨hB_o, fr_o⟩
  ·
    refine T_qIn ⟨by omega, by omega⟩ ?_
    refine T_qNm (fun n2 e_n2 => ?_)
    have b_n2 : 0 ≤ n2 ∧ n2 ≤ 12 := by rw [e_n2]; exact bC_70 hB_o _
    have od2 := odo x3 (by omega) (by omega)
    rw [← e_n2] at od2
    obtain ⟨av1, av2, av3⟩ := avo n2 (by omega) (by omega)
    refine T_qIn ⟨by omega, by omega⟩ ?_
    refine T_qNm (fun n4 e_n4 => ?_)
    have b_n4 : -2147483648 ≤ n4 ∧ n4 ≤ 2147483647 := by rw [e_n4]; exact bC_68 hB_o _
    have lt4 := w1b n2 (by omega) (by omega)
    rw [← e_n4] at lt4
    refine T_qB (t_X8_at o x2 (3 * n2) hB_o (by omega)) (fun r5 hc_r5 hp2 => ?_)
    replace hp2 : (r5 = o.1 3 (x2 * 40 + (3 * n2)).toNat) ∧ (inR r5) := hp2
    have hps_hp2 := hp2
    obtain ⟨hp2_0, hp2_1⟩ := hps_hp2
    replace hp2 := hid hp2
    refine T_qNm (fun n7 e_n7 => ?_)
    refine T_qB (t_X8_at o x2 ((3 * n2) + 1) hB_o (by omega)) (fun r8 hc_r8 hp3 => ?_)
    replace hp3 : (r8 = o.1 3 (x2 * 40 + ((3 * n2) + 1)).toNat) ∧ (inR r8) := hp3
    have hps_hp3 := hp3
    obtain ⟨hp3_0, hp3_1⟩ := hps_hp3
    replace hp3 := hid hp3
    refine T_qB (t_X0_holdBack o r8 n7 hB_o (by omega) (by omega)) (fun o12 hc_o12 hp4 => ?_)
    replace hp4 : BoxC o12 ∧ (Fr [(68, 9999)] o o12) ∧ (∀ n b : Int, (r8 = -9 ∨ r8 < n) → LT o n b → (-b ≤ n7 ∧ n7 ≤ 100000) → LT o12 n b) := hp4
    obtain ⟨hB_o12, fc_o12, hp4⟩ := hp4
    have fr_o12 : Fr [(68, 9999)] i_o o12 := Fr.tr fr_o fc_o12 rfl
    have g66_0_o12 : o12.1 66 0 = o.1 66 0 := fc_o12.1 66 0 rfl
    have lt12 : LT o12 (i_o.1 66 0) (200 * (i_o.1 66 0 - 1 - x3) + 200) := hp4 _ _ (by omega) (w1b.up (by omega)) ⟨by omega, by omega⟩
    refine T_qB (t_X8_at o12 x2 ((3 * n2) + 2) hB_o12 (by omega)) (fun r13 hc_r13 hp5 => ?_)
    replace hp5 : (r13 = o12.1 3 (x2 * 40 + ((3 * n2) + 2)).toNat) ∧ (inR r13) := hp5
    have hps_hp5 := hp5
    obtain ⟨hp5_0, hp5_1⟩ := hps_hp5
    replace hp5 := hid hp5
    rw [fc_o12.1 3 _ rfl] at hp5_0
    refine T_qB (t_X0_holdBack o12 r13 n7 hB_o12 (by omega) (by omega)) (fun o17 hc_o17 hp6 => ?_)
    replace hp6 : BoxC o17 ∧ (Fr [(68, 9999)] o12 o17) ∧ (∀ n b : Int, (r13 = -9 ∨ r13 < n) → LT o12 n b → (-b ≤ n7 ∧ n7 ≤ 100000) → LT o17 n b) := hp6
    obtain ⟨hB_o17, fc_o17, hp6⟩ := hp6
    have fr_o17 : Fr [(68, 9999)] i_o o17 := Fr.tr fr_o12 fc_o17 rfl
    have g66_0_o17 : o17.1 66 0 = o12.1 66 0 := fc_o17.1 66 0 rfl
    have lt17 : LT o17 (i_o.1 66 0) (200 * (i_o.1 66 0 - 1 - x3) + 200) := hp6 _ _ (by omega) lt12 ⟨by omega, by omega⟩
    refine T_some ?_
    show (BoxC o17 ∧ (Fr [(68, 9999)] i_o o17) ∧ (-1 ≤ (x3 + (-1)) ∧ (x3 + (-1)) < o17.1 66 0) ∧ (LT o17 (o17.1 66 0) (200 * (o17.1 66 0 - 1 - (x3 + (-1)))))) ∧ ((x3 + (-1)) + 1).toNat < (x3 + 1).toNat
    exact ⟨⟨hB_o17, fr_o17, (by omega), (by first | assumption | exact LT.up (by assumption) (by omega) | (rw [show o17.1 66 0 = i_o.1 66 0 by omega]; exact LT.up lt17 (by omega)))⟩, by omega⟩
set_option maxRecDepth 20000 in
set_option maxHeartbeats 4000000 in
theorem t_X0_drawLatest (o : OO) (x2 : Int) (hB_o : BoxC o) (k0 : 0 ≤ x2 ∧ x2 ≤ 5) (k1 : AV o x2 (o.1 66 0) (o.1 66 0)) (k2 : OD o (o.1 66 0) (o.1 66 0)) (k3 : LT o (o.1 66 0) 0) (k4 : 1 ≤ o.1 66 0) : T (s_X0_drawLatest o x2) (fun v => BoxC v ∧ (Fr [(68, 9999)] o v)) := by
  have fr_o : Fr [(68, 9999)] o o := Fr.rf
  have g66_0_o := bC_66_0 hB_o
  unfold s_X0_drawLatest
  refine T_qNm (fun n18 e_n18 => ?_)
  unfold e_X0_drawLatest_7
  refine T_qB (tl_X0_drawLatest_7 x2 o n18 hB_o (by omega) (by assumption) (by assumption) (by first | assumption | exact LT.up (by assumption) (by omega) | (rw [show o.1 66 0 = i_o.1 66 0 by omega]; exact LT.up lt17 (by omega))) (by omega) (by omega) (by first | assumption | exact LT.up (by assumption) (by omega) | (rw [show o.1 66 0 = i_o.1 66 0 by omega]; exact LT.up lt17 (by omega)))) (fun r7 hc_r7 hp8 => ?_)
  obtain ⟨o_9, q_o_9⟩ : ∃ q, q = r7 := ⟨_, rfl⟩
  subst q_o_9
  replace hp8 : BoxC o_9 ∧ (Fr [(68, 9999)] o o_9) := hp8
  have hps_hp8 := hp8
  obtain ⟨hp8_0, hp8_1⟩ := hps_hp8
  obtain ⟨hB_o_9, fc_o_9⟩ := hp8
  have fr_o_9 : Fr [(68, 9999)] o o_9 := Fr.tr fr_o fc_o_9 rfl
  have g66_0_o_9 : o_9.1 66 0 = o.1 66 0 := fc_o_9.1 66 0 rfl
  show T (b_X0_drawLatest_78 o_9) _
  unfold b_X0_drawLatest_78
  refine T_some ?_
  show BoxC o_9 ∧ (Fr [(68, 9999)] o o_9)
  exact ⟨hB_o_9, fr_o_9⟩
set_option maxRecDepth 20000 in
set_option maxHeartbeats 4000000 in
theorem tl_X0_draw_12 (o : OO) (x2 : Int) (x3 : Int) (x4 : Int) (i_x5 : Int) (hB_o : BoxC o) (k0 : 0 ≤ x2 ∧ x2 ≤ 5) (k1 : 0 ≤ x3 ∧ x3 ≤ 999) (k2 : 3 ≤ o.1 2 x2.toNat) (k3 : o.1 2 x2.toNat ≤ 39) (k4 : 1 ≤ x4 ∧ x4 ≤ 13) (v0 : 0 ≤ i_x5 ∧ i_x5 ≤ x4) (v1 : AV o x2 i_x5 x4) : T (loopW (fun s => l_X0_draw_12 o x2 x3 x4 s) i_x5) (Sum.elim (fun _ => True) (Sum.elim (fun _ => True) (fun _ => (AV o x2 x4 x4)))) := by
  refine T_loop (fun s => (0 ≤ s ∧ s ≤ x4) ∧ (AV o x2 s x4)) (fun s => (x4 - s).toNat) (by exact ⟨v0, v1⟩) (fun s hs => ?_)
  obtain ⟨x5, q_x5⟩ : ∃ q, q = s := ⟨_, rfl⟩
  subst q_x5
  replace hs : (0 ≤ x5 ∧ x5 ≤ x4) ∧ (AV o x2 x5 x4) := hs
  obtain ⟨w0, w1⟩ := hs
  have g66_0_o := bC_66_0 hB_o
  show T (l_X0_draw_12 o x2 x3 x4 x5) _
  unfold l_X0_draw_12
  refine T_qLt ⟨by omega, by omega⟩ ⟨by omega, by omega⟩ (fun h1 => ?_) (fun h1 => ?_)
  ·
    refine T_qB (t_X8_at o x2 (3 * x5) hB_o (by omega)) (fun r10 hc_r10 hp2 => ?_)
    replace hp2 : (r10 = o.1 3 (x2 * 40 + (3 * x5)).toNat) ∧ (inR r10) := hp2
    have hps_hp2 := hp2
    obtain ⟨hp2_0, hp2_1⟩ := hps_hp2
    replace hp2 := hid hp2
    refine T_qLt ⟨by omega, by omega⟩ ⟨by decide, by decide⟩ (fun h3 => ?_) (fun h3 => ?_)
    ·
      refine T_some ?_
      show True
      exact trivial
    ·
      refine T_qLt ⟨by decide, by decide⟩ ⟨by omega, by omega⟩ (fun h4 => ?_) (fun h4 => ?_)
      ·
        refine T_some ?_
        show True
        exact trivial
      ·
        refine T_qB (t_X8_at o x2 ((3 * x5) + 1) hB_o (by omega)) (fun r12 hc_r12 hp5 => ?_)
        replace hp5 : (r12 = o.1 3 (x2 * 40 + ((3 * x5) + 1)).toNat) ∧ (inR r12) := hp5
        have hps_hp5 := hp5
        obtain ⟨hp5_0, hp5_1⟩ := hps_hp5
        replace hp5 := hid hp5
        refine T_qB (t_X0_isAhead r12 x4 (by omega) (by omega)) (fun r14 hc_r14 hp6 => ?_)
        replace hp6 : ((r14 = 1 ∧ (r12 = -9 ∨ (0 ≤ r12 ∧ r12 < x4))) ∨ (r14 = 0 ∧ ¬ (r12 = -9 ∨ (0 ≤ r12 ∧ r12 < x4)))) := hp6
        refine T_qEq ⟨by omega, by omega⟩ ⟨by decide, by decide⟩ (fun h7 => ?_) (fun h7 => ?_)
        ·
          refine T_some ?_
          show True
          exact trivial
        ·
          refine T_qB (t_X8_at o x2 ((3 * x5) + 2) hB_o (by omega)) (fun r16 hc_r16 hp8 => ?_)
          replace hp8 : (r16 = o.1 3 (x2 * 40 + ((3 * x5) + 2)).toNat) ∧ (inR r16) := hp8
          have hps_hp8 := hp8
          obtain ⟨hp8_0, hp8_1⟩ := hps_hp8
          replace hp8 := hid hp8
          refine T_qB (t_X0_isAhead r16 x4 (by omega) (by omega)) (fun r18 hc_r18 hp9 => ?_)
          replace hp9 : ((r18 = 1 ∧ (r16 = -9 ∨ (0 ≤ r16 ∧ r16 < x4))) ∨ (r18 = 0 ∧ ¬ (r16 = -9 ∨ (0 ≤ r16 ∧ r16 < x4)))) := hp9
          refine T_qEq ⟨by omega, by omega⟩ ⟨by decide, by decide⟩ (fun h10 => ?_) (fun h10 => ?_)
          ·
            refine T_some ?_
            show True
            exact trivial
          ·
            refine T_some ?_
            show ((0 ≤ (x5 + 1) ∧ (x5 + 1) ≤ x4) ∧ (AV o x2 (x5 + 1) x4)) ∧ (x4 - (x5 + 1)).toNat < (x4 - x5).toNat
            exact ⟨⟨(by omega), (by first | assumption | exact AV_0 | exact AV_s w1 ⟨by omega, by omega⟩ (by omega) (by omega) | (have q2 := w1; rwa [show x5 = x4 by omega] at q2))⟩, by omega⟩
  ·
    refine T_some ?_
    show (AV o x2 x4 x4)
    exact (by first | assumption | exact AV_0 | exact AV_s w1 ⟨by omega, by omega⟩ (by omega) (by omega) | (have q2 := w1; rwa [show x5 = x4 by omega] at q2))
set_option maxRecDepth 20000 in
set_option maxHeartbeats 4000000 in
theorem t_X0_draw (o : OO) (x2 : Int) (x3 : Int) (hB_o : BoxC o) (k0 : 0 ≤ x2 ∧ x2 ≤ 5) (k1 : 0 ≤ x3 ∧ x3 ≤ 999) (k2 : 3 ≤ o.1 2 x2.toNat) (k3 : o.1 2 x2.toNat ≤ 39) : T (s_X0_draw o x2 x3) (fun v => BoxC v.2 ∧ (Fr [(66, 0), (66, 1), (67, 9999), (68, 9999), (69, 9999), (70, 9999)] o v.2) ∧ (0 ≤ v.1 ∧ v.1 ≤ 1)) := by
  have fr_o : Fr [(66, 0), (66, 1), (67, 9999), (68, 9999), (69, 9999), (70, 9999)] o o := Fr.rf
  have g66_0_o := bC_66_0 hB_o
  unfold s_X0_draw
  refine T_qB (t_X8_sizeOf o x2 hB_o (by omega)) (fun r20 hc_r20 hp11 => ?_)
  replace hp11 : (r20 = o.1 2 x2.toNat) ∧ (-1 ≤ r20 ∧ r20 ≤ 40) := hp11
  have hps_hp11 := hp11
  obtain ⟨hp11_0, hp11_1⟩ := hps_hp11
  replace hp11 := hid hp11
  refine T_qDv ⟨⟨by omega, by omega⟩, ⟨by decide, by decide⟩, by decide⟩ ?_
  have jd12 : jq r20 3 = r20 / 3 := jq_nn (by omega)
  refine T_qNm (fun n23 e_n23 => ?_)
  unfold e_X0_draw_12
  refine T_qB (tl_X0_draw_12 o x2 x3 n23 0 hB_o (by omega) (by omega) (by omega) (by omega) (by omega) (by omega) (by first | assumption | exact AV_0 | exact AV_s w1 ⟨by omega, by omega⟩ (by omega) (by omega) | (have q2 := w1; rwa [show x5 = x4 by omega] at q2))) (fun r13 hc_r13 hp14 => ?_)
  rcases r13 with r13 | r13 | r13
  ·
    show T (b_X0_draw_43 o) _
    unfold b_X0_draw_43
    refine T_qZ (Or.inl rfl) ?_
    refine T_some ?_
    show BoxC o ∧ (Fr [(66, 0), (66, 1), (67, 9999), (68, 9999), (69, 9999), (70, 9999)] o o) ∧ (0 ≤ 0 ∧ 0 ≤ 1)
    exact ⟨hB_o, fr_o, (by omega)⟩
  ·
    show T (b_X0_draw_83 o) _
    unfold b_X0_draw_83
    refine T_qZ (Or.inl rfl) ?_
    refine T_some ?_
    show BoxC o ∧ (Fr [(66, 0), (66, 1), (67, 9999), (68, 9999), (69, 9999), (70, 9999)] o o) ∧ (0 ≤ 0 ∧ 0 ≤ 1)
    exact ⟨hB_o, fr_o, (by omega)⟩
  ·
    replace hp14 : (AV o x2 n23 n23) := hp14
    show T (b_X0_draw_91 o x2 x3 n23) _
    unfold b_X0_draw_91
    refine T_qB2 (t_X0_drawEnds o x2 n23 x3 hB_o (by omega) (by omega) (by omega) (by first | assumption | exact AV_0 | exact AV_s w1 ⟨by omega, by omega⟩ (by omega) (by omega) | (have q2 := w1; rwa [show x5 = x4 by omega] at q2))) (fun r1 o3 hc_r1 hp15 => ?_)
    replace hp15 : BoxC o3 ∧ (Fr [(69, 9999), (70, 9999)] o o3) ∧ ((r1 = 1 ∧ DS o3 n23 ∧ OD o3 n23 n23) ∨ r1 = 0) := hp15
    obtain ⟨hB_o3, fc_o3, hp15⟩ := hp15
    have fr_o3 : Fr [(66, 0), (66, 1), (67, 9999), (68, 9999), (69, 9999), (70, 9999)] o o3 := Fr.tr fr_o fc_o3 rfl
    have g66_0_o3 : o3.1 66 0 = o.1 66 0 := fc_o3.1 66 0 rfl
    have hw9 : r1 = 0 ∨ (DS o3 n23 ∧ OD o3 n23 n23) := hp15.elim (fun q => Or.inr q.2) (fun q => Or.inl q)
    refine T_qEq ⟨by omega, by omega⟩ ⟨by decide, by decide⟩ (fun h16 => ?_) (fun h16 => ?_)
    ·
      refine T_qZ (Or.inl rfl) ?_
      refine T_some ?_
      show BoxC o3 ∧ (Fr [(66, 0), (66, 1), (67, 9999), (68, 9999), (69, 9999), (70, 9999)] o o3) ∧ (0 ≤ 0 ∧ 0 ≤ 1)
      exact ⟨hB_o3, fr_o3, (by omega)⟩
    ·
      refine T_qB (t_X0_keep o3 n23 hB_o3 (by omega) (hw9.elim (fun q => absurd q (by omega)) (fun q => q.1))) (fun o6 hc_o6 hp17 => ?_)
      replace hp17 : BoxC o6 ∧ (Fr [(66, 0), (66, 1), (67, 9999), (68, 9999)] o3 o6) ∧ (o6.1 66 0 = n23) ∧ (LT o6 n23 0) := hp17
      obtain ⟨hB_o6, fc_o6, hp17⟩ := hp17
      have fr_o6 : Fr [(66, 0), (66, 1), (67, 9999), (68, 9999), (69, 9999), (70, 9999)] o o6 := Fr.tr fr_o3 fc_o6 rfl
      have g66_0_o6 := bC_66_0 hB_o6
      have av6 : AV o6 x2 (o6.1 66 0) (o6.1 66 0) := by rw [hp17.1]; exact AV.cg (show AV o x2 n23 n23 by assumption) (fun j => (fc_o6.1 3 j rfl).trans (fc_o3.1 3 j rfl))
      have od6 : OD o6 (o6.1 66 0) (o6.1 66 0) := by rw [hp17.1]; exact OD.cg (hw9.elim (fun q => absurd q (by omega)) (fun q => q.2)) (fun j => fc_o6.1 70 j rfl)
      have lt6 : LT o6 (o6.1 66 0) 0 := by rw [hp17.1]; exact hp17.2
      refine T_qB (t_X0_drawLatest o6 x2 hB_o6 (by omega) (by first | assumption | exact AV_0 | exact AV_s w1 ⟨by omega, by omega⟩ (by omega) (by omega) | (have q2 := w1; rwa [show x5 = x4 by omega] at q2)) (by assumption) (by assumption) (by omega)) (fun o9 hc_o9 hp18 => ?_)
      replace hp18 : BoxC o9 ∧ (Fr [(68, 9999)] o6 o9) := hp18
      obtain ⟨hB_o9, fc_o9⟩ := hp18
      have fr_o9 : Fr [(66, 0), (66, 1), (67, 9999), (68, 9999), (69, 9999), (70, 9999)] o o9 := Fr.tr fr_o6 fc_o9 rfl
      have g66_0_o9 : o9.1 66 0 = o6.1 66 0 := fc_o9.1 66 0 rfl
      refine T_qZ (Or.inr rfl) ?_
      refine T_some ?_
      show BoxC o9 ∧ (Fr [(66, 0), (66, 1), (67, 9999), (68, 9999), (69, 9999), (70, 9999)] o o9) ∧ (0 ≤ 1 ∧ 1 ≤ 1)
      exact ⟨hB_o9, fr_o9, (by omega)⟩
set_option maxRecDepth 20000 in
set_option maxHeartbeats 4000000 in
theorem t_X11_acts (o : OO) (x1 : Int) (hB_o : BoxC o) (k0 : inR x1) : T (s_X11_acts o x1) (fun v => BoxC v.2 ∧ (Fr [(0, 17), (66, 0), (66, 1), (67, 9999), (68, 9999), (69, 9999), (70, 9999), (77, 9999)] o v.2)) := by
  have fr_o : Fr [(0, 17), (66, 0), (66, 1), (67, 9999), (68, 9999), (69, 9999), (70, 9999), (77, 9999)] o o := Fr.rf
  have g0_13_o := bC_0_13 hB_o
  have g66_1_o := bC_66_1 hB_o
  unfold s_X11_acts
  refine T_qB (t_X8_exists o x1 hB_o (by omega)) (fun r4 hc_r4 hp1 => ?_)
  replace hp1 : ((r4 = 1 ∧ (0 ≤ x1 ∧ x1 < 6)) ∨ (r4 = 0 ∧ ¬ (0 ≤ x1 ∧ x1 < 6))) := hp1
  refine T_qEq ⟨by omega, by omega⟩ ⟨by decide, by decide⟩ (fun h2 => ?_) (fun h2 => ?_)
  ·
    refine T_some ?_
    show BoxC o ∧ (Fr [(0, 17), (66, 0), (66, 1), (67, 9999), (68, 9999), (69, 9999), (70, 9999), (77, 9999)] o o)
    exact ⟨hB_o, fr_o⟩
  ·
    refine T_qB (t_X8_isThere o x1 hB_o (by omega)) (fun r6 hc_r6 hp3 => ?_)
    replace hp3 : ((r6 = 1 ∧ (¬ o.1 2 x1.toNat = -1)) ∨ (r6 = 0 ∧ ¬ (¬ o.1 2 x1.toNat = -1))) := hp3
    refine T_qEq ⟨by omega, by omega⟩ ⟨by decide, by decide⟩ (fun h4 => ?_) (fun h4 => ?_)
    ·
      refine T_qB2 (t_X11_found o 1 hB_o (by omega)) (fun r17 o19 hc_r17 hp5 => ?_)
      replace hp5 : BoxC o19 ∧ (Fr [(0, 17), (77, 9999)] o o19) ∧ (r17 = -3) := hp5
      obtain ⟨hB_o19, fc_o19, hp5⟩ := hp5
      have fr_o19 : Fr [(0, 17), (66, 0), (66, 1), (67, 9999), (68, 9999), (69, 9999), (70, 9999), (77, 9999)] o o19 := Fr.tr fr_o fc_o19 rfl
      have g0_13_o19 : o19.1 0 13 = o.1 0 13 := fc_o19.1 0 13 rfl
      have g66_1_o19 : o19.1 66 1 = o.1 66 1 := fc_o19.1 66 1 rfl
      refine T_some ?_
      show BoxC o19 ∧ (Fr [(0, 17), (66, 0), (66, 1), (67, 9999), (68, 9999), (69, 9999), (70, 9999), (77, 9999)] o o19)
      exact ⟨hB_o19, fr_o19⟩
    ·
      refine T_qB (t_X8_sizeOf o x1 hB_o (by omega)) (fun r8 hc_r8 hp6 => ?_)
      replace hp6 : (r8 = o.1 2 x1.toNat) ∧ (-1 ≤ r8 ∧ r8 ≤ 40) := hp6
      have hps_hp6 := hp6
      obtain ⟨hp6_0, hp6_1⟩ := hps_hp6
      replace hp6 := hid hp6
      refine T_qDv ⟨⟨by omega, by omega⟩, ⟨by decide, by decide⟩, by decide⟩ ?_
      have jd7 : jq r8 3 = r8 / 3 := jq_nn (by omega)
      refine T_qEq ⟨by omega, by omega⟩ ⟨by decide, by decide⟩ (fun h8 => ?_) (fun h8 => ?_)
      ·
        refine T_qLt ⟨by omega, by omega⟩ ⟨by decide, by decide⟩ (fun h9 => ?_) (fun h9 => ?_)
        ·
          unfold b_X11_acts_56
          refine T_qB2 (t_X11_found o 5 hB_o (by omega)) (fun r1 o3 hc_r1 hp10 => ?_)
          replace hp10 : BoxC o3 ∧ (Fr [(0, 17), (77, 9999)] o o3) ∧ (r1 = -3) := hp10
          obtain ⟨hB_o3, fc_o3, hp10⟩ := hp10
          have fr_o3 : Fr [(0, 17), (66, 0), (66, 1), (67, 9999), (68, 9999), (69, 9999), (70, 9999), (77, 9999)] o o3 := Fr.tr fr_o fc_o3 rfl
          have g0_13_o3 : o3.1 0 13 = o.1 0 13 := fc_o3.1 0 13 rfl
          have g66_1_o3 : o3.1 66 1 = o.1 66 1 := fc_o3.1 66 1 rfl
          refine T_some ?_
          show BoxC o3 ∧ (Fr [(0, 17), (66, 0), (66, 1), (67, 9999), (68, 9999), (69, 9999), (70, 9999), (77, 9999)] o o3)
          exact ⟨hB_o3, fr_o3⟩
        ·
          refine T_qLt ⟨by decide, by decide⟩ ⟨by omega, by omega⟩ (fun h11 => ?_) (fun h11 => ?_)
          ·
            unfold b_X11_acts_56
            refine T_qB2 (t_X11_found o 5 hB_o (by omega)) (fun r1 o3 hc_r1 hp12 => ?_)
            replace hp12 : BoxC o3 ∧ (Fr [(0, 17), (77, 9999)] o o3) ∧ (r1 = -3) := hp12
            obtain ⟨hB_o3, fc_o3, hp12⟩ := hp12
            have fr_o3 : Fr [(0, 17), (66, 0), (66, 1), (67, 9999), (68, 9999), (69, 9999), (70, 9999), (77, 9999)] o o3 := Fr.tr fr_o fc_o3 rfl
            have g0_13_o3 : o3.1 0 13 = o.1 0 13 := fc_o3.1 0 13 rfl
            have g66_1_o3 : o3.1 66 1 = o.1 66 1 := fc_o3.1 66 1 rfl
            refine T_some ?_
            show BoxC o3 ∧ (Fr [(0, 17), (66, 0), (66, 1), (67, 9999), (68, 9999), (69, 9999), (70, 9999), (77, 9999)] o o3)
            exact ⟨hB_o3, fr_o3⟩
          ·
            refine T_qB2 (t_X0_draw o x1 (o.1 0 13) hB_o (by omega) (by omega) (by omega) (by omega)) (fun r11 o13 hc_r11 hp13 => ?_)
            replace hp13 : BoxC o13 ∧ (Fr [(66, 0), (66, 1), (67, 9999), (68, 9999), (69, 9999), (70, 9999)] o o13) ∧ (0 ≤ r11 ∧ r11 ≤ 1) := hp13
            obtain ⟨hB_o13, fc_o13, hp13⟩ := hp13
            have fr_o13 : Fr [(0, 17), (66, 0), (66, 1), (67, 9999), (68, 9999), (69, 9999), (70, 9999), (77, 9999)] o o13 := Fr.tr fr_o fc_o13 rfl
            have g0_13_o13 : o13.1 0 13 = o.1 0 13 := fc_o13.1 0 13 rfl
            have g66_1_o13 := bC_66_1 hB_o13
            refine T_qEq ⟨by omega, by omega⟩ ⟨by decide, by decide⟩ (fun h14 => ?_) (fun h14 => ?_)
            ·
              refine T_qB2 (t_X11_found o13 3 hB_o13 (by omega)) (fun r14 o16 hc_r14 hp15 => ?_)
              replace hp15 : BoxC o16 ∧ (Fr [(0, 17), (77, 9999)] o13 o16) ∧ (r14 = -3) := hp15
              obtain ⟨hB_o16, fc_o16, hp15⟩ := hp15
              have fr_o16 : Fr [(0, 17), (66, 0), (66, 1), (67, 9999), (68, 9999), (69, 9999), (70, 9999), (77, 9999)] o o16 := Fr.tr fr_o13 fc_o16 rfl
              have g0_13_o16 : o16.1 0 13 = o13.1 0 13 := fc_o16.1 0 13 rfl
              have g66_1_o16 : o16.1 66 1 = o13.1 66 1 := fc_o16.1 66 1 rfl
              refine T_some ?_
              show BoxC o16 ∧ (Fr [(0, 17), (66, 0), (66, 1), (67, 9999), (68, 9999), (69, 9999), (70, 9999), (77, 9999)] o o16)
              exact ⟨hB_o16, fr_o16⟩
            ·
              refine T_some ?_
              show BoxC o13 ∧ (Fr [(0, 17), (66, 0), (66, 1), (67, 9999), (68, 9999), (69, 9999), (70, 9999), (77, 9999)] o o13)
              exact ⟨hB_o13, fr_o13⟩
      ·
        unfold b_X11_acts_56
        refine T_qB2 (t_X11_found o 5 hB_o (by omega)) (fun r1 o3 hc_r1 hp16 => ?_)
        replace hp16 : BoxC o3 ∧ (Fr [(0, 17), (77, 9999)] o o3) ∧ (r1 = -3) := hp16
        obtain ⟨hB_o3, fc_o3, hp16⟩ := hp16
        have fr_o3 : Fr [(0, 17), (66, 0), (66, 1), (67, 9999), (68, 9999), (69, 9999), (70, 9999), (77, 9999)] o o3 := Fr.tr fr_o fc_o3 rfl
        have g0_13_o3 : o3.1 0 13 = o.1 0 13 := fc_o3.1 0 13 rfl
        have g66_1_o3 : o3.1 66 1 = o.1 66 1 := fc_o3.1 66 1 rfl
        refine T_some ?_
        show BoxC o3 ∧ (Fr [(0, 17), (66, 0), (66, 1), (67, 9999), (68, 9999), (69, 9999), (70, 9999), (77, 9999)] o o3)
        exact ⟨hB_o3, fr_o3⟩
set_option maxRecDepth 20000 in
set_option maxHeartbeats 4000000 in
theorem t_X11_asked (o : OO) (hB_o : BoxC o) : T (s_X11_asked o) (fun _ => True) := by
  unfold s_X11_asked
  refine T_some ?_
  show True
  exact trivial
set_option maxRecDepth 20000 in
set_option maxHeartbeats 4000000 in
theorem tl_X8_allWithin_3 (o : OO) (x1 : Int) (x2 : Int) (x3 : Int) (i_x4 : Int) (hB_o : BoxC o) (k0 : 0 ≤ x1 ∧ x1 ≤ 5) (k1 : inR x2) (k2 : inR x3) (v0 : 0 ≤ i_x4 ∧ i_x4 ≤ 40) (v1 : ∀ k : Int, 0 ≤ k → k < i_x4 → x2 ≤ o.1 3 (x1 * 40 + k).toNat ∧ o.1 3 (x1 * 40 + k).toNat ≤ x3) : T (loopW (fun s => l_X8_allWithin_3 o x1 x2 x3 s) i_x4) (Sum.elim (fun _ => True) (fun _ => (∀ k : Int, 0 ≤ k → k < o.1 2 x1.toNat → x2 ≤ o.1 3 (x1 * 40 + k).toNat ∧ o.1 3 (x1 * 40 + k).toNat ≤ x3))) := by
  refine T_loop (fun s => (0 ≤ s ∧ s ≤ 40) ∧ (∀ k : Int, 0 ≤ k → k < s → x2 ≤ o.1 3 (x1 * 40 + k).toNat ∧ o.1 3 (x1 * 40 + k).toNat ≤ x3)) (fun s => (40 - s).toNat) (by exact ⟨v0, v1⟩) (fun s hs => ?_)
  obtain ⟨x4, q_x4⟩ : ∃ q, q = s := ⟨_, rfl⟩
  subst q_x4
  replace hs : (0 ≤ x4 ∧ x4 ≤ 40) ∧ (∀ k : Int, 0 ≤ k → k < x4 → x2 ≤ o.1 3 (x1 * 40 + k).toNat ∧ o.1 3 (x1 * 40 + k).toNat ≤ x3) := hs
  obtain ⟨w0, w1⟩ := hs
  show T (l_X8_allWithin_3 o x1 x2 x3 x4) _
  unfold l_X8_allWithin_3
  refine T_qIn ⟨by omega, by omega⟩ ?_
  refine T_qNm (fun n2 e_n2 => ?_)
  have b_n2 : -1 ≤ n2 ∧ n2 ≤ 40 := by rw [e_n2]; exact bC_2 hB_o _
  refine T_qLt ⟨by omega, by omega⟩ ⟨by omega, by omega⟩ (fun h1 => ?_) (fun h1 => ?_)
  ·
    refine T_qB (t_X8_at o x1 x4 hB_o (by omega)) (fun r3 hc_r3 hp2 => ?_)
    replace hp2 : (r3 = o.1 3 (x1 * 40 + x4).toNat) ∧ (inR r3) := hp2
    have hps_hp2 := hp2
    obtain ⟨hp2_0, hp2_1⟩ := hps_hp2
    replace hp2 := hid hp2
    refine T_qLt ⟨by omega, by omega⟩ ⟨by omega, by omega⟩ (fun h3 => ?_) (fun h3 => ?_)
    ·
      refine T_some ?_
      show True
      exact trivial
    ·
      refine T_qB (t_X8_at o x1 x4 hB_o (by omega)) (fun r5 hc_r5 hp4 => ?_)
      replace hp4 : (r5 = o.1 3 (x1 * 40 + x4).toNat) ∧ (inR r5) := hp4
      have hps_hp4 := hp4
      obtain ⟨hp4_0, hp4_1⟩ := hps_hp4
      replace hp4 := hid hp4
      refine T_qLt ⟨by omega, by omega⟩ ⟨by omega, by omega⟩ (fun h5 => ?_) (fun h5 => ?_)
      ·
        refine T_some ?_
        show True
        exact trivial
      ·
        refine T_some ?_
        show ((0 ≤ (x4 + 1) ∧ (x4 + 1) ≤ 40) ∧ (∀ k : Int, 0 ≤ k → k < (x4 + 1) → x2 ≤ o.1 3 (x1 * 40 + k).toNat ∧ o.1 3 (x1 * 40 + k).toNat ≤ x3)) ∧ (40 - (x4 + 1)).toNat < (40 - x4).toNat
        exact ⟨⟨(by omega), (by first | assumption | skip; intro k q0 q1; first | exact absurd q1 (by omega) | exact (Classical.em (k = x4)).elim (fun e9 => by subst e9; omega) (fun e9 => w1 k q0 (by omega)) | omega)⟩, by omega⟩
  ·
    refine T_some ?_
    show (∀ k : Int, 0 ≤ k → k < o.1 2 x1.toNat → x2 ≤ o.1 3 (x1 * 40 + k).toNat ∧ o.1 3 (x1 * 40 + k).toNat ≤ x3)
    exact (by first | assumption | skip; intro k q0 q1; first | exact absurd q1 (by omega) | exact (Classical.em (k = x4)).elim (fun e9 => by subst e9; omega) (fun e9 => w1 k q0 (by omega)) | omega)
set_option maxRecDepth 20000 in
set_option maxHeartbeats 4000000 in
theorem t_X8_allWithin (o : OO) (x1 : Int) (x2 : Int) (x3 : Int) (hB_o : BoxC o) (k0 : 0 ≤ x1 ∧ x1 ≤ 5) (k1 : inR x2) (k2 : inR x3) : T (s_X8_allWithin o x1 x2 x3) (fun v => ((v = 1 ∧ (∀ k : Int, 0 ≤ k → k < o.1 2 x1.toNat → x2 ≤ o.1 3 (x1 * 40 + k).toNat ∧ o.1 3 (x1 * 40 + k).toNat ≤ x3)) ∨ v = 0)) := by
  unfold s_X8_allWithin
  unfold e_X8_allWithin_3
  refine T_qB (tl_X8_allWithin_3 o x1 x2 x3 0 hB_o (by omega) (by omega) (by omega) (by omega) (by first | assumption | skip; intro k q0 q1; first | exact absurd q1 (by omega) | exact (Classical.em (k = x4)).elim (fun e9 => by subst e9; omega) (fun e9 => w1 k q0 (by omega)) | omega)) (fun r6 hc_r6 hp7 => ?_)
  rcases r6 with r6 | r6
  ·
    show T (b_X8_allWithin_36 o) _
    unfold b_X8_allWithin_36
    refine T_qZ (Or.inl rfl) ?_
    refine T_some ?_
    show ((0 = 1 ∧ (∀ k : Int, 0 ≤ k → k < o.1 2 x1.toNat → x2 ≤ o.1 3 (x1 * 40 + k).toNat ∧ o.1 3 (x1 * 40 + k).toNat ≤ x3)) ∨ 0 = 0)
    exact (Or.inr rfl)
  ·
    replace hp7 : (∀ k : Int, 0 ≤ k → k < o.1 2 x1.toNat → x2 ≤ o.1 3 (x1 * 40 + k).toNat ∧ o.1 3 (x1 * 40 + k).toNat ≤ x3) := hp7
    show T (b_X8_allWithin_44 o) _
    unfold b_X8_allWithin_44
    refine T_qZ (Or.inr rfl) ?_
    refine T_some ?_
    show ((1 = 1 ∧ (∀ k : Int, 0 ≤ k → k < o.1 2 x1.toNat → x2 ≤ o.1 3 (x1 * 40 + k).toNat ∧ o.1 3 (x1 * 40 + k).toNat ≤ x3)) ∨ 1 = 0)
    exact (by first | exact Or.inl ⟨rfl, by assumption⟩)
set_option maxRecDepth 20000 in
set_option maxHeartbeats 4000000 in
theorem t_X11_weighingFault (o : OO) (x1 : Int) (x2 : Int) (hB_o : BoxC o) (k0 : 0 ≤ x1 ∧ x1 ≤ 5) (k1 : 0 ≤ x2 ∧ x2 ≤ 5) : T (s_X11_weighingFault o x1 x2) (fun v => ((v = 0 ∧ WC o x1 4) ∨ (1 ≤ v ∧ v ≤ 5))) := by
  unfold s_X11_weighingFault
  refine T_qB (t_X8_isThere o x1 hB_o (by omega)) (fun r1 hc_r1 hp1 => ?_)
  replace hp1 : ((r1 = 1 ∧ (¬ o.1 2 x1.toNat = -1)) ∨ (r1 = 0 ∧ ¬ (¬ o.1 2 x1.toNat = -1))) := hp1
  refine T_qEq ⟨by omega, by omega⟩ ⟨by decide, by decide⟩ (fun h2 => ?_) (fun h2 => ?_)
  ·
    unfold b_X11_weighingFault_22
    refine T_some ?_
    show ((1 = 0 ∧ WC o x1 4) ∨ (1 ≤ 1 ∧ 1 ≤ 5))
    exact (Or.inr ⟨by decide, by decide⟩)
  ·
    refine T_qB (t_X8_isThere o x2 hB_o (by omega)) (fun r3 hc_r3 hp3 => ?_)
    replace hp3 : ((r3 = 1 ∧ (¬ o.1 2 x2.toNat = -1)) ∨ (r3 = 0 ∧ ¬ (¬ o.1 2 x2.toNat = -1))) := hp3
    refine T_qEq ⟨by omega, by omega⟩ ⟨by decide, by decide⟩ (fun h4 => ?_) (fun h4 => ?_)
    ·
      unfold b_X11_weighingFault_22
      refine T_some ?_
      show ((1 = 0 ∧ WC o x1 4) ∨ (1 ≤ 1 ∧ 1 ≤ 5))
      exact (Or.inr ⟨by decide, by decide⟩)
    ·
      refine T_qB (t_X8_sizeOf o x1 hB_o (by omega)) (fun r5 hc_r5 hp5 => ?_)
      replace hp5 : (r5 = o.1 2 x1.toNat) ∧ (-1 ≤ r5 ∧ r5 ≤ 40) := hp5
      have hps_hp5 := hp5
      obtain ⟨hp5_0, hp5_1⟩ := hps_hp5
      replace hp5 := hid hp5
      refine T_qEq ⟨by omega, by omega⟩ ⟨by decide, by decide⟩ (fun h6 => ?_) (fun h6 => ?_)
      ·
        refine T_qB (t_X8_allWithin o x1 0 100 hB_o (by omega) (by omega) (by omega)) (fun r7 hc_r7 hp7 => ?_)
        replace hp7 : ((r7 = 1 ∧ (∀ k : Int, 0 ≤ k → k < o.1 2 x1.toNat → 0 ≤ o.1 3 (x1 * 40 + k).toNat ∧ o.1 3 (x1 * 40 + k).toNat ≤ 100)) ∨ r7 = 0) := hp7
        have hw9 : r7 = 0 ∨ WC o x1 4 := hp7.elim (fun q => Or.inr (fun k q0 q1 => q.2 k q0 (by omega))) (fun q => Or.inl q)
        refine T_qEq ⟨by omega, by omega⟩ ⟨by decide, by decide⟩ (fun h8 => ?_) (fun h8 => ?_)
        ·
          refine T_some ?_
          show ((3 = 0 ∧ WC o x1 4) ∨ (1 ≤ 3 ∧ 3 ≤ 5))
          exact (Or.inr ⟨by decide, by decide⟩)
        ·
          refine T_some ?_
          show ((0 = 0 ∧ WC o x1 4) ∨ (1 ≤ 0 ∧ 0 ≤ 5))
          exact (Or.inl ⟨rfl, hw9.elim (fun q => absurd q (by omega)) (fun q => q)⟩)
      ·
        refine T_some ?_
        show ((5 = 0 ∧ WC o x1 4) ∨ (1 ≤ 5 ∧ 5 ≤ 5))
        exact (Or.inr ⟨by decide, by decide⟩)
set_option maxRecDepth 20000 in
set_option maxHeartbeats 4000000 in
theorem t_X4_number (o : OO) (hB_o : BoxC o) : T (s_X4_number o) (fun v => (v = o.1 32 13)) := by
  have g32_13_o := bC_32_13 hB_o
  unfold s_X4_number
  refine T_some ?_
  show ((o.1 32 13) = o.1 32 13)
  exact (by omega)
set_option maxRecDepth 20000 in
set_option maxHeartbeats 4000000 in
theorem t_X4_kindOf (o : OO) (x1 : Int) (hB_o : BoxC o) (k0 : 0 ≤ x1 ∧ x1 ≤ 23) : T (s_X4_kindOf o x1) (fun v => (0 ≤ v ∧ v ≤ 6)) := by
  unfold s_X4_kindOf
  refine T_qIn ⟨by omega, by omega⟩ ?_
  refine T_qNm (fun n2 e_n2 => ?_)
  have b_n2 : 0 ≤ n2 ∧ n2 ≤ 6 := by rw [e_n2]; exact bC_33 hB_o _
  refine T_some ?_
  show (0 ≤ n2 ∧ n2 ≤ 6)
  exact (by omega)
set_option maxRecDepth 20000 in
set_option maxHeartbeats 4000000 in
theorem t_X4_cells (o : OO) (x1 : Int) (hB_o : BoxC o) (k0 : 0 ≤ x1 ∧ x1 ≤ 23) : T (s_X4_cells o x1) (fun _ => True) := by
  unfold s_X4_cells
  refine T_qIn ⟨by omega, by omega⟩ ?_
  refine T_qNm (fun m2 e_m2 => ?_)
  refine T_some ?_
  show True
  exact trivial
set_option maxRecDepth 20000 in
set_option maxHeartbeats 4000000 in
theorem t_X4_costOf (o : OO) (x1 : Int) (hB_o : BoxC o) (k0 : 0 ≤ x1 ∧ x1 ≤ 23) : T (s_X4_costOf o x1) (fun v => (0 ≤ v ∧ v ≤ 1000000)) := by
  unfold s_X4_costOf
  refine T_qIn ⟨by omega, by omega⟩ ?_
  refine T_qNm (fun n2 e_n2 => ?_)
  have b_n2 : 0 ≤ n2 ∧ n2 ≤ 1000000 := by rw [e_n2]; exact bC_39 hB_o _
  refine T_some ?_
  show (0 ≤ n2 ∧ n2 ≤ 1000000)
  exact (by omega)
set_option maxRecDepth 20000 in
set_option maxHeartbeats 4000000 in
theorem t_X3_has (z0 : Int64) (x2 : Int)  : T (s_X3_has z0 x2) (fun v => (0 ≤ v ∧ v ≤ 1) ∧ (HBT z0 x2 v)) := by
  unfold s_X3_has
  refine T_qJe (fun h1 => ?_) (fun h1 => ?_)
  ·
    unfold b_X3_has_15
    refine T_qZ (Or.inr rfl) ?_
    refine T_some ?_
    show (0 ≤ 1 ∧ 1 ≤ 1) ∧ (HBT z0 x2 1)
    exact ⟨(by omega), (by first | exact HBT_1 (by assumption) | exact HBT_0 (by assumption))⟩
  ·
    unfold b_X3_has_15
    refine T_qZ (Or.inl rfl) ?_
    refine T_some ?_
    show (0 ≤ 0 ∧ 0 ≤ 1) ∧ (HBT z0 x2 0)
    exact ⟨(by omega), (by first | exact HBT_1 (by assumption) | exact HBT_0 (by assumption))⟩
set_option maxRecDepth 20000 in
set_option maxHeartbeats 4000000 in
theorem tl_X1_dwellersIn_5 (o : OO) (z1 : Int64) (i_x3 : Int) (i_x4 : Int) (hB_o : BoxC o) (v0 : 0 ≤ i_x4 ∧ i_x4 ≤ o.1 10 12) (v1 : 0 ≤ i_x3 ∧ i_x3 ≤ 40 * i_x4) : T (loopW (fun s => l_X1_dwellersIn_5 o z1 s.1 s.2) (i_x3, i_x4)) (fun r => (0 ≤ r ∧ r ≤ 1280)) := by
  refine T_loop (fun s => (0 ≤ s.2 ∧ s.2 ≤ o.1 10 12) ∧ (0 ≤ s.1 ∧ s.1 ≤ 40 * s.2)) (fun s => (o.1 10 12 - s.2).toNat) (by exact ⟨v0, v1⟩) (fun s hs => ?_)
  obtain ⟨x3, x4⟩ := s
  replace hs : (0 ≤ x4 ∧ x4 ≤ o.1 10 12) ∧ (0 ≤ x3 ∧ x3 ≤ 40 * x4) := hs
  obtain ⟨w0, w1⟩ := hs
  have g10_12_o := bC_10_12 hB_o
  show T (l_X1_dwellersIn_5 o z1 x3 x4) _
  unfold l_X1_dwellersIn_5
  refine T_qLt ⟨by omega, by omega⟩ ⟨by omega, by omega⟩ (fun h1 => ?_) (fun h1 => ?_)
  ·
    refine T_qIn ⟨by omega, by omega⟩ ?_
    refine T_qNm (fun n2 e_n2 => ?_)
    have b_n2 : 0 ≤ n2 ∧ n2 ≤ 63 := by rw [e_n2]; exact bC_11 hB_o _
    refine T_qB (t_X3_has z1 n2) (fun r3 hc_r3 hp2 => ?_)
    replace hp2 : (0 ≤ r3 ∧ r3 ≤ 1) ∧ (HBT z1 n2 r3) := hp2
    have hps_hp2 := hp2
    obtain ⟨hp2_0, hp2_1⟩ := hps_hp2
    replace hp2 := hid hp2
    refine T_qEq ⟨by omega, by omega⟩ ⟨by decide, by decide⟩ (fun h3 => ?_) (fun h3 => ?_)
    ·
      unfold b_X1_dwellersIn_38
      refine T_some ?_
      show ((0 ≤ (x4 + 1) ∧ (x4 + 1) ≤ o.1 10 12) ∧ (0 ≤ x3 ∧ x3 ≤ 40 * (x4 + 1))) ∧ (o.1 10 12 - (x4 + 1)).toNat < (o.1 10 12 - x4).toNat
      exact ⟨⟨(by omega), (by omega)⟩, by omega⟩
    ·
      refine T_qIn ⟨by omega, by omega⟩ ?_
      refine T_qNm (fun n6 e_n6 => ?_)
      have b_n6 : 0 ≤ n6 ∧ n6 ≤ 40 := by rw [e_n6]; exact bC_14 hB_o _
      refine T_qNm (fun n7 e_n7 => ?_)
      unfold b_X1_dwellersIn_38
      refine T_some ?_
      show ((0 ≤ (x4 + 1) ∧ (x4 + 1) ≤ o.1 10 12) ∧ (0 ≤ n7 ∧ n7 ≤ 40 * (x4 + 1))) ∧ (o.1 10 12 - (x4 + 1)).toNat < (o.1 10 12 - x4).toNat
      exact ⟨⟨(by omega), (by omega)⟩, by omega⟩
  ·
    refine T_some ?_
    show (0 ≤ x3 ∧ x3 ≤ 1280)
    exact (by omega)
set_option maxRecDepth 20000 in
set_option maxHeartbeats 4000000 in
theorem t_X1_dwellersIn (o : OO) (z1 : Int64) (hB_o : BoxC o) : T (s_X1_dwellersIn o z1) (fun v => (0 ≤ v ∧ v ≤ 1280)) := by
  have g10_12_o := bC_10_12 hB_o
  unfold s_X1_dwellersIn
  unfold e_X1_dwellersIn_5
  refine T_qB (tl_X1_dwellersIn_5 o z1 0 0 hB_o (by omega) (by omega)) (fun r4 hc_r4 hp5 => ?_)
  obtain ⟨x3_6, q_x3_6⟩ : ∃ q, q = r4 := ⟨_, rfl⟩
  subst q_x3_6
  replace hp5 : (0 ≤ x3_6 ∧ x3_6 ≤ 1280) := hp5
  show T (b_X1_dwellersIn_44 o x3_6) _
  unfold b_X1_dwellersIn_44
  refine T_some ?_
  show (0 ≤ x3_6 ∧ x3_6 ≤ 1280)
  exact (by omega)
set_option maxRecDepth 20000 in
set_option maxHeartbeats 4000000 in
theorem tl_X3_parksIn_5 (o : OO) (z1 : Int64) (i_x3 : Int) (i_x4 : Int) (hB_o : BoxC o) (v0 : 0 ≤ i_x3 ∧ i_x3 ≤ i_x4) (v1 : 0 ≤ i_x4 ∧ i_x4 ≤ 64) : T (loopW (fun s => l_X3_parksIn_5 o z1 s.1 s.2) (i_x3, i_x4)) (fun r => (0 ≤ r ∧ r ≤ 64)) := by
  refine T_loop (fun s => (0 ≤ s.1 ∧ s.1 ≤ s.2) ∧ (0 ≤ s.2 ∧ s.2 ≤ 64)) (fun s => (64 - s.2).toNat) (by exact ⟨v0, v1⟩) (fun s hs => ?_)
  obtain ⟨x3, x4⟩ := s
  replace hs : (0 ≤ x3 ∧ x3 ≤ x4) ∧ (0 ≤ x4 ∧ x4 ≤ 64) := hs
  obtain ⟨w0, w1⟩ := hs
  show T (l_X3_parksIn_5 o z1 x3 x4) _
  unfold l_X3_parksIn_5
  refine T_qLt ⟨by omega, by omega⟩ ⟨by decide, by decide⟩ (fun h1 => ?_) (fun h1 => ?_)
  ·
    refine T_qIn ⟨by omega, by omega⟩ ?_
    refine T_qNm (fun n2 e_n2 => ?_)
    have b_n2 : 0 ≤ n2 ∧ n2 ≤ 4 := by rw [e_n2]; exact bC_8 hB_o _
    refine T_qEq ⟨by omega, by omega⟩ ⟨by decide, by decide⟩ (fun h2 => ?_) (fun h2 => ?_)
    ·
      refine T_qB (t_X3_has z1 x4) (fun r3 hc_r3 hp3 => ?_)
      replace hp3 : (0 ≤ r3 ∧ r3 ≤ 1) ∧ (HBT z1 x4 r3) := hp3
      have hps_hp3 := hp3
      obtain ⟨hp3_0, hp3_1⟩ := hps_hp3
      replace hp3 := hid hp3
      refine T_qEq ⟨by omega, by omega⟩ ⟨by decide, by decide⟩ (fun h4 => ?_) (fun h4 => ?_)
      ·
        unfold b_X3_parksIn_35
        refine T_some ?_
        show ((0 ≤ x3 ∧ x3 ≤ (x4 + 1)) ∧ (0 ≤ (x4 + 1) ∧ (x4 + 1) ≤ 64)) ∧ (64 - (x4 + 1)).toNat < (64 - x4).toNat
        exact ⟨⟨(by omega), (by omega)⟩, by omega⟩
      ·
        unfold b_X3_parksIn_35
        refine T_some ?_
        show ((0 ≤ (x3 + 1) ∧ (x3 + 1) ≤ (x4 + 1)) ∧ (0 ≤ (x4 + 1) ∧ (x4 + 1) ≤ 64)) ∧ (64 - (x4 + 1)).toNat < (64 - x4).toNat
        exact ⟨⟨(by omega), (by omega)⟩, by omega⟩
    ·
      unfold b_X3_parksIn_35
      refine T_some ?_
      show ((0 ≤ x3 ∧ x3 ≤ (x4 + 1)) ∧ (0 ≤ (x4 + 1) ∧ (x4 + 1) ≤ 64)) ∧ (64 - (x4 + 1)).toNat < (64 - x4).toNat
      exact ⟨⟨(by omega), (by omega)⟩, by omega⟩
  ·
    refine T_some ?_
    show (0 ≤ x3 ∧ x3 ≤ 64)
    exact (by omega)
set_option maxRecDepth 20000 in
set_option maxHeartbeats 4000000 in
theorem t_X3_parksIn (o : OO) (z1 : Int64) (hB_o : BoxC o) : T (s_X3_parksIn o z1) (fun v => (0 ≤ v ∧ v ≤ 64)) := by
  unfold s_X3_parksIn
  unfold e_X3_parksIn_5
  refine T_qB (tl_X3_parksIn_5 o z1 0 0 hB_o (by omega) (by omega)) (fun r5 hc_r5 hp6 => ?_)
  obtain ⟨x3_7, q_x3_7⟩ : ∃ q, q = r5 := ⟨_, rfl⟩
  subst q_x3_7
  replace hp6 : (0 ≤ x3_7 ∧ x3_7 ≤ 64) := hp6
  show T (b_X3_parksIn_41 o x3_7) _
  unfold b_X3_parksIn_41
  refine T_some ?_
  show (0 ≤ x3_7 ∧ x3_7 ≤ 64)
  exact (by omega)
set_option maxRecDepth 20000 in
set_option maxHeartbeats 4000000 in
theorem tl_X7_deciding_7 (o : OO) (x1 : Int) (x2 : Int) (x3 : Int) (i_x4 : Int) (i_x5 : Int) (hB_o : BoxC o) (k0 : 0 ≤ x1 ∧ x1 ≤ 7) (k1 : inR x2) (k2 : inR x3) (v0 : 0 ≤ i_x5 ∧ i_x5 ≤ o.1 28 3) (v1 : (i_x4 = -9 ∨ (0 ≤ i_x4 ∧ ¬ o.1 31 (i_x4 * 8 + x1).toNat = -1)) ∧ i_x4 < o.1 28 3) : T (loopW (fun s => l_X7_deciding_7 o x1 x2 x3 s.1 s.2) (i_x4, i_x5)) (fun r => ((r = -9 ∨ (0 ≤ r ∧ ¬ o.1 31 (r * 8 + x1).toNat = -1)) ∧ r < o.1 28 3)) := by
  refine T_loop (fun s => (0 ≤ s.2 ∧ s.2 ≤ o.1 28 3) ∧ ((s.1 = -9 ∨ (0 ≤ s.1 ∧ ¬ o.1 31 (s.1 * 8 + x1).toNat = -1)) ∧ s.1 < o.1 28 3)) (fun s => (o.1 28 3 - s.2).toNat) (by exact ⟨v0, v1⟩) (fun s hs => ?_)
  obtain ⟨x4, x5⟩ := s
  replace hs : (0 ≤ x5 ∧ x5 ≤ o.1 28 3) ∧ ((x4 = -9 ∨ (0 ≤ x4 ∧ ¬ o.1 31 (x4 * 8 + x1).toNat = -1)) ∧ x4 < o.1 28 3) := hs
  obtain ⟨w0, w1⟩ := hs
  have g28_3_o := bC_28_3 hB_o
  show T (l_X7_deciding_7 o x1 x2 x3 x4 x5) _
  unfold l_X7_deciding_7
  refine T_qLt ⟨by omega, by omega⟩ ⟨by omega, by omega⟩ (fun h1 => ?_) (fun h1 => ?_)
  ·
    refine T_qIn ⟨by omega, by omega⟩ ?_
    refine T_qNm (fun n2 e_n2 => ?_)
    have b_n2 : -1 ≤ n2 ∧ n2 ≤ 9999 := by rw [e_n2]; exact bC_31 hB_o _
    refine T_qEq ⟨by omega, by omega⟩ ⟨by decide, by decide⟩ (fun h2 => ?_) (fun h2 => ?_)
    ·
      unfold b_X7_deciding_88
      refine T_some ?_
      show ((0 ≤ (x5 + 1) ∧ (x5 + 1) ≤ o.1 28 3) ∧ ((x4 = -9 ∨ (0 ≤ x4 ∧ ¬ o.1 31 (x4 * 8 + x1).toNat = -1)) ∧ x4 < o.1 28 3)) ∧ (o.1 28 3 - (x5 + 1)).toNat < (o.1 28 3 - x5).toNat
      exact ⟨⟨(by omega), (by omega)⟩, by omega⟩
    ·
      refine T_qIn ⟨by omega, by omega⟩ ?_
      refine T_qNm (fun n4 e_n4 => ?_)
      have b_n4 : 0 ≤ n4 ∧ n4 ≤ 999 := by rw [e_n4]; exact bC_29 hB_o _
      refine T_qLt ⟨by omega, by omega⟩ ⟨by omega, by omega⟩ (fun h3 => ?_) (fun h3 => ?_)
      ·
        unfold b_X7_deciding_88
        refine T_some ?_
        show ((0 ≤ (x5 + 1) ∧ (x5 + 1) ≤ o.1 28 3) ∧ ((x4 = -9 ∨ (0 ≤ x4 ∧ ¬ o.1 31 (x4 * 8 + x1).toNat = -1)) ∧ x4 < o.1 28 3)) ∧ (o.1 28 3 - (x5 + 1)).toNat < (o.1 28 3 - x5).toNat
        exact ⟨⟨(by omega), (by omega)⟩, by omega⟩
      ·
        refine T_qIn ⟨by omega, by omega⟩ ?_
        refine T_qNm (fun n6 e_n6 => ?_)
        have b_n6 : 0 ≤ n6 ∧ n6 ≤ 999 := by rw [e_n6]; exact bC_30 hB_o _
        refine T_qLt ⟨by omega, by omega⟩ ⟨by omega, by omega⟩ (fun h4 => ?_) (fun h4 => ?_)
        ·
          unfold b_X7_deciding_88
          refine T_some ?_
          show ((0 ≤ (x5 + 1) ∧ (x5 + 1) ≤ o.1 28 3) ∧ ((x4 = -9 ∨ (0 ≤ x4 ∧ ¬ o.1 31 (x4 * 8 + x1).toNat = -1)) ∧ x4 < o.1 28 3)) ∧ (o.1 28 3 - (x5 + 1)).toNat < (o.1 28 3 - x5).toNat
          exact ⟨⟨(by omega), (by omega)⟩, by omega⟩
        ·
          refine T_qEq ⟨by omega, by omega⟩ ⟨by decide, by decide⟩ (fun h5 => ?_) (fun h5 => ?_)
          ·
            unfold b_X7_deciding_84
            unfold b_X7_deciding_88
            refine T_some ?_
            show ((0 ≤ (x5 + 1) ∧ (x5 + 1) ≤ o.1 28 3) ∧ ((x5 = -9 ∨ (0 ≤ x5 ∧ ¬ o.1 31 (x5 * 8 + x1).toNat = -1)) ∧ x5 < o.1 28 3)) ∧ (o.1 28 3 - (x5 + 1)).toNat < (o.1 28 3 - x5).toNat
            exact ⟨⟨(by omega), (by omega)⟩, by omega⟩
          ·
            refine T_qIn ⟨by omega, by omega⟩ ?_
            refine T_qNm (fun n8 e_n8 => ?_)
            have b_n8 : 0 ≤ n8 ∧ n8 ≤ 999 := by rw [e_n8]; exact bC_30 hB_o _
            refine T_qIn ⟨by omega, by omega⟩ ?_
            refine T_qNm (fun n10 e_n10 => ?_)
            have b_n10 : 0 ≤ n10 ∧ n10 ≤ 999 := by rw [e_n10]; exact bC_30 hB_o _
            refine T_qLt ⟨by omega, by omega⟩ ⟨by omega, by omega⟩ (fun h6 => ?_) (fun h6 => ?_)
            ·
              unfold b_X7_deciding_88
              refine T_some ?_
              show ((0 ≤ (x5 + 1) ∧ (x5 + 1) ≤ o.1 28 3) ∧ ((x4 = -9 ∨ (0 ≤ x4 ∧ ¬ o.1 31 (x4 * 8 + x1).toNat = -1)) ∧ x4 < o.1 28 3)) ∧ (o.1 28 3 - (x5 + 1)).toNat < (o.1 28 3 - x5).toNat
              exact ⟨⟨(by omega), (by omega)⟩, by omega⟩
            ·
              unfold b_X7_deciding_84
              unfold b_X7_deciding_88
              refine T_some ?_
              show ((0 ≤ (x5 + 1) ∧ (x5 + 1) ≤ o.1 28 3) ∧ ((x5 = -9 ∨ (0 ≤ x5 ∧ ¬ o.1 31 (x5 * 8 + x1).toNat = -1)) ∧ x5 < o.1 28 3)) ∧ (o.1 28 3 - (x5 + 1)).toNat < (o.1 28 3 - x5).toNat
              exact ⟨⟨(by omega), (by omega)⟩, by omega⟩
  ·
    refine T_some ?_
    show ((x4 = -9 ∨ (0 ≤ x4 ∧ ¬ o.1 31 (x4 * 8 + x1).toNat = -1)) ∧ x4 < o.1 28 3)
    exact (by omega)
set_option maxRecDepth 20000 in
set_option maxHeartbeats 4000000 in
theorem t_X7_deciding (o : OO) (x1 : Int) (x2 : Int) (x3 : Int) (hB_o : BoxC o) (k0 : 0 ≤ x1 ∧ x1 ≤ 7) (k1 : inR x2) (k2 : inR x3) : T (s_X7_deciding o x1 x2 x3) (fun v => ((v = -9 ∨ (0 ≤ v ∧ ¬ o.1 31 (v * 8 + x1).toNat = -1)) ∧ v < o.1 28 3)) := by
  have g28_3_o := bC_28_3 hB_o
  unfold s_X7_deciding
  unfold e_X7_deciding_7
  refine T_qB (tl_X7_deciding_7 o x1 x2 x3 (-9) 0 hB_o (by omega) (by omega) (by omega) (by omega) (by omega)) (fun r7 hc_r7 hp8 => ?_)
  obtain ⟨x4_9, q_x4_9⟩ : ∃ q, q = r7 := ⟨_, rfl⟩
  subst q_x4_9
  replace hp8 : ((x4_9 = -9 ∨ (0 ≤ x4_9 ∧ ¬ o.1 31 (x4_9 * 8 + x1).toNat = -1)) ∧ x4_9 < o.1 28 3) := hp8
  show T (b_X7_deciding_94 o x4_9) _
  unfold b_X7_deciding_94
  refine T_some ?_
  show ((x4_9 = -9 ∨ (0 ≤ x4_9 ∧ ¬ o.1 31 (x4_9 * 8 + x1).toNat = -1)) ∧ x4_9 < o.1 28 3)
  exact (by omega)
set_option maxRecDepth 20000 in
set_option maxHeartbeats 4000000 in
theorem t_X7_valueFor (o : OO) (x1 : Int) (x2 : Int) (x3 : Int) (hB_o : BoxC o) (k0 : 0 ≤ x1 ∧ x1 ≤ 7) (k1 : inR x2) (k2 : inR x3) : T (s_X7_valueFor o x1 x2 x3) (fun v => (0 ≤ v ∧ v ≤ 9999)) := by
  have g28_3_o := bC_28_3 hB_o
  unfold s_X7_valueFor
  refine T_qB (t_X7_deciding o x1 x2 x3 hB_o (by omega) (by omega) (by omega)) (fun r1 hc_r1 hp1 => ?_)
  replace hp1 : ((r1 = -9 ∨ (0 ≤ r1 ∧ ¬ o.1 31 (r1 * 8 + x1).toNat = -1)) ∧ r1 < o.1 28 3) := hp1
  refine T_qEq ⟨by omega, by omega⟩ ⟨by decide, by decide⟩ (fun h2 => ?_) (fun h2 => ?_)
  ·
    refine T_qIn ⟨by omega, by omega⟩ ?_
    refine T_qNm (fun n6 e_n6 => ?_)
    have b_n6 : 0 ≤ n6 ∧ n6 ≤ 100 := by rw [e_n6]; exact defaultsN_rng _
    unfold b_X7_valueFor_36
    refine T_some ?_
    show (0 ≤ n6 ∧ n6 ≤ 9999)
    exact (by omega)
  ·
    refine T_qIn ⟨by omega, by omega⟩ ?_
    refine T_qNm (fun n4 e_n4 => ?_)
    have b_n4 : -1 ≤ n4 ∧ n4 ≤ 9999 := by rw [e_n4]; exact bC_31 hB_o _
    unfold b_X7_valueFor_36
    refine T_some ?_
    show (0 ≤ n4 ∧ n4 ≤ 9999)
    exact (by omega)
set_option maxRecDepth 20000 in
set_option maxHeartbeats 4000000 in
theorem t_X11_inForce (o : OO) (x1 : Int) (hB_o : BoxC o) (k0 : 0 ≤ x1 ∧ x1 ≤ 7) : T (s_X11_inForce o x1) (fun v => (0 ≤ v ∧ v ≤ 9999)) := by
  have g0_13_o := bC_0_13 hB_o
  unfold s_X11_inForce
  refine T_qB (t_X7_valueFor o x1 (o.1 0 13) (o.1 0 13) hB_o (by omega) (by omega) (by omega)) (fun r1 hc_r1 hp1 => ?_)
  replace hp1 : (0 ≤ r1 ∧ r1 ≤ 9999) := hp1
  refine T_some ?_
  show (0 ≤ r1 ∧ r1 ≤ 9999)
  exact (by omega)
set_option maxRecDepth 20000 in
set_option maxHeartbeats 4000000 in
theorem t_X3_spreadAside (z0 : Int64)  : T (s_X3_spreadAside z0) (fun _ => True) := by
  unfold s_X3_spreadAside
  refine T_some ?_
  show True
  exact trivial
set_option maxRecDepth 20000 in
set_option maxHeartbeats 4000000 in
theorem t_X3_spread (z0 : Int64)  : T (s_X3_spread z0) (fun _ => True) := by
  unfold s_X3_spread
  refine T_qB (t_X3_spreadAside z0) (fun p1 hc_p1 hp1 => ?_)
  refine T_some ?_
  show True
  exact trivial
set_option maxRecDepth 20000 in
set_option maxHeartbeats 4000000 in
theorem tl_X11_loudCells_25 (o : OO) (x2 : Int) (x3 : Int) (i_z4 : Int64) (i_z6 : Int64) (i_z8 : Int64) (i_x10 : Int) (hB_o : BoxC o) (k0 : 0 ≤ x2 ∧ x2 ≤ 5) (k1 : 0 ≤ x3 ∧ x3 ≤ 9999) (v0 : 0 ≤ i_x10 ∧ i_x10 ≤ 40) : T (loopW (fun s => l_X11_loudCells_25 o x2 x3 s.1 s.2.1 s.2.2.1 s.2.2.2) (i_z4, i_z6, i_z8, i_x10)) (fun r => True) := by
  refine T_loop (fun s => (0 ≤ s.2.2.2 ∧ s.2.2.2 ≤ 40)) (fun s => (40 - s.2.2.2).toNat) (by exact v0) (fun s hs => ?_)
  obtain ⟨z4, z6, z8, x10⟩ := s
  replace hs : (0 ≤ x10 ∧ x10 ≤ 40) := hs
  have w0 := hs
  show T (l_X11_loudCells_25 o x2 x3 z4 z6 z8 x10) _
  unfold l_X11_loudCells_25
  refine T_qB (t_X8_sizeOf o x2 hB_o (by omega)) (fun r3 hc_r3 hp1 => ?_)
  replace hp1 : (r3 = o.1 2 x2.toNat) ∧ (-1 ≤ r3 ∧ r3 ≤ 40) := hp1
  have hps_hp1 := hp1
  obtain ⟨hp1_0, hp1_1⟩ := hps_hp1
  replace hp1 := hid hp1
  refine T_qLt ⟨by omega, by omega⟩ ⟨by omega, by omega⟩ (fun h2 => ?_) (fun h2 => ?_)
  ·
    refine T_qLt ⟨by decide, by decide⟩ ⟨by omega, by omega⟩ (fun h3 => ?_) (fun h3 => ?_)
    ·
      refine T_some ?_
      show True
      exact trivial
    ·
      refine T_qB (t_X8_at o x2 x10 hB_o (by omega)) (fun r5 hc_r5 hp4 => ?_)
      replace hp4 : (r5 = o.1 3 (x2 * 40 + x10).toNat) ∧ (inR r5) := hp4
      have hps_hp4 := hp4
      obtain ⟨hp4_0, hp4_1⟩ := hps_hp4
      replace hp4 := hid hp4
      refine T_qLt ⟨by omega, by omega⟩ ⟨by omega, by omega⟩ (fun h5 => ?_) (fun h5 => ?_)
      ·
        refine T_qNm (fun m7 e_m7 => ?_)
        unfold b_X11_loudCells_73
        refine T_qB (t_X3_spread z8) (fun p1 hc_p1 hp6 => ?_)
        refine T_some ?_
        show ((0 ≤ (x10 + 1) ∧ (x10 + 1) ≤ 40)) ∧ (40 - (x10 + 1)).toNat < (40 - x10).toNat
        exact ⟨(by omega), by omega⟩
      ·
        unfold b_X11_loudCells_73
        refine T_qB (t_X3_spread z8) (fun p1 hc_p1 hp7 => ?_)
        refine T_some ?_
        show ((0 ≤ (x10 + 1) ∧ (x10 + 1) ≤ 40)) ∧ (40 - (x10 + 1)).toNat < (40 - x10).toNat
        exact ⟨(by omega), by omega⟩
  ·
    refine T_some ?_
    show True
    exact trivial
set_option maxRecDepth 20000 in
set_option maxHeartbeats 4000000 in
theorem t_X11_loudCells (o : OO) (x1 : Int) (x2 : Int) (hB_o : BoxC o) (k0 : 0 ≤ x1 ∧ x1 ≤ 23) (k1 : 0 ≤ x2 ∧ x2 ≤ 5) : T (s_X11_loudCells o x1 x2) (fun _ => True) := by
  unfold s_X11_loudCells
  refine T_qB (t_X11_inForce o 5 hB_o (by omega)) (fun r8 hc_r8 hp8 => ?_)
  replace hp8 : (0 ≤ r8 ∧ r8 ≤ 9999) := hp8
  refine T_qNm (fun m10 e_m10 => ?_)
  refine T_qNm (fun m11 e_m11 => ?_)
  refine T_qB (t_X4_cells o x1 hB_o (by omega)) (fun p12 hc_p12 hp9 => ?_)
  unfold e_X11_loudCells_25
  refine T_qB (tl_X11_loudCells_25 o x2 r8 m10 m11 p12 0 hB_o (by omega) (by omega) (by omega)) (fun r10 hc_r10 hp11 => ?_)
  obtain ⟨z4_12, q_z4_12⟩ : ∃ q, q = r10 := ⟨_, rfl⟩
  subst q_z4_12
  show T (b_X11_loudCells_90 o z4_12) _
  unfold b_X11_loudCells_90
  refine T_some ?_
  show True
  exact trivial
set_option maxRecDepth 20000 in
set_option maxHeartbeats 4000000 in
theorem t_X1_stands (o : OO) (x1 : Int) (x2 : Int) (hB_o : BoxC o) (k0 : 0 ≤ x1 ∧ x1 ≤ 31) (k1 : inR x2) : T (s_X1_stands o x1 x2) (fun v => (0 ≤ v ∧ v ≤ 1)) := by
  unfold s_X1_stands
  refine T_qIn ⟨by omega, by omega⟩ ?_
  refine T_qNm (fun n2 e_n2 => ?_)
  have b_n2 : 0 ≤ n2 ∧ n2 ≤ 1 := by rw [e_n2]; exact bC_17 hB_o _
  refine T_qEq ⟨by omega, by omega⟩ ⟨by decide, by decide⟩ (fun h1 => ?_) (fun h1 => ?_)
  ·
    refine T_qIn ⟨by omega, by omega⟩ ?_
    refine T_qNm (fun n4 e_n4 => ?_)
    have b_n4 : 0 ≤ n4 ∧ n4 ≤ 2 := by rw [e_n4]; exact bC_12 hB_o _
    refine T_qEq ⟨by omega, by omega⟩ ⟨by omega, by omega⟩ (fun h2 => ?_) (fun h2 => ?_)
    ·
      unfold b_X1_stands_24
      refine T_qZ (Or.inr rfl) ?_
      refine T_some ?_
      show (0 ≤ 1 ∧ 1 ≤ 1)
      exact (by omega)
    ·
      unfold b_X1_stands_23
      unfold b_X1_stands_24
      refine T_qZ (Or.inl rfl) ?_
      refine T_some ?_
      show (0 ≤ 0 ∧ 0 ≤ 1)
      exact (by omega)
  ·
    unfold b_X1_stands_23
    unfold b_X1_stands_24
    refine T_qZ (Or.inl rfl) ?_
    refine T_some ?_
    show (0 ≤ 0 ∧ 0 ≤ 1)
    exact (by omega)
set_option maxRecDepth 20000 in
set_option maxHeartbeats 4000000 in
theorem tl_X1_housesIn_5 (o : OO) (z1 : Int64) (i_x3 : Int) (i_x4 : Int) (hB_o : BoxC o) (v0 : 0 ≤ i_x3 ∧ i_x3 ≤ i_x4) (v1 : 0 ≤ i_x4 ∧ i_x4 ≤ o.1 10 12) : T (loopW (fun s => l_X1_housesIn_5 o z1 s.1 s.2) (i_x3, i_x4)) (fun r => (0 ≤ r ∧ r ≤ o.1 10 12)) := by
  refine T_loop (fun s => (0 ≤ s.1 ∧ s.1 ≤ s.2) ∧ (0 ≤ s.2 ∧ s.2 ≤ o.1 10 12)) (fun s => (o.1 10 12 - s.2).toNat) (by exact ⟨v0, v1⟩) (fun s hs => ?_)
  obtain ⟨x3, x4⟩ := s
  replace hs : (0 ≤ x3 ∧ x3 ≤ x4) ∧ (0 ≤ x4 ∧ x4 ≤ o.1 10 12) := hs
  obtain ⟨w0, w1⟩ := hs
  have g10_12_o := bC_10_12 hB_o
  show T (l_X1_housesIn_5 o z1 x3 x4) _
  unfold l_X1_housesIn_5
  refine T_qLt ⟨by omega, by omega⟩ ⟨by omega, by omega⟩ (fun h1 => ?_) (fun h1 => ?_)
  ·
    refine T_qB (t_X1_stands o x4 0 hB_o (by omega) (by omega)) (fun r1 hc_r1 hp2 => ?_)
    replace hp2 : (0 ≤ r1 ∧ r1 ≤ 1) := hp2
    refine T_qEq ⟨by omega, by omega⟩ ⟨by decide, by decide⟩ (fun h3 => ?_) (fun h3 => ?_)
    ·
      unfold b_X1_housesIn_41
      refine T_some ?_
      show ((0 ≤ x3 ∧ x3 ≤ (x4 + 1)) ∧ (0 ≤ (x4 + 1) ∧ (x4 + 1) ≤ o.1 10 12)) ∧ (o.1 10 12 - (x4 + 1)).toNat < (o.1 10 12 - x4).toNat
      exact ⟨⟨(by omega), (by omega)⟩, by omega⟩
    ·
      refine T_qIn ⟨by omega, by omega⟩ ?_
      refine T_qNm (fun n4 e_n4 => ?_)
      have b_n4 : 0 ≤ n4 ∧ n4 ≤ 63 := by rw [e_n4]; exact bC_11 hB_o _
      refine T_qB (t_X3_has z1 n4) (fun r5 hc_r5 hp4 => ?_)
      replace hp4 : (0 ≤ r5 ∧ r5 ≤ 1) ∧ (HBT z1 n4 r5) := hp4
      have hps_hp4 := hp4
      obtain ⟨hp4_0, hp4_1⟩ := hps_hp4
      replace hp4 := hid hp4
      refine T_qEq ⟨by omega, by omega⟩ ⟨by decide, by decide⟩ (fun h5 => ?_) (fun h5 => ?_)
      ·
        unfold b_X1_housesIn_41
        refine T_some ?_
        show ((0 ≤ x3 ∧ x3 ≤ (x4 + 1)) ∧ (0 ≤ (x4 + 1) ∧ (x4 + 1) ≤ o.1 10 12)) ∧ (o.1 10 12 - (x4 + 1)).toNat < (o.1 10 12 - x4).toNat
        exact ⟨⟨(by omega), (by omega)⟩, by omega⟩
      ·
        unfold b_X1_housesIn_41
        refine T_some ?_
        show ((0 ≤ (x3 + 1) ∧ (x3 + 1) ≤ (x4 + 1)) ∧ (0 ≤ (x4 + 1) ∧ (x4 + 1) ≤ o.1 10 12)) ∧ (o.1 10 12 - (x4 + 1)).toNat < (o.1 10 12 - x4).toNat
        exact ⟨⟨(by omega), (by omega)⟩, by omega⟩
  ·
    refine T_some ?_
    show (0 ≤ x3 ∧ x3 ≤ o.1 10 12)
    exact (by omega)
set_option maxRecDepth 20000 in
set_option maxHeartbeats 4000000 in
theorem t_X1_housesIn (o : OO) (z1 : Int64) (hB_o : BoxC o) : T (s_X1_housesIn o z1) (fun v => (0 ≤ v ∧ v ≤ 32)) := by
  have g10_12_o := bC_10_12 hB_o
  unfold s_X1_housesIn
  unfold e_X1_housesIn_5
  refine T_qB (tl_X1_housesIn_5 o z1 0 0 hB_o (by omega) (by omega)) (fun r6 hc_r6 hp7 => ?_)
  obtain ⟨x3_8, q_x3_8⟩ : ∃ q, q = r6 := ⟨_, rfl⟩
  subst q_x3_8
  replace hp7 : (0 ≤ x3_8 ∧ x3_8 ≤ o.1 10 12) := hp7
  show T (b_X1_housesIn_47 o x3_8) _
  unfold b_X1_housesIn_47
  refine T_some ?_
  show (0 ≤ x3_8 ∧ x3_8 ≤ 32)
  exact (by omega)
set_option maxRecDepth 20000 in
set_option maxHeartbeats 4000000 in
theorem t_X11_weigh (o : OO) (x1 : Int) (x2 : Int) (x3 : Int) (hB_o : BoxC o) (k0 : 0 ≤ x1 ∧ x1 ≤ 23) (k1 : 0 ≤ x2 ∧ x2 ≤ 5) (k2 : 0 ≤ x3 ∧ x3 ≤ 5) (k3 : WC o x2 4) : T (s_X11_weigh o x1 x2 x3) (fun v => (inR v)) := by
  unfold s_X11_weigh
  refine T_qB (t_X4_cells o x1 hB_o (by omega)) (fun p1 hc_p1 hp1 => ?_)
  refine T_qB (t_X8_at o x2 0 hB_o (by omega)) (fun r3 hc_r3 hp2 => ?_)
  replace hp2 : (r3 = o.1 3 (x2 * 40 + 0).toNat) ∧ (inR r3) := hp2
  have hps_hp2 := hp2
  obtain ⟨hp2_0, hp2_1⟩ := hps_hp2
  replace hp2 := hid hp2
  have q3 := k3 0 (by decide) (by decide)
  refine T_qB (t_X4_costOf o x1 hB_o (by omega)) (fun r5 hc_r5 hp3 => ?_)
  replace hp3 : (0 ≤ r5 ∧ r5 ≤ 1000000) := hp3
  refine T_qB (t_X8_at o x2 1 hB_o (by omega)) (fun r7 hc_r7 hp4 => ?_)
  replace hp4 : (r7 = o.1 3 (x2 * 40 + 1).toNat) ∧ (inR r7) := hp4
  have hps_hp4 := hp4
  obtain ⟨hp4_0, hp4_1⟩ := hps_hp4
  replace hp4 := hid hp4
  have q7 := k3 1 (by decide) (by decide)
  refine T_qB (t_X1_dwellersIn o p1 hB_o) (fun r9 hc_r9 hp5 => ?_)
  replace hp5 : (0 ≤ r9 ∧ r9 ≤ 1280) := hp5
  refine T_qB (t_X8_at o x2 2 hB_o (by omega)) (fun r11 hc_r11 hp6 => ?_)
  replace hp6 : (r11 = o.1 3 (x2 * 40 + 2).toNat) ∧ (inR r11) := hp6
  have hps_hp6 := hp6
  obtain ⟨hp6_0, hp6_1⟩ := hps_hp6
  replace hp6 := hid hp6
  have q11 := k3 2 (by decide) (by decide)
  refine T_qB (t_X3_parksIn o p1 hB_o) (fun r13 hc_r13 hp7 => ?_)
  replace hp7 : (0 ≤ r13 ∧ r13 ≤ 64) := hp7
  refine T_qB (t_X8_at o x2 3 hB_o (by omega)) (fun r15 hc_r15 hp8 => ?_)
  replace hp8 : (r15 = o.1 3 (x2 * 40 + 3).toNat) ∧ (inR r15) := hp8
  have hps_hp8 := hp8
  obtain ⟨hp8_0, hp8_1⟩ := hps_hp8
  replace hp8 := hid hp8
  have q15 := k3 3 (by decide) (by decide)
  refine T_qB (t_X11_loudCells o x1 x3 hB_o (by omega) (by omega)) (fun p17 hc_p17 hp9 => ?_)
  refine T_qB (t_X1_housesIn o p17 hB_o) (fun r19 hc_r19 hp10 => ?_)
  replace hp10 : (0 ≤ r19 ∧ r19 ≤ 32) := hp10
  have m0 := mul_rng (a := r3) (b := r5) (A := 100) (B := 1000000) (by omega) (by omega) (by omega) (by omega)
  have m1 := mul_rng (a := r7) (b := r9) (A := 100) (B := 1280) (by omega) (by omega) (by omega) (by omega)
  have m2 := mul_rng (a := r11) (b := r13) (A := 100) (B := 64) (by omega) (by omega) (by omega) (by omega)
  have m3 := mul_rng (a := r15) (b := r19) (A := 100) (B := 32) (by omega) (by omega) (by omega) (by omega)
  refine T_some ?_
  show (inR ((((r3 * r5) + (r7 * r9)) + (r11 * r13)) + (r15 * r19)))
  exact (by omega)
set_option maxRecDepth 20000 in
set_option maxHeartbeats 4000000 in
theorem tl_X11_best_51 (o : OO) (x1 : Int) (x2 : Int) (i_x4 : Int) (i_x5 : Int) (i_x6 : Int) (hB_o : BoxC o) (k0 : inR x1) (k1 : inR x2) (k2 : 0 ≤ x1 ∧ x1 ≤ 5) (k3 : 0 ≤ x2 ∧ x2 ≤ 5) (k4 : WC o x1 4) (v0 : 0 ≤ i_x6 ∧ i_x6 ≤ o.1 32 13) (v1 : -9 ≤ i_x4 ∧ i_x4 ≤ 23) (v2 : inR i_x5) : T (loopW (fun s => l_X11_best_51 o x1 x2 s.1 s.2.1 s.2.2) (i_x4, i_x5, i_x6)) (fun r => (inR r.2) ∧ (-9 ≤ r.1 ∧ r.1 ≤ 23)) := by
  refine T_loop (fun s => (0 ≤ s.2.2 ∧ s.2.2 ≤ o.1 32 13) ∧ (-9 ≤ s.1 ∧ s.1 ≤ 23) ∧ (inR s.2.1)) (fun s => (o.1 32 13 - s.2.2).toNat) (by exact ⟨v0, v1, v2⟩) (fun s hs => ?_)
  obtain ⟨x4, x5, x6⟩ := s
  replace hs : (0 ≤ x6 ∧ x6 ≤ o.1 32 13) ∧ (-9 ≤ x4 ∧ x4 ≤ 23) ∧ (inR x5) := hs
  obtain ⟨w0, w1, w2⟩ := hs
  have g32_13_o := bC_32_13 hB_o
  show T (l_X11_best_51 o x1 x2 x4 x5 x6) _
  unfold l_X11_best_51
  refine T_qB (t_X4_number o hB_o) (fun r4 hc_r4 hp1 => ?_)
  replace hp1 : (r4 = o.1 32 13) := hp1
  refine T_qLt ⟨by omega, by omega⟩ ⟨by omega, by omega⟩ (fun h2 => ?_) (fun h2 => ?_)
  ·
    refine T_qB (t_X4_kindOf o x6 hB_o (by omega)) (fun r6 hc_r6 hp3 => ?_)
    replace hp3 : (0 ≤ r6 ∧ r6 ≤ 6) := hp3
    refine T_qEq ⟨by omega, by omega⟩ ⟨by decide, by decide⟩ (fun h4 => ?_) (fun h4 => ?_)
    ·
      refine T_qB (t_X11_weigh o x6 x1 x2 hB_o (by omega) (by omega) (by omega) (by first | assumption | exact hw9.elim (fun q => absurd (by omega) q) (fun q => q))) (fun r8 hc_r8 hp5 => ?_)
      replace hp5 : (inR r8) := hp5
      refine T_qEq ⟨by omega, by omega⟩ ⟨by decide, by decide⟩ (fun h6 => ?_) (fun h6 => ?_)
      ·
        unfold b_X11_best_106
        unfold b_X11_best_114
        refine T_some ?_
        show ((0 ≤ (x6 + 1) ∧ (x6 + 1) ≤ o.1 32 13) ∧ (-9 ≤ x6 ∧ x6 ≤ 23) ∧ (inR r8)) ∧ (o.1 32 13 - (x6 + 1)).toNat < (o.1 32 13 - x6).toNat
        exact ⟨⟨(by omega), (by omega), (by omega)⟩, by omega⟩
      ·
        refine T_qLt ⟨by omega, by omega⟩ ⟨by omega, by omega⟩ (fun h7 => ?_) (fun h7 => ?_)
        ·
          unfold b_X11_best_106
          unfold b_X11_best_114
          refine T_some ?_
          show ((0 ≤ (x6 + 1) ∧ (x6 + 1) ≤ o.1 32 13) ∧ (-9 ≤ x6 ∧ x6 ≤ 23) ∧ (inR r8)) ∧ (o.1 32 13 - (x6 + 1)).toNat < (o.1 32 13 - x6).toNat
          exact ⟨⟨(by omega), (by omega), (by omega)⟩, by omega⟩
        ·
          unfold b_X11_best_114
          refine T_some ?_
          show ((0 ≤ (x6 + 1) ∧ (x6 + 1) ≤ o.1 32 13) ∧ (-9 ≤ x4 ∧ x4 ≤ 23) ∧ (inR x5)) ∧ (o.1 32 13 - (x6 + 1)).toNat < (o.1 32 13 - x6).toNat
          exact ⟨⟨(by omega), (by omega), (by omega)⟩, by omega⟩
    ·
      unfold b_X11_best_114
      refine T_some ?_
      show ((0 ≤ (x6 + 1) ∧ (x6 + 1) ≤ o.1 32 13) ∧ (-9 ≤ x4 ∧ x4 ≤ 23) ∧ (inR x5)) ∧ (o.1 32 13 - (x6 + 1)).toNat < (o.1 32 13 - x6).toNat
      exact ⟨⟨(by omega), (by omega), (by omega)⟩, by omega⟩
  ·
    refine T_some ?_
    show (inR x5) ∧ (-9 ≤ x4 ∧ x4 ≤ 23)
    exact ⟨(by omega), (by omega)⟩
set_option maxRecDepth 20000 in
set_option maxHeartbeats 4000000 in
theorem t_X11_best (o : OO) (x1 : Int) (x2 : Int) (hB_o : BoxC o) (k0 : inR x1) (k1 : inR x2) : T (s_X11_best o x1 x2) (fun v => BoxC v.2 ∧ (Fr [(0, 14), (0, 17), (77, 9999)] o v.2)) := by
  have fr_o : Fr [(0, 14), (0, 17), (77, 9999)] o o := Fr.rf
  have g32_13_o := bC_32_13 hB_o
  unfold s_X11_best
  refine T_qB (t_X8_exists o x1 hB_o (by omega)) (fun r10 hc_r10 hp8 => ?_)
  replace hp8 : ((r10 = 1 ∧ (0 ≤ x1 ∧ x1 < 6)) ∨ (r10 = 0 ∧ ¬ (0 ≤ x1 ∧ x1 < 6))) := hp8
  refine T_qEq ⟨by omega, by omega⟩ ⟨by decide, by decide⟩ (fun h9 => ?_) (fun h9 => ?_)
  ·
    unfold b_X11_best_22
    refine T_some ?_
    show BoxC o ∧ (Fr [(0, 14), (0, 17), (77, 9999)] o o)
    exact ⟨hB_o, fr_o⟩
  ·
    refine T_qB (t_X8_exists o x2 hB_o (by omega)) (fun r12 hc_r12 hp10 => ?_)
    replace hp10 : ((r12 = 1 ∧ (0 ≤ x2 ∧ x2 < 6)) ∨ (r12 = 0 ∧ ¬ (0 ≤ x2 ∧ x2 < 6))) := hp10
    refine T_qEq ⟨by omega, by omega⟩ ⟨by decide, by decide⟩ (fun h11 => ?_) (fun h11 => ?_)
    ·
      unfold b_X11_best_22
      refine T_some ?_
      show BoxC o ∧ (Fr [(0, 14), (0, 17), (77, 9999)] o o)
      exact ⟨hB_o, fr_o⟩
    ·
      refine T_qB (t_X11_weighingFault o x1 x2 hB_o (by omega) (by omega)) (fun r14 hc_r14 hp12 => ?_)
      replace hp12 : ((r14 = 0 ∧ WC o x1 4) ∨ (1 ≤ r14 ∧ r14 ≤ 5)) := hp12
      have hw9 : ¬ r14 = 0 ∨ WC o x1 4 := hp12.elim (fun q => Or.inr q.2) (fun q => Or.inl (by omega))
      refine T_qEq ⟨by omega, by omega⟩ ⟨by decide, by decide⟩ (fun h13 => ?_) (fun h13 => ?_)
      ·
        unfold e_X11_best_51
        refine T_qB (tl_X11_best_51 o x1 x2 (-9) 0 0 hB_o (by omega) (by omega) (by omega) (by omega) (by first | assumption | exact hw9.elim (fun q => absurd (by omega) q) (fun q => q)) (by omega) (by omega) (by omega)) (fun r14 hc_r14 hp15 => ?_)
        obtain ⟨x4_16, x5_17⟩ := r14
        replace hp15 : (inR x5_17) ∧ (-9 ≤ x4_16 ∧ x4_16 ≤ 23) := hp15
        have hps_hp15 := hp15
        obtain ⟨hp15_0, hp15_1⟩ := hps_hp15
        replace hp15 := hid hp15
        show T (b_X11_best_120 o x4_16 x5_17) _
        unfold b_X11_best_120
        refine T_qEq ⟨by omega, by omega⟩ ⟨by decide, by decide⟩ (fun h18 => ?_) (fun h18 => ?_)
        ·
          unfold b_X11_best_134
          refine T_some ?_
          show BoxC o ∧ (Fr [(0, 14), (0, 17), (77, 9999)] o o)
          exact ⟨hB_o, fr_o⟩
        ·
          refine T_qB2 (t_X11_tell o x5_17 hB_o) (fun r1 o3 hc_r1 hp19 => ?_)
          replace hp19 : BoxC o3 ∧ (Fr [(0, 14)] o o3) ∧ (r1 = 1) := hp19
          obtain ⟨hB_o3, fc_o3, hp19⟩ := hp19
          have fr_o3 : Fr [(0, 14), (0, 17), (77, 9999)] o o3 := Fr.tr fr_o fc_o3 rfl
          have g32_13_o3 : o3.1 32 13 = o.1 32 13 := fc_o3.1 32 13 rfl
          unfold b_X11_best_134
          refine T_some ?_
          show BoxC o3 ∧ (Fr [(0, 14), (0, 17), (77, 9999)] o o3)
          exact ⟨hB_o3, fr_o3⟩
      ·
        refine T_qB2 (t_X11_found o r14 hB_o (by omega)) (fun r16 o18 hc_r16 hp20 => ?_)
        replace hp20 : BoxC o18 ∧ (Fr [(0, 17), (77, 9999)] o o18) ∧ (r16 = -3) := hp20
        obtain ⟨hB_o18, fc_o18, hp20⟩ := hp20
        have fr_o18 : Fr [(0, 14), (0, 17), (77, 9999)] o o18 := Fr.tr fr_o fc_o18 rfl
        have g32_13_o18 : o18.1 32 13 = o.1 32 13 := fc_o18.1 32 13 rfl
        refine T_some ?_
        show BoxC o18 ∧ (Fr [(0, 14), (0, 17), (77, 9999)] o o18)
        exact ⟨hB_o18, fr_o18⟩
set_option maxRecDepth 20000 in
set_option maxHeartbeats 4000000 in
theorem t_X3_isCell (x0 : Int) (k0 : inR x0) : T (s_X3_isCell x0) (fun v => ((v = 1 ∧ (0 ≤ x0 ∧ x0 < 64)) ∨ (v = 0 ∧ ¬ (0 ≤ x0 ∧ x0 < 64)))) := by
  unfold s_X3_isCell
  refine T_qLt ⟨by omega, by omega⟩ ⟨by decide, by decide⟩ (fun h1 => ?_) (fun h1 => ?_)
  ·
    unfold b_X3_isCell_14
    unfold b_X3_isCell_15
    refine T_qZ (Or.inl rfl) ?_
    refine T_some ?_
    show ((0 = 1 ∧ (0 ≤ x0 ∧ x0 < 64)) ∨ (0 = 0 ∧ ¬ (0 ≤ x0 ∧ x0 < 64)))
    exact (by omega)
  ·
    refine T_qLt ⟨by omega, by omega⟩ ⟨by decide, by decide⟩ (fun h2 => ?_) (fun h2 => ?_)
    ·
      unfold b_X3_isCell_15
      refine T_qZ (Or.inr rfl) ?_
      refine T_some ?_
      show ((1 = 1 ∧ (0 ≤ x0 ∧ x0 < 64)) ∨ (1 = 0 ∧ ¬ (0 ≤ x0 ∧ x0 < 64)))
      exact (by omega)
    ·
      unfold b_X3_isCell_14
      unfold b_X3_isCell_15
      refine T_qZ (Or.inl rfl) ?_
      refine T_some ?_
      show ((0 = 1 ∧ (0 ≤ x0 ∧ x0 < 64)) ∨ (0 = 0 ∧ ¬ (0 ≤ x0 ∧ x0 < 64)))
      exact (by omega)
set_option maxRecDepth 20000 in
set_option maxHeartbeats 4000000 in
theorem t_X1_isUse (x0 : Int) (k0 : inR x0) : T (s_X1_isUse x0) (fun v => ((v = 1 ∧ (0 ≤ x0 ∧ x0 ≤ 2)) ∨ (v = 0 ∧ ¬ (0 ≤ x0 ∧ x0 ≤ 2)))) := by
  unfold s_X1_isUse
  refine T_qLt ⟨by omega, by omega⟩ ⟨by decide, by decide⟩ (fun h1 => ?_) (fun h1 => ?_)
  ·
    unfold b_X1_isUse_13
    unfold b_X1_isUse_14
    refine T_qZ (Or.inl rfl) ?_
    refine T_some ?_
    show ((0 = 1 ∧ (0 ≤ x0 ∧ x0 ≤ 2)) ∨ (0 = 0 ∧ ¬ (0 ≤ x0 ∧ x0 ≤ 2)))
    exact (by omega)
  ·
    refine T_qLt ⟨by decide, by decide⟩ ⟨by omega, by omega⟩ (fun h2 => ?_) (fun h2 => ?_)
    ·
      unfold b_X1_isUse_13
      unfold b_X1_isUse_14
      refine T_qZ (Or.inl rfl) ?_
      refine T_some ?_
      show ((0 = 1 ∧ (0 ≤ x0 ∧ x0 ≤ 2)) ∨ (0 = 0 ∧ ¬ (0 ≤ x0 ∧ x0 ≤ 2)))
      exact (by omega)
    ·
      unfold b_X1_isUse_14
      refine T_qZ (Or.inr rfl) ?_
      refine T_some ?_
      show ((1 = 1 ∧ (0 ≤ x0 ∧ x0 ≤ 2)) ∨ (1 = 0 ∧ ¬ (0 ≤ x0 ∧ x0 ≤ 2)))
      exact (by omega)
set_option maxRecDepth 20000 in
set_option maxHeartbeats 4000000 in
theorem t_X1_isWorth (x0 : Int) (k0 : inR x0) : T (s_X1_isWorth x0) (fun v => ((v = 1 ∧ (1 ≤ x0 ∧ x0 ≤ 100000)) ∨ (v = 0 ∧ ¬ (1 ≤ x0 ∧ x0 ≤ 100000)))) := by
  unfold s_X1_isWorth
  refine T_qLt ⟨by omega, by omega⟩ ⟨by decide, by decide⟩ (fun h1 => ?_) (fun h1 => ?_)
  ·
    unfold b_X1_isWorth_15
    unfold b_X1_isWorth_16
    refine T_qZ (Or.inl rfl) ?_
    refine T_some ?_
    show ((0 = 1 ∧ (1 ≤ x0 ∧ x0 ≤ 100000)) ∨ (0 = 0 ∧ ¬ (1 ≤ x0 ∧ x0 ≤ 100000)))
    exact (by omega)
  ·
    refine T_qLt ⟨by decide, by decide⟩ ⟨by omega, by omega⟩ (fun h2 => ?_) (fun h2 => ?_)
    ·
      unfold b_X1_isWorth_15
      unfold b_X1_isWorth_16
      refine T_qZ (Or.inl rfl) ?_
      refine T_some ?_
      show ((0 = 1 ∧ (1 ≤ x0 ∧ x0 ≤ 100000)) ∨ (0 = 0 ∧ ¬ (1 ≤ x0 ∧ x0 ≤ 100000)))
      exact (by omega)
    ·
      unfold b_X1_isWorth_16
      refine T_qZ (Or.inr rfl) ?_
      refine T_some ?_
      show ((1 = 1 ∧ (1 ≤ x0 ∧ x0 ≤ 100000)) ∨ (1 = 0 ∧ ¬ (1 ≤ x0 ∧ x0 ≤ 100000)))
      exact (by omega)
set_option maxRecDepth 20000 in
set_option maxHeartbeats 4000000 in
theorem t_X1_number (o : OO) (hB_o : BoxC o) : T (s_X1_number o) (fun v => (v = o.1 10 12)) := by
  have g10_12_o := bC_10_12 hB_o
  unfold s_X1_number
  refine T_some ?_
  show ((o.1 10 12) = o.1 10 12)
  exact (by omega)
set_option maxRecDepth 20000 in
set_option maxHeartbeats 4000000 in
theorem t_X1_tellingsLeft (o : OO) (hB_o : BoxC o) : T (s_X1_tellingsLeft o) (fun v => (v = 100 - o.1 10 13)) := by
  have g10_13_o := bC_10_13 hB_o
  unfold s_X1_tellingsLeft
  refine T_some ?_
  show ((100 - (o.1 10 13)) = 100 - o.1 10 13)
  exact (by omega)
set_option maxRecDepth 20000 in
set_option maxHeartbeats 4000000 in
theorem t_X3_isWater (o : OO) (x1 : Int) (hB_o : BoxC o) (k0 : 0 ≤ x1 ∧ x1 ≤ 63) : T (s_X3_isWater o x1) (fun v => ((v = 1 ∧ (o.1 8 x1.toNat = 4)) ∨ (v = 0 ∧ ¬ (o.1 8 x1.toNat = 4)))) := by
  unfold s_X3_isWater
  refine T_qIn ⟨by omega, by omega⟩ ?_
  refine T_qNm (fun n2 e_n2 => ?_)
  have b_n2 : 0 ≤ n2 ∧ n2 ≤ 4 := by rw [e_n2]; exact bC_8 hB_o _
  refine T_qEq ⟨by omega, by omega⟩ ⟨by decide, by decide⟩ (fun h1 => ?_) (fun h1 => ?_)
  ·
    unfold b_X3_isWater_15
    refine T_qZ (Or.inr rfl) ?_
    refine T_some ?_
    show ((1 = 1 ∧ (o.1 8 x1.toNat = 4)) ∨ (1 = 0 ∧ ¬ (o.1 8 x1.toNat = 4)))
    exact (by omega)
  ·
    unfold b_X3_isWater_15
    refine T_qZ (Or.inl rfl) ?_
    refine T_some ?_
    show ((0 = 1 ∧ (o.1 8 x1.toNat = 4)) ∨ (0 = 0 ∧ ¬ (o.1 8 x1.toNat = 4)))
    exact (by omega)
set_option maxRecDepth 20000 in
set_option maxHeartbeats 4000000 in
theorem t_X1_standingOn (o : OO) (x1 : Int) (hB_o : BoxC o) (k0 : 0 ≤ x1 ∧ x1 ≤ 63) : T (s_X1_standingOn o x1) (fun v => (-9 ≤ v ∧ v ≤ 31) ∧ (v = -9 ∨ 0 ≤ v) ∧ (v = o.1 18 x1.toNat)) := by
  unfold s_X1_standingOn
  refine T_qIn ⟨by omega, by omega⟩ ?_
  refine T_qNm (fun n2 e_n2 => ?_)
  have b_n2 : n2 = -9 ∨ (0 ≤ n2 ∧ n2 ≤ 31) := by rw [e_n2]; exact bC_18 hB_o _
  refine T_some ?_
  show (-9 ≤ n2 ∧ n2 ≤ 31) ∧ (n2 = -9 ∨ 0 ≤ n2) ∧ (n2 = o.1 18 x1.toNat)
  exact ⟨(by omega), (by omega), (by omega)⟩
