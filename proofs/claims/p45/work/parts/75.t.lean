set_option maxRecDepth 20000 in
set_option maxHeartbeats 4000000 in
theorem t_X11_isVoidHearing (o : OO) (x1 : Int) (hB_o : BoxC o) (k0 : 0 ≤ x1 ∧ x1 ≤ 23) : T (s_X11_isVoidHearing o x1) (fun v => (0 ≤ v ∧ v ≤ 1)) := by
  unfold s_X11_isVoidHearing
  refine T_qB (t_X4_dayOf o x1 hB_o (by omega)) (fun r1 hc_r1 hp1 => ?_)
  replace hp1 : (0 ≤ r1 ∧ r1 ≤ 999) := hp1
  refine T_qB (t_X4_dateOf o x1 hB_o (by omega)) (fun r3 hc_r3 hp2 => ?_)
  replace hp2 : (0 ≤ r3 ∧ r3 ≤ 999) := hp2
  refine T_qB (t_X7_valueFor o 7 r1 r1 hB_o (by omega) (by omega) (by omega)) (fun r5 hc_r5 hp3 => ?_)
  replace hp3 : (0 ≤ r5 ∧ r5 ≤ 9999) := hp3
  refine T_qLt ⟨by omega, by omega⟩ ⟨by omega, by omega⟩ (fun h4 => ?_) (fun h4 => ?_)
  ·
    refine T_qZ (Or.inr rfl) ?_
    refine T_some ?_
    show (0 ≤ 1 ∧ 1 ≤ 1)
    exact (by omega)
  ·
    refine T_qB (t_X11_couldCome o x1 hB_o (by omega)) (fun r7 hc_r7 hp5 => ?_)
    replace hp5 : (0 ≤ r7 ∧ r7 ≤ 40) := hp5
    refine T_qEq ⟨by omega, by omega⟩ ⟨by decide, by decide⟩ (fun h6 => ?_) (fun h6 => ?_)
    ·
      unfold b_X11_isVoidHearing_48
      refine T_qZ (Or.inr rfl) ?_
      refine T_some ?_
      show (0 ≤ 1 ∧ 1 ≤ 1)
      exact (by omega)
    ·
      unfold b_X11_isVoidHearing_48
      refine T_qZ (Or.inl rfl) ?_
      refine T_some ?_
      show (0 ≤ 0 ∧ 0 ≤ 1)
      exact (by omega)
set_option maxRecDepth 20000 in
set_option maxHeartbeats 4000000 in
theorem t_X4_hangsOn (o : OO) (x1 : Int) (hB_o : BoxC o) (k0 : 0 ≤ x1 ∧ x1 ≤ 23) : T (s_X4_hangsOn o x1) (fun v => (-9 ≤ v ∧ v ≤ 23)) := by
  unfold s_X4_hangsOn
  refine T_qIn ⟨by omega, by omega⟩ ?_
  refine T_qNm (fun n2 e_n2 => ?_)
  have b_n2 : -9 ≤ n2 ∧ n2 ≤ 23 := by rw [e_n2]; exact bC_35 hB_o _
  refine T_some ?_
  show (-9 ≤ n2 ∧ n2 ≤ 23)
  exact (by omega)
set_option maxRecDepth 20000 in
set_option maxHeartbeats 4000000 in
theorem tl_X11_isVoidTaking_2 (o : OO) (x1 : Int) (i_x2 : Int) (hB_o : BoxC o) (k0 : 0 ≤ x1 ∧ x1 ≤ 23) (v0 : 0 ≤ i_x2 ∧ i_x2 ≤ o.1 32 13) : T (loopW (fun s => l_X11_isVoidTaking_2 o x1 s) i_x2) (Sum.elim (fun _ => True) (fun _ => True)) := by
  refine T_loop (fun s => (0 ≤ s ∧ s ≤ o.1 32 13)) (fun s => (o.1 32 13 - s).toNat) (by exact v0) (fun s hs => ?_)
  obtain ⟨x2, q_x2⟩ : ∃ q, q = s := ⟨_, rfl⟩
  subst q_x2
  replace hs : (0 ≤ x2 ∧ x2 ≤ o.1 32 13) := hs
  have w0 := hs
  have g32_13_o := bC_32_13 hB_o
  show T (l_X11_isVoidTaking_2 o x1 x2) _
  unfold l_X11_isVoidTaking_2
  refine T_qB (t_X4_number o hB_o) (fun r1 hc_r1 hp1 => ?_)
  replace hp1 : (r1 = o.1 32 13) := hp1
  refine T_qLt ⟨by omega, by omega⟩ ⟨by omega, by omega⟩ (fun h2 => ?_) (fun h2 => ?_)
  ·
    refine T_qB (t_X4_kindOf o x2 hB_o (by omega)) (fun r3 hc_r3 hp3 => ?_)
    replace hp3 : (0 ≤ r3 ∧ r3 ≤ 6) := hp3
    refine T_qEq ⟨by omega, by omega⟩ ⟨by decide, by decide⟩ (fun h4 => ?_) (fun h4 => ?_)
    ·
      refine T_qB (t_X4_hangsOn o x2 hB_o (by omega)) (fun r5 hc_r5 hp5 => ?_)
      replace hp5 : (-9 ≤ r5 ∧ r5 ≤ 23) := hp5
      refine T_qB (t_X4_hangsOn o x1 hB_o (by omega)) (fun r7 hc_r7 hp6 => ?_)
      replace hp6 : (-9 ≤ r7 ∧ r7 ≤ 23) := hp6
      refine T_qEq ⟨by omega, by omega⟩ ⟨by omega, by omega⟩ (fun h7 => ?_) (fun h7 => ?_)
      ·
        refine T_qB (t_X4_dateOf o x2 hB_o (by omega)) (fun r9 hc_r9 hp8 => ?_)
        replace hp8 : (0 ≤ r9 ∧ r9 ≤ 999) := hp8
        refine T_qB (t_X4_dayOf o x1 hB_o (by omega)) (fun r11 hc_r11 hp9 => ?_)
        replace hp9 : (0 ≤ r11 ∧ r11 ≤ 999) := hp9
        refine T_qLt ⟨by omega, by omega⟩ ⟨by omega, by omega⟩ (fun h10 => ?_) (fun h10 => ?_)
        ·
          unfold b_X11_isVoidTaking_77
          refine T_some ?_
          show ((0 ≤ (x2 + 1) ∧ (x2 + 1) ≤ o.1 32 13)) ∧ (o.1 32 13 - (x2 + 1)).toNat < (o.1 32 13 - x2).toNat
          exact ⟨(by omega), by omega⟩
        ·
          refine T_qB (t_X11_isVoidHearing o x2 hB_o (by omega)) (fun r13 hc_r13 hp11 => ?_)
          replace hp11 : (0 ≤ r13 ∧ r13 ≤ 1) := hp11
          refine T_qEq ⟨by omega, by omega⟩ ⟨by decide, by decide⟩ (fun h12 => ?_) (fun h12 => ?_)
          ·
            refine T_some ?_
            show True
            exact trivial
          ·
            unfold b_X11_isVoidTaking_77
            refine T_some ?_
            show ((0 ≤ (x2 + 1) ∧ (x2 + 1) ≤ o.1 32 13)) ∧ (o.1 32 13 - (x2 + 1)).toNat < (o.1 32 13 - x2).toNat
            exact ⟨(by omega), by omega⟩
      ·
        unfold b_X11_isVoidTaking_77
        refine T_some ?_
        show ((0 ≤ (x2 + 1) ∧ (x2 + 1) ≤ o.1 32 13)) ∧ (o.1 32 13 - (x2 + 1)).toNat < (o.1 32 13 - x2).toNat
        exact ⟨(by omega), by omega⟩
    ·
      unfold b_X11_isVoidTaking_77
      refine T_some ?_
      show ((0 ≤ (x2 + 1) ∧ (x2 + 1) ≤ o.1 32 13)) ∧ (o.1 32 13 - (x2 + 1)).toNat < (o.1 32 13 - x2).toNat
      exact ⟨(by omega), by omega⟩
  ·
    refine T_some ?_
    show True
    exact trivial
set_option maxRecDepth 20000 in
set_option maxHeartbeats 4000000 in
theorem t_X11_isVoidTaking (o : OO) (x1 : Int) (hB_o : BoxC o) (k0 : 0 ≤ x1 ∧ x1 ≤ 23) : T (s_X11_isVoidTaking o x1) (fun v => (0 ≤ v ∧ v ≤ 1)) := by
  have g32_13_o := bC_32_13 hB_o
  unfold s_X11_isVoidTaking
  unfold e_X11_isVoidTaking_2
  refine T_qB (tl_X11_isVoidTaking_2 o x1 0 hB_o (by omega) (by omega)) (fun r13 hc_r13 hp14 => ?_)
  rcases r13 with r13 | r13
  ·
    show T (b_X11_isVoidTaking_75 o) _
    unfold b_X11_isVoidTaking_75
    refine T_qZ (Or.inl rfl) ?_
    refine T_some ?_
    show (0 ≤ 0 ∧ 0 ≤ 1)
    exact (by omega)
  ·
    show T (b_X11_isVoidTaking_83 o) _
    unfold b_X11_isVoidTaking_83
    refine T_qZ (Or.inr rfl) ?_
    refine T_some ?_
    show (0 ≤ 1 ∧ 1 ≤ 1)
    exact (by omega)
set_option maxRecDepth 20000 in
set_option maxHeartbeats 4000000 in
theorem t_X11_isVoid (o : OO) (x1 : Int) (hB_o : BoxC o) (k0 : inR x1) : T (s_X11_isVoid o x1) (fun v => BoxC v.2 ∧ (Fr [(0, 17), (77, 9999)] o v.2)) := by
  have fr_o : Fr [(0, 17), (77, 9999)] o o := Fr.rf
  have g32_13_o := bC_32_13 hB_o
  unfold s_X11_isVoid
  refine T_qB (t_X4_exists o x1 hB_o (by omega)) (fun r1 hc_r1 hp1 => ?_)
  replace hp1 : ((r1 = 1 ∧ (0 ≤ x1 ∧ x1 < o.1 32 13)) ∨ (r1 = 0 ∧ ¬ (0 ≤ x1 ∧ x1 < o.1 32 13))) := hp1
  refine T_qEq ⟨by omega, by omega⟩ ⟨by decide, by decide⟩ (fun h2 => ?_) (fun h2 => ?_)
  ·
    refine T_some ?_
    show BoxC o ∧ (Fr [(0, 17), (77, 9999)] o o)
    exact ⟨hB_o, fr_o⟩
  ·
    refine T_qB (t_X4_kindOf o x1 hB_o (by omega)) (fun r3 hc_r3 hp3 => ?_)
    replace hp3 : (0 ≤ r3 ∧ r3 ≤ 6) := hp3
    refine T_qEq ⟨by omega, by omega⟩ ⟨by decide, by decide⟩ (fun h4 => ?_) (fun h4 => ?_)
    ·
      refine T_qB (t_X11_isVoidHearing o x1 hB_o (by omega)) (fun r10 hc_r10 hp5 => ?_)
      replace hp5 : (0 ≤ r10 ∧ r10 ≤ 1) := hp5
      refine T_qEq ⟨by omega, by omega⟩ ⟨by decide, by decide⟩ (fun h6 => ?_) (fun h6 => ?_)
      ·
        unfold b_X11_isVoid_41
        refine T_some ?_
        show BoxC o ∧ (Fr [(0, 17), (77, 9999)] o o)
        exact ⟨hB_o, fr_o⟩
      ·
        unfold b_X11_isVoid_41
        refine T_some ?_
        show BoxC o ∧ (Fr [(0, 17), (77, 9999)] o o)
        exact ⟨hB_o, fr_o⟩
    ·
      refine T_qEq ⟨by omega, by omega⟩ ⟨by decide, by decide⟩ (fun h7 => ?_) (fun h7 => ?_)
      ·
        refine T_qB (t_X11_isVoidTaking o x1 hB_o (by omega)) (fun r8 hc_r8 hp8 => ?_)
        replace hp8 : (0 ≤ r8 ∧ r8 ≤ 1) := hp8
        refine T_qEq ⟨by omega, by omega⟩ ⟨by decide, by decide⟩ (fun h9 => ?_) (fun h9 => ?_)
        ·
          unfold b_X11_isVoid_60
          refine T_some ?_
          show BoxC o ∧ (Fr [(0, 17), (77, 9999)] o o)
          exact ⟨hB_o, fr_o⟩
        ·
          unfold b_X11_isVoid_60
          refine T_some ?_
          show BoxC o ∧ (Fr [(0, 17), (77, 9999)] o o)
          exact ⟨hB_o, fr_o⟩
      ·
        refine T_qB2 (t_X11_found o 3 hB_o (by omega)) (fun r5 o7 hc_r5 hp10 => ?_)
        replace hp10 : BoxC o7 ∧ (Fr [(0, 17), (77, 9999)] o o7) ∧ (r5 = -3) := hp10
        obtain ⟨hB_o7, fc_o7, hp10⟩ := hp10
        have fr_o7 : Fr [(0, 17), (77, 9999)] o o7 := Fr.tr fr_o fc_o7 rfl
        have g32_13_o7 : o7.1 32 13 = o.1 32 13 := fc_o7.1 32 13 rfl
        refine T_some ?_
        show BoxC o7 ∧ (Fr [(0, 17), (77, 9999)] o o7)
        exact ⟨hB_o7, fr_o7⟩
set_option maxRecDepth 20000 in
set_option maxHeartbeats 4000000 in
theorem t_X11_judge (o : OO) (x1 : Int) (x2 : Int) (x3 : Int) (hB_o : BoxC o) (k0 : inR x1) (k1 : inR x2) (k2 : inR x3) : T (s_X11_judge o x1 x2 x3) (fun v => BoxC v.2 ∧ (Fr [(0, 14), (0, 17), (77, 9999)] o v.2)) := by
  have fr_o : Fr [(0, 14), (0, 17), (77, 9999)] o o := Fr.rf
  have g32_13_o := bC_32_13 hB_o
  unfold s_X11_judge
  refine T_qB (t_X4_exists o x1 hB_o (by omega)) (fun r1 hc_r1 hp1 => ?_)
  replace hp1 : ((r1 = 1 ∧ (0 ≤ x1 ∧ x1 < o.1 32 13)) ∨ (r1 = 0 ∧ ¬ (0 ≤ x1 ∧ x1 < o.1 32 13))) := hp1
  refine T_qEq ⟨by omega, by omega⟩ ⟨by decide, by decide⟩ (fun h2 => ?_) (fun h2 => ?_)
  ·
    unfold b_X11_judge_33
    refine T_some ?_
    show BoxC o ∧ (Fr [(0, 14), (0, 17), (77, 9999)] o o)
    exact ⟨hB_o, fr_o⟩
  ·
    refine T_qB (t_X8_exists o x2 hB_o (by omega)) (fun r3 hc_r3 hp3 => ?_)
    replace hp3 : ((r3 = 1 ∧ (0 ≤ x2 ∧ x2 < 6)) ∨ (r3 = 0 ∧ ¬ (0 ≤ x2 ∧ x2 < 6))) := hp3
    refine T_qEq ⟨by omega, by omega⟩ ⟨by decide, by decide⟩ (fun h4 => ?_) (fun h4 => ?_)
    ·
      unfold b_X11_judge_33
      refine T_some ?_
      show BoxC o ∧ (Fr [(0, 14), (0, 17), (77, 9999)] o o)
      exact ⟨hB_o, fr_o⟩
    ·
      refine T_qB (t_X8_exists o x3 hB_o (by omega)) (fun r5 hc_r5 hp5 => ?_)
      replace hp5 : ((r5 = 1 ∧ (0 ≤ x3 ∧ x3 < 6)) ∨ (r5 = 0 ∧ ¬ (0 ≤ x3 ∧ x3 < 6))) := hp5
      refine T_qEq ⟨by omega, by omega⟩ ⟨by decide, by decide⟩ (fun h6 => ?_) (fun h6 => ?_)
      ·
        unfold b_X11_judge_33
        refine T_some ?_
        show BoxC o ∧ (Fr [(0, 14), (0, 17), (77, 9999)] o o)
        exact ⟨hB_o, fr_o⟩
      ·
        refine T_qB (t_X4_isOf o x1 1 hB_o (by omega) (by omega)) (fun r7 hc_r7 hp7 => ?_)
        replace hp7 : (0 ≤ r7 ∧ r7 ≤ 1) := hp7
        refine T_qEq ⟨by omega, by omega⟩ ⟨by decide, by decide⟩ (fun h8 => ?_) (fun h8 => ?_)
        ·
          refine T_qB2 (t_X11_found o 3 hB_o (by omega)) (fun r19 o21 hc_r19 hp9 => ?_)
          replace hp9 : BoxC o21 ∧ (Fr [(0, 17), (77, 9999)] o o21) ∧ (r19 = -3) := hp9
          obtain ⟨hB_o21, fc_o21, hp9⟩ := hp9
          have fr_o21 : Fr [(0, 14), (0, 17), (77, 9999)] o o21 := Fr.tr fr_o fc_o21 rfl
          have g32_13_o21 : o21.1 32 13 = o.1 32 13 := fc_o21.1 32 13 rfl
          refine T_some ?_
          show BoxC o21 ∧ (Fr [(0, 14), (0, 17), (77, 9999)] o o21)
          exact ⟨hB_o21, fr_o21⟩
        ·
          refine T_qB (t_X11_weighingFault o x2 x3 hB_o (by omega) (by omega)) (fun r9 hc_r9 hp10 => ?_)
          replace hp10 : ((r9 = 0 ∧ WC o x2 4) ∨ (1 ≤ r9 ∧ r9 ≤ 5)) := hp10
          have hw9 : ¬ r9 = 0 ∨ WC o x2 4 := hp10.elim (fun q => Or.inr q.2) (fun q => Or.inl (by omega))
          refine T_qEq ⟨by omega, by omega⟩ ⟨by decide, by decide⟩ (fun h11 => ?_) (fun h11 => ?_)
          ·
            refine T_qB (t_X11_weigh o x1 x2 x3 hB_o (by omega) (by omega) (by omega) (by first | assumption | exact hw9.elim (fun q => absurd (by omega) q) (fun q => q))) (fun r11 hc_r11 hp12 => ?_)
            replace hp12 : (inR r11) := hp12
            refine T_qB2 (t_X11_tell o r11 hB_o) (fun r13 o15 hc_r13 hp13 => ?_)
            replace hp13 : BoxC o15 ∧ (Fr [(0, 14)] o o15) ∧ (r13 = 1) := hp13
            obtain ⟨hB_o15, fc_o15, hp13⟩ := hp13
            have fr_o15 : Fr [(0, 14), (0, 17), (77, 9999)] o o15 := Fr.tr fr_o fc_o15 rfl
            have g32_13_o15 : o15.1 32 13 = o.1 32 13 := fc_o15.1 32 13 rfl
            refine T_some ?_
            show BoxC o15 ∧ (Fr [(0, 14), (0, 17), (77, 9999)] o o15)
            exact ⟨hB_o15, fr_o15⟩
          ·
            refine T_qB2 (t_X11_found o r9 hB_o (by omega)) (fun r16 o18 hc_r16 hp14 => ?_)
            replace hp14 : BoxC o18 ∧ (Fr [(0, 17), (77, 9999)] o o18) ∧ (r16 = -3) := hp14
            obtain ⟨hB_o18, fc_o18, hp14⟩ := hp14
            have fr_o18 : Fr [(0, 14), (0, 17), (77, 9999)] o o18 := Fr.tr fr_o fc_o18 rfl
            have g32_13_o18 : o18.1 32 13 = o.1 32 13 := fc_o18.1 32 13 rfl
            refine T_some ?_
            show BoxC o18 ∧ (Fr [(0, 14), (0, 17), (77, 9999)] o o18)
            exact ⟨hB_o18, fr_o18⟩
set_option maxRecDepth 20000 in
set_option maxHeartbeats 4000000 in
theorem t_X11_later (o : OO) (x1 : Int) (hB_o : BoxC o) (k0 : inR x1) : T (s_X11_later o x1) (fun v => BoxC v.2 ∧ (Fr [(0, 13)] o v.2)) := by
  have fr_o : Fr [(0, 13)] o o := Fr.rf
  have g0_13_o := bC_0_13 hB_o
  unfold s_X11_later
  refine T_qLt ⟨by omega, by omega⟩ ⟨by decide, by decide⟩ (fun h1 => ?_) (fun h1 => ?_)
  ·
    unfold b_X11_later_16
    refine T_some ?_
    show BoxC o ∧ (Fr [(0, 13)] o o)
    exact ⟨hB_o, fr_o⟩
  ·
    refine T_qLt ⟨by omega, by omega⟩ ⟨by omega, by omega⟩ (fun h2 => ?_) (fun h2 => ?_)
    ·
      unfold b_X11_later_16
      refine T_some ?_
      show BoxC o ∧ (Fr [(0, 13)] o o)
      exact ⟨hB_o, fr_o⟩
    ·
      refine T_qNm (fun o1 e_o1 => ?_)
      have hB_o1 : BoxC o1 := by rw [e_o1]; exact Box.s1 hB_o (show 0 ≤ ((o.1 0 13) + x1) ∧ ((o.1 0 13) + x1) ≤ 999 from ⟨by omega, by omega⟩)
      have fr_o1 : Fr [(0, 13)] o o1 := by rw [e_o1]; exact Fr.s1 fr_o rfl
      have g0_13_o1 : o1.1 0 13 = ((o.1 0 13) + x1) := by rw [e_o1]; rfl
      refine T_some ?_
      show BoxC o1 ∧ (Fr [(0, 13)] o o1)
      exact ⟨hB_o1, fr_o1⟩
set_option maxRecDepth 20000 in
set_option maxHeartbeats 4000000 in
theorem t_X8_holds__1 (o : OO) (x1 : Int) (x2 : Int) (hB_o : BoxC o) (k0 : 0 ≤ x1 ∧ x1 ≤ 5) (k1 : inR x2) : T (s_X8_holds__1 o x1 x2) (fun v => ((v = 1 ∧ 0 ≤ x2 ∧ x2 < o.1 2 x1.toNat ∧ o.1 2 x1.toNat ≤ 40) ∨ (v = 0 ∧ ¬ (0 ≤ x2 ∧ x2 < o.1 2 x1.toNat)))) := by
  unfold s_X8_holds__1
  refine T_qLt ⟨by omega, by omega⟩ ⟨by decide, by decide⟩ (fun h1 => ?_) (fun h1 => ?_)
  ·
    unfold b_X8_holds__1_18
    unfold b_X8_holds__1_19
    refine T_qZ (Or.inl rfl) ?_
    refine T_some ?_
    show ((0 = 1 ∧ 0 ≤ x2 ∧ x2 < o.1 2 x1.toNat ∧ o.1 2 x1.toNat ≤ 40) ∨ (0 = 0 ∧ ¬ (0 ≤ x2 ∧ x2 < o.1 2 x1.toNat)))
    exact (by omega)
  ·
    refine T_qIn ⟨by omega, by omega⟩ ?_
    refine T_qNm (fun n2 e_n2 => ?_)
    have b_n2 : -1 ≤ n2 ∧ n2 ≤ 40 := by rw [e_n2]; exact bC_2 hB_o _
    refine T_qLt ⟨by omega, by omega⟩ ⟨by omega, by omega⟩ (fun h2 => ?_) (fun h2 => ?_)
    ·
      unfold b_X8_holds__1_19
      refine T_qZ (Or.inr rfl) ?_
      refine T_some ?_
      show ((1 = 1 ∧ 0 ≤ x2 ∧ x2 < o.1 2 x1.toNat ∧ o.1 2 x1.toNat ≤ 40) ∨ (1 = 0 ∧ ¬ (0 ≤ x2 ∧ x2 < o.1 2 x1.toNat)))
      exact (by omega)
    ·
      unfold b_X8_holds__1_18
      unfold b_X8_holds__1_19
      refine T_qZ (Or.inl rfl) ?_
      refine T_some ?_
      show ((0 = 1 ∧ 0 ≤ x2 ∧ x2 < o.1 2 x1.toNat ∧ o.1 2 x1.toNat ≤ 40) ∨ (0 = 0 ∧ ¬ (0 ≤ x2 ∧ x2 < o.1 2 x1.toNat)))
      exact (by omega)
set_option maxRecDepth 20000 in
set_option maxHeartbeats 4000000 in
theorem t_X8_exchange (o : OO) (x1 : Int) (x2 : Int) (x3 : Int) (hB_o : BoxC o) (k0 : 0 ≤ x1 * 40 + x2 ∧ x1 * 40 + x2 < 240) (k1 : inR x3) : T (s_X8_exchange o x1 x2 x3) (fun v => BoxC v.2 ∧ (Fr [(3, 9999)] o v.2) ∧ (inR v.1)) := by
  have fr_o : Fr [(3, 9999)] o o := Fr.rf
  unfold s_X8_exchange
  refine T_qIn ⟨by omega, by omega⟩ ?_
  refine T_qNm (fun n2 e_n2 => ?_)
  have b_n2 : -2147483648 ≤ n2 ∧ n2 ≤ 2147483647 := by rw [e_n2]; exact bC_3 hB_o _
  refine T_qIn ⟨by omega, by omega⟩ ?_
  refine T_qNm (fun o4 e_o4 => ?_)
  have hB_o4 : BoxC o4 := by rw [e_o4]; exact Box.s1 hB_o (show -2147483648 ≤ x3 ∧ x3 ≤ 2147483647 from ⟨by omega, by omega⟩)
  have fr_o4 : Fr [(3, 9999)] o o4 := by rw [e_o4]; exact Fr.s1 fr_o rfl
  refine T_some ?_
  show BoxC o4 ∧ (Fr [(3, 9999)] o o4) ∧ (inR n2)
  exact ⟨hB_o4, fr_o4, (by omega)⟩
set_option maxRecDepth 20000 in
set_option maxHeartbeats 4000000 in
theorem t_X11_lay (o : OO) (x1 : Int) (x2 : Int) (x3 : Int) (hB_o : BoxC o) (k0 : inR x1) (k1 : inR x2) (k2 : inR x3) : T (s_X11_lay o x1 x2 x3) (fun v => BoxC v.2 ∧ (Fr [(0, 14), (0, 17), (3, 9999), (77, 9999)] o v.2)) := by
  have fr_o : Fr [(0, 14), (0, 17), (3, 9999), (77, 9999)] o o := Fr.rf
  unfold s_X11_lay
  refine T_qB (t_X8_exists o x1 hB_o (by omega)) (fun r1 hc_r1 hp1 => ?_)
  replace hp1 : ((r1 = 1 ∧ (0 ≤ x1 ∧ x1 < 6)) ∨ (r1 = 0 ∧ ¬ (0 ≤ x1 ∧ x1 < 6))) := hp1
  refine T_qEq ⟨by omega, by omega⟩ ⟨by decide, by decide⟩ (fun h2 => ?_) (fun h2 => ?_)
  ·
    refine T_some ?_
    show BoxC o ∧ (Fr [(0, 14), (0, 17), (3, 9999), (77, 9999)] o o)
    exact ⟨hB_o, fr_o⟩
  ·
    refine T_qB (t_X8_isThere o x1 hB_o (by omega)) (fun r3 hc_r3 hp3 => ?_)
    replace hp3 : ((r3 = 1 ∧ (¬ o.1 2 x1.toNat = -1)) ∨ (r3 = 0 ∧ ¬ (¬ o.1 2 x1.toNat = -1))) := hp3
    refine T_qEq ⟨by omega, by omega⟩ ⟨by decide, by decide⟩ (fun h4 => ?_) (fun h4 => ?_)
    ·
      refine T_qB2 (t_X11_found o 1 hB_o (by omega)) (fun r16 o18 hc_r16 hp5 => ?_)
      replace hp5 : BoxC o18 ∧ (Fr [(0, 17), (77, 9999)] o o18) ∧ (r16 = -3) := hp5
      obtain ⟨hB_o18, fc_o18, hp5⟩ := hp5
      have fr_o18 : Fr [(0, 14), (0, 17), (3, 9999), (77, 9999)] o o18 := Fr.tr fr_o fc_o18 rfl
      refine T_some ?_
      show BoxC o18 ∧ (Fr [(0, 14), (0, 17), (3, 9999), (77, 9999)] o o18)
      exact ⟨hB_o18, fr_o18⟩
    ·
      refine T_qB (t_X8_holds__1 o x1 x2 hB_o (by omega) (by omega)) (fun r5 hc_r5 hp6 => ?_)
      replace hp6 : ((r5 = 1 ∧ 0 ≤ x2 ∧ x2 < o.1 2 x1.toNat ∧ o.1 2 x1.toNat ≤ 40) ∨ (r5 = 0 ∧ ¬ (0 ≤ x2 ∧ x2 < o.1 2 x1.toNat))) := hp6
      refine T_qEq ⟨by omega, by omega⟩ ⟨by decide, by decide⟩ (fun h7 => ?_) (fun h7 => ?_)
      ·
        refine T_qB2 (t_X11_found o 2 hB_o (by omega)) (fun r13 o15 hc_r13 hp8 => ?_)
        replace hp8 : BoxC o15 ∧ (Fr [(0, 17), (77, 9999)] o o15) ∧ (r13 = -3) := hp8
        obtain ⟨hB_o15, fc_o15, hp8⟩ := hp8
        have fr_o15 : Fr [(0, 14), (0, 17), (3, 9999), (77, 9999)] o o15 := Fr.tr fr_o fc_o15 rfl
        refine T_some ?_
        show BoxC o15 ∧ (Fr [(0, 14), (0, 17), (3, 9999), (77, 9999)] o o15)
        exact ⟨hB_o15, fr_o15⟩
      ·
        refine T_qB2 (t_X8_exchange o x1 x2 x3 hB_o (by omega) (by omega)) (fun r7 o9 hc_r7 hp9 => ?_)
        replace hp9 : BoxC o9 ∧ (Fr [(3, 9999)] o o9) ∧ (inR r7) := hp9
        obtain ⟨hB_o9, fc_o9, hp9⟩ := hp9
        have fr_o9 : Fr [(0, 14), (0, 17), (3, 9999), (77, 9999)] o o9 := Fr.tr fr_o fc_o9 rfl
        refine T_qB2 (t_X11_tell o9 r7 hB_o9) (fun r10 o12 hc_r10 hp10 => ?_)
        replace hp10 : BoxC o12 ∧ (Fr [(0, 14)] o9 o12) ∧ (r10 = 1) := hp10
        obtain ⟨hB_o12, fc_o12, hp10⟩ := hp10
        have fr_o12 : Fr [(0, 14), (0, 17), (3, 9999), (77, 9999)] o o12 := Fr.tr fr_o9 fc_o12 rfl
        refine T_some ?_
        show BoxC o12 ∧ (Fr [(0, 14), (0, 17), (3, 9999), (77, 9999)] o o12)
        exact ⟨hB_o12, fr_o12⟩
set_option maxRecDepth 20000 in
set_option maxHeartbeats 4000000 in
theorem t_X1_latestWorth (o : OO) (x1 : Int) (hB_o : BoxC o) (k0 : 0 ≤ x1 ∧ x1 ≤ 31) : T (s_X1_latestWorth o x1) (fun v => (0 ≤ v ∧ v ≤ 100000)) := by
  unfold s_X1_latestWorth
  refine T_qIn ⟨by omega, by omega⟩ ?_
  refine T_qNm (fun n2 e_n2 => ?_)
  have b_n2 : 0 ≤ n2 ∧ n2 ≤ 100000 := by rw [e_n2]; exact bC_16 hB_o _
  refine T_some ?_
  show (0 ≤ n2 ∧ n2 ≤ 100000)
  exact (by omega)
set_option maxRecDepth 20000 in
set_option maxHeartbeats 4000000 in
theorem t_X3_sortOf (o : OO) (x1 : Int) (hB_o : BoxC o) (k0 : 0 ≤ x1 ∧ x1 ≤ 63) : T (s_X3_sortOf o x1) (fun v => (v = o.1 8 x1.toNat) ∧ (0 ≤ v ∧ v ≤ 4)) := by
  unfold s_X3_sortOf
  refine T_qIn ⟨by omega, by omega⟩ ?_
  refine T_qNm (fun n2 e_n2 => ?_)
  have b_n2 : 0 ≤ n2 ∧ n2 ≤ 4 := by rw [e_n2]; exact bC_8 hB_o _
  refine T_some ?_
  show (n2 = o.1 8 x1.toNat) ∧ (0 ≤ n2 ∧ n2 ≤ 4)
  exact ⟨(by omega), (by omega)⟩
set_option maxRecDepth 20000 in
set_option maxHeartbeats 4000000 in
theorem tl_X11_setPrices_2 (x1 : Int) (i_o : OO) (i_x2 : Int) (hB_i_o : BoxC i_o) (k0 : 0 ≤ x1 ∧ x1 ≤ 5) (k1 : ∀ k : Int, 0 ≤ k → k < 4 → 0 ≤ i_o.1 3 (x1 * 40 + k).toNat ∧ i_o.1 3 (x1 * 40 + k).toNat ≤ 1000) (v0 : 0 ≤ i_x2 ∧ i_x2 ≤ 64) : T (loopW (fun s => l_X11_setPrices_2 x1 s.1 s.2) (i_o, i_x2)) (fun r => BoxC r ∧ (Fr [(54, 9999)] i_o r)) := by
  have fr_i_o : Fr [(54, 9999)] i_o i_o := Fr.rf
  refine T_loop (fun s => BoxC s.1 ∧ (Fr [(54, 9999)] i_o s.1) ∧ (0 ≤ s.2 ∧ s.2 ≤ 64)) (fun s => (64 - s.2).toNat) (by exact ⟨hB_i_o, fr_i_o, v0⟩) (fun s hs => ?_)
  obtain ⟨o, x2⟩ := s
  replace hs : BoxC o ∧ (Fr [(54, 9999)] i_o o) ∧ (0 ≤ x2 ∧ x2 ≤ 64) := hs
  obtain ⟨hB_o, fr_o, w0⟩ := hs
  show T (l_X11_setPrices_2 x1 o x2) _
  unfold l_X11_setPrices_2
  refine T_qLt ⟨by omega, by omega⟩ ⟨by decide, by decide⟩ (fun h1 => ?_) (fun h1 => ?_)
  ·
    refine T_qB (t_X1_standingOn o x2 hB_o (by omega)) (fun r7 hc_r7 hp2 => ?_)
    replace hp2 : (-9 ≤ r7 ∧ r7 ≤ 31) ∧ (r7 = -9 ∨ 0 ≤ r7) ∧ (r7 = o.1 18 x2.toNat) := hp2
    have hps_hp2 := hp2
    obtain ⟨hp2_0, hp2_1, hp2_2⟩ := hps_hp2
    replace hp2 := hid hp2
    refine T_qB (t_X3_isWater o x2 hB_o (by omega)) (fun r9 hc_r9 hp3 => ?_)
    replace hp3 : ((r9 = 1 ∧ (o.1 8 x2.toNat = 4)) ∨ (r9 = 0 ∧ ¬ (o.1 8 x2.toNat = 4))) := hp3
    refine T_qEq ⟨by omega, by omega⟩ ⟨by decide, by decide⟩ (fun h4 => ?_) (fun h4 => ?_)
    ·
      refine T_qB (t_X3_sortOf o x2 hB_o (by omega)) (fun r11 hc_r11 hp5 => ?_)
      replace hp5 : (r11 = o.1 8 x2.toNat) ∧ (0 ≤ r11 ∧ r11 ≤ 4) := hp5
      have hps_hp5 := hp5
      obtain ⟨hp5_0, hp5_1⟩ := hps_hp5
      replace hp5 := hid hp5
      refine T_qB (t_X8_at o x1 r11 hB_o (by omega)) (fun r13 hc_r13 hp6 => ?_)
      replace hp6 : (r13 = o.1 3 (x1 * 40 + r11).toNat) ∧ (inR r13) := hp6
      have hps_hp6 := hp6
      obtain ⟨hp6_0, hp6_1⟩ := hps_hp6
      replace hp6 := hid hp6
      have hq8 := k1 r11 (by omega) (by omega)
      rw [← fr_o.1 3 _ rfl] at hq8
      unfold b_X11_setPrices_48
      refine T_qEq ⟨by omega, by omega⟩ ⟨by decide, by decide⟩ (fun h7 => ?_) (fun h7 => ?_)
      ·
        unfold b_X11_setPrices_72
        refine T_qIn ⟨by omega, by omega⟩ ?_
        refine T_qNm (fun o2 e_o2 => ?_)
        have hB_o2 : BoxC o2 := by rw [e_o2]; exact Box.s1 hB_o (show 0 ≤ r13 ∧ r13 ≤ 2000 from ⟨by omega, by omega⟩)
        have fr_o2 : Fr [(54, 9999)] i_o o2 := by rw [e_o2]; exact Fr.s1 fr_o rfl
        refine T_some ?_
        show (BoxC o2 ∧ (Fr [(54, 9999)] i_o o2) ∧ (0 ≤ (x2 + 1) ∧ (x2 + 1) ≤ 64)) ∧ (64 - (x2 + 1)).toNat < (64 - x2).toNat
        exact ⟨⟨hB_o2, fr_o2, (by omega)⟩, by omega⟩
      ·
        refine T_qB (t_X1_latestWorth o r7 hB_o (by omega)) (fun r3 hc_r3 hp8 => ?_)
        replace hp8 : (0 ≤ r3 ∧ r3 ≤ 100000) := hp8
        refine T_qDv ⟨⟨by omega, by omega⟩, ⟨by decide, by decide⟩, by decide⟩ ?_
        have jd9 : jq r3 100 = r3 / 100 := jq_nn (by omega)
        refine T_qNm (fun n6 e_n6 => ?_)
        unfold b_X11_setPrices_72
        refine T_qIn ⟨by omega, by omega⟩ ?_
        refine T_qNm (fun o2 e_o2 => ?_)
        have hB_o2 : BoxC o2 := by rw [e_o2]; exact Box.s1 hB_o (show 0 ≤ n6 ∧ n6 ≤ 2000 from ⟨by omega, by omega⟩)
        have fr_o2 : Fr [(54, 9999)] i_o o2 := by rw [e_o2]; exact Fr.s1 fr_o rfl
        refine T_some ?_
        show (BoxC o2 ∧ (Fr [(54, 9999)] i_o o2) ∧ (0 ≤ (x2 + 1) ∧ (x2 + 1) ≤ 64)) ∧ (64 - (x2 + 1)).toNat < (64 - x2).toNat
        exact ⟨⟨hB_o2, fr_o2, (by omega)⟩, by omega⟩
    ·
      unfold b_X11_setPrices_48
      refine T_qEq ⟨by omega, by omega⟩ ⟨by decide, by decide⟩ (fun h10 => ?_) (fun h10 => ?_)
      ·
        unfold b_X11_setPrices_72
        refine T_qIn ⟨by omega, by omega⟩ ?_
        refine T_qNm (fun o2 e_o2 => ?_)
        have hB_o2 : BoxC o2 := by rw [e_o2]; exact Box.s1 hB_o (show 0 ≤ 0 ∧ 0 ≤ 2000 from ⟨by omega, by omega⟩)
        have fr_o2 : Fr [(54, 9999)] i_o o2 := by rw [e_o2]; exact Fr.s1 fr_o rfl
        refine T_some ?_
        show (BoxC o2 ∧ (Fr [(54, 9999)] i_o o2) ∧ (0 ≤ (x2 + 1) ∧ (x2 + 1) ≤ 64)) ∧ (64 - (x2 + 1)).toNat < (64 - x2).toNat
        exact ⟨⟨hB_o2, fr_o2, (by omega)⟩, by omega⟩
      ·
        refine T_qB (t_X1_latestWorth o r7 hB_o (by omega)) (fun r3 hc_r3 hp11 => ?_)
        replace hp11 : (0 ≤ r3 ∧ r3 ≤ 100000) := hp11
        refine T_qDv ⟨⟨by omega, by omega⟩, ⟨by decide, by decide⟩, by decide⟩ ?_
        have jd12 : jq r3 100 = r3 / 100 := jq_nn (by omega)
        refine T_qNm (fun n6 e_n6 => ?_)
        unfold b_X11_setPrices_72
        refine T_qIn ⟨by omega, by omega⟩ ?_
        refine T_qNm (fun o2 e_o2 => ?_)
        have hB_o2 : BoxC o2 := by rw [e_o2]; exact Box.s1 hB_o (show 0 ≤ n6 ∧ n6 ≤ 2000 from ⟨by omega, by omega⟩)
        have fr_o2 : Fr [(54, 9999)] i_o o2 := by rw [e_o2]; exact Fr.s1 fr_o rfl
        refine T_some ?_
        show (BoxC o2 ∧ (Fr [(54, 9999)] i_o o2) ∧ (0 ≤ (x2 + 1) ∧ (x2 + 1) ≤ 64)) ∧ (64 - (x2 + 1)).toNat < (64 - x2).toNat
        exact ⟨⟨hB_o2, fr_o2, (by omega)⟩, by omega⟩
  ·
    refine T_some ?_
    show BoxC o ∧ (Fr [(54, 9999)] i_o o)
    exact ⟨hB_o, fr_o⟩
set_option maxRecDepth 20000 in
set_option maxHeartbeats 4000000 in
theorem t_X11_setPrices (o : OO) (x1 : Int) (hB_o : BoxC o) (k0 : 0 ≤ x1 ∧ x1 ≤ 5) (k1 : ∀ k : Int, 0 ≤ k → k < 4 → 0 ≤ o.1 3 (x1 * 40 + k).toNat ∧ o.1 3 (x1 * 40 + k).toNat ≤ 1000) : T (s_X11_setPrices o x1) (fun v => BoxC v ∧ (Fr [(54, 9999)] o v)) := by
  have fr_o : Fr [(54, 9999)] o o := Fr.rf
  unfold s_X11_setPrices
  unfold e_X11_setPrices_2
  refine T_qB (tl_X11_setPrices_2 x1 o 0 hB_o (by omega) (by assumption) (by omega)) (fun r13 hc_r13 hp14 => ?_)
  obtain ⟨o_15, q_o_15⟩ : ∃ q, q = r13 := ⟨_, rfl⟩
  subst q_o_15
  replace hp14 : BoxC o_15 ∧ (Fr [(54, 9999)] o o_15) := hp14
  have hps_hp14 := hp14
  obtain ⟨hp14_0, hp14_1⟩ := hps_hp14
  obtain ⟨hB_o_15, fc_o_15⟩ := hp14
  have fr_o_15 : Fr [(54, 9999)] o o_15 := Fr.tr fr_o fc_o_15 rfl
  show T (b_X11_setPrices_89 o_15) _
  unfold b_X11_setPrices_89
  refine T_some ?_
  show BoxC o_15 ∧ (Fr [(54, 9999)] o o_15)
  exact ⟨hB_o_15, fr_o_15⟩
set_option maxRecDepth 20000 in
set_option maxHeartbeats 4000000 in
theorem tl_J7_fill_53178__56_5 (x1 : Int) (x3 : Int) (i_o : OO) (i_x2 : Int) (hB_i_o : BoxC i_o) (k0 : 0 ≤ x1 ∧ x1 ≤ 1000000000) (k1 : x3 = 256) (v0 : 0 ≤ i_x2 ∧ i_x2 ≤ 256) (v1 : FP i_o 56 i_x2 x1) : T (loopW (fun s => l_J7_fill_53178__56_5 x1 x3 s.1 s.2) (i_o, i_x2)) (fun r => BoxC r ∧ (Fr [(56, 9999)] i_o r) ∧ (FP r 56 256 x1)) := by
  have fr_i_o : Fr [(56, 9999)] i_o i_o := Fr.rf
  refine T_loop (fun s => BoxC s.1 ∧ (Fr [(56, 9999)] i_o s.1) ∧ (0 ≤ s.2 ∧ s.2 ≤ 256) ∧ (FP s.1 56 s.2 x1)) (fun s => (256 - s.2).toNat) (by exact ⟨hB_i_o, fr_i_o, v0, v1⟩) (fun s hs => ?_)
  obtain ⟨o, x2⟩ := s
  replace hs : BoxC o ∧ (Fr [(56, 9999)] i_o o) ∧ (0 ≤ x2 ∧ x2 ≤ 256) ∧ (FP o 56 x2 x1) := hs
  obtain ⟨hB_o, fr_o, w0, w1⟩ := hs
  show T (l_J7_fill_53178__56_5 x1 x3 o x2) _
  unfold l_J7_fill_53178__56_5
  refine T_qLt ⟨by omega, by omega⟩ ⟨by omega, by omega⟩ (fun h1 => ?_) (fun h1 => ?_)
  ·
    refine T_qIn ⟨by omega, by omega⟩ ?_
    refine T_qNm (fun o2 e_o2 => ?_)
    have hB_o2 : BoxC o2 := by rw [e_o2]; exact Box.s1 hB_o (show 0 ≤ x1 ∧ x1 ≤ 1000000000 from ⟨by omega, by omega⟩)
    have fr_o2 : Fr [(56, 9999)] i_o o2 := by rw [e_o2]; exact Fr.s1 fr_o rfl
    refine T_some ?_
    show (BoxC o2 ∧ (Fr [(56, 9999)] i_o o2) ∧ (0 ≤ (x2 + 1) ∧ (x2 + 1) ≤ 256) ∧ (FP o2 56 (x2 + 1) x1)) ∧ (256 - (x2 + 1)).toNat < (256 - x2).toNat
    exact ⟨⟨hB_o2, fr_o2, (by omega), (by first | assumption | (have q2 := w1; rwa [show x2 = 256 by omega] at q2) | exact FP_0 | (rw [e_o2]; exact FP_s w1 (by omega)))⟩, by omega⟩
  ·
    refine T_some ?_
    show BoxC o ∧ (Fr [(56, 9999)] i_o o) ∧ (FP o 56 256 x1)
    exact ⟨hB_o, fr_o, (by first | assumption | (have q2 := w1; rwa [show x2 = 256 by omega] at q2) | exact FP_0 | (rw [e_o]; exact FP_s w1 (by omega)))⟩
set_option maxRecDepth 20000 in
set_option maxHeartbeats 4000000 in
theorem t_J7_fill_53178__56 (o : OO) (x1 : Int) (hB_o : BoxC o) (k0 : 0 ≤ x1 ∧ x1 ≤ 1000000000) : T (s_J7_fill_53178__56 o x1) (fun v => BoxC v ∧ (Fr [(56, 9999)] o v) ∧ (FP v 56 256 x1)) := by
  have fr_o : Fr [(56, 9999)] o o := Fr.rf
  unfold s_J7_fill_53178__56
  unfold e_J7_fill_53178__56_5
  refine T_qB (tl_J7_fill_53178__56_5 x1 256 o 0 hB_o (by omega) (by omega) (by omega) (by first | assumption | (have q2 := w1; rwa [show x2 = 256 by omega] at q2) | exact FP_0 | (rw [e_o]; exact FP_s w1 (by omega)))) (fun r2 hc_r2 hp3 => ?_)
  obtain ⟨o_4, q_o_4⟩ : ∃ q, q = r2 := ⟨_, rfl⟩
  subst q_o_4
  replace hp3 : BoxC o_4 ∧ (Fr [(56, 9999)] o o_4) ∧ (FP o_4 56 256 x1) := hp3
  have hps_hp3 := hp3
  obtain ⟨hp3_0, hp3_1, hp3_2⟩ := hps_hp3
  obtain ⟨hB_o_4, fc_o_4, hp3⟩ := hp3
  replace hp3 := hid hp3
  have fr_o_4 : Fr [(56, 9999)] o o_4 := Fr.tr fr_o fc_o_4 rfl
  show T (b_J7_fill_53178__56_20 o_4) _
  unfold b_J7_fill_53178__56_20
  refine T_some ?_
  show BoxC o_4 ∧ (Fr [(56, 9999)] o o_4) ∧ (FP o_4 56 256 x1)
  exact ⟨hB_o_4, fr_o_4, (by first | assumption | (have q2 := w1; rwa [show x2 = 256 by omega] at q2) | exact FP_0 | (rw [e_o_4]; exact FP_s w1 (by omega)))⟩
set_option maxRecDepth 20000 in
set_option maxHeartbeats 4000000 in
theorem tl_J7_fill_53178__57_5 (x1 : Int) (x3 : Int) (i_o : OO) (i_x2 : Int) (hB_i_o : BoxC i_o) (k0 : 0 ≤ x1 ∧ x1 ≤ 1000000000) (k1 : x3 = 64) (v0 : 0 ≤ i_x2 ∧ i_x2 ≤ 64) (v1 : FP i_o 57 i_x2 x1) : T (loopW (fun s => l_J7_fill_53178__57_5 x1 x3 s.1 s.2) (i_o, i_x2)) (fun r => BoxC r ∧ (Fr [(57, 9999)] i_o r) ∧ (FP r 57 64 x1)) := by
  have fr_i_o : Fr [(57, 9999)] i_o i_o := Fr.rf
  refine T_loop (fun s => BoxC s.1 ∧ (Fr [(57, 9999)] i_o s.1) ∧ (0 ≤ s.2 ∧ s.2 ≤ 64) ∧ (FP s.1 57 s.2 x1)) (fun s => (64 - s.2).toNat) (by exact ⟨hB_i_o, fr_i_o, v0, v1⟩) (fun s hs => ?_)
  obtain ⟨o, x2⟩ := s
  replace hs : BoxC o ∧ (Fr [(57, 9999)] i_o o) ∧ (0 ≤ x2 ∧ x2 ≤ 64) ∧ (FP o 57 x2 x1) := hs
  obtain ⟨hB_o, fr_o, w0, w1⟩ := hs
  show T (l_J7_fill_53178__57_5 x1 x3 o x2) _
  unfold l_J7_fill_53178__57_5
  refine T_qLt ⟨by omega, by omega⟩ ⟨by omega, by omega⟩ (fun h1 => ?_) (fun h1 => ?_)
  ·
    refine T_qIn ⟨by omega, by omega⟩ ?_
    refine T_qNm (fun o2 e_o2 => ?_)
    have hB_o2 : BoxC o2 := by rw [e_o2]; exact Box.s1 hB_o (show 0 ≤ x1 ∧ x1 ≤ 1000000000 from ⟨by omega, by omega⟩)
    have fr_o2 : Fr [(57, 9999)] i_o o2 := by rw [e_o2]; exact Fr.s1 fr_o rfl
    refine T_some ?_
    show (BoxC o2 ∧ (Fr [(57, 9999)] i_o o2) ∧ (0 ≤ (x2 + 1) ∧ (x2 + 1) ≤ 64) ∧ (FP o2 57 (x2 + 1) x1)) ∧ (64 - (x2 + 1)).toNat < (64 - x2).toNat
    exact ⟨⟨hB_o2, fr_o2, (by omega), (by first | assumption | (have q2 := w1; rwa [show x2 = 64 by omega] at q2) | exact FP_0 | (rw [e_o2]; exact FP_s w1 (by omega)))⟩, by omega⟩
  ·
    refine T_some ?_
    show BoxC o ∧ (Fr [(57, 9999)] i_o o) ∧ (FP o 57 64 x1)
    exact ⟨hB_o, fr_o, (by first | assumption | (have q2 := w1; rwa [show x2 = 64 by omega] at q2) | exact FP_0 | (rw [e_o]; exact FP_s w1 (by omega)))⟩
set_option maxRecDepth 20000 in
set_option maxHeartbeats 4000000 in
theorem t_J7_fill_53178__57 (o : OO) (x1 : Int) (hB_o : BoxC o) (k0 : 0 ≤ x1 ∧ x1 ≤ 1000000000) : T (s_J7_fill_53178__57 o x1) (fun v => BoxC v ∧ (Fr [(57, 9999)] o v) ∧ (FP v 57 64 x1)) := by
  have fr_o : Fr [(57, 9999)] o o := Fr.rf
  unfold s_J7_fill_53178__57
  unfold e_J7_fill_53178__57_5
  refine T_qB (tl_J7_fill_53178__57_5 x1 64 o 0 hB_o (by omega) (by omega) (by omega) (by first | assumption | (have q2 := w1; rwa [show x2 = 64 by omega] at q2) | exact FP_0 | (rw [e_o]; exact FP_s w1 (by omega)))) (fun r2 hc_r2 hp3 => ?_)
  obtain ⟨o_4, q_o_4⟩ : ∃ q, q = r2 := ⟨_, rfl⟩
  subst q_o_4
  replace hp3 : BoxC o_4 ∧ (Fr [(57, 9999)] o o_4) ∧ (FP o_4 57 64 x1) := hp3
  have hps_hp3 := hp3
  obtain ⟨hp3_0, hp3_1, hp3_2⟩ := hps_hp3
  obtain ⟨hB_o_4, fc_o_4, hp3⟩ := hp3
  replace hp3 := hid hp3
  have fr_o_4 : Fr [(57, 9999)] o o_4 := Fr.tr fr_o fc_o_4 rfl
  show T (b_J7_fill_53178__57_20 o_4) _
  unfold b_J7_fill_53178__57_20
  refine T_some ?_
  show BoxC o_4 ∧ (Fr [(57, 9999)] o o_4) ∧ (FP o_4 57 64 x1)
  exact ⟨hB_o_4, fr_o_4, (by first | assumption | (have q2 := w1; rwa [show x2 = 64 by omega] at q2) | exact FP_0 | (rw [e_o_4]; exact FP_s w1 (by omega)))⟩
set_option maxRecDepth 20000 in
set_option maxHeartbeats 4000000 in
theorem t_X3_beside (x0 : Int) (x1 : Int) (k0 : 0 ≤ x0 ∧ x0 ≤ 63) (k1 : 0 ≤ x1 ∧ x1 ≤ 3) : T (s_X3_beside x0 x1) (fun v => (v = -9 ∨ (0 ≤ v ∧ v ≤ 63 ∧ (x1 = 0 ∧ v = x0 - 8 ∨ x1 = 1 ∧ v = x0 - 1 ∨ x1 = 2 ∧ v = x0 + 1 ∨ x1 = 3 ∧ v = x0 + 8))) ∧ (v = bsd x0 x1)) := by
  unfold s_X3_beside
  refine T_qEq ⟨by omega, by omega⟩ ⟨by decide, by decide⟩ (fun h1 => ?_) (fun h1 => ?_)
  ·
    refine T_qLt ⟨by omega, by omega⟩ ⟨by decide, by decide⟩ (fun h2 => ?_) (fun h2 => ?_)
    ·
      unfold b_X3_beside_43
      refine T_some ?_
      show ((-9) = -9 ∨ (0 ≤ (-9) ∧ (-9) ≤ 63 ∧ (x1 = 0 ∧ (-9) = x0 - 8 ∨ x1 = 1 ∧ (-9) = x0 - 1 ∨ x1 = 2 ∧ (-9) = x0 + 1 ∨ x1 = 3 ∧ (-9) = x0 + 8))) ∧ ((-9) = bsd x0 x1)
      exact ⟨(by omega), (by unfold bsd; split <;> first | omega | (split <;> first | omega | (split <;> first | omega | (split <;> omega))))⟩
    ·
      unfold b_X3_beside_43
      refine T_some ?_
      show ((x0 - 8) = -9 ∨ (0 ≤ (x0 - 8) ∧ (x0 - 8) ≤ 63 ∧ (x1 = 0 ∧ (x0 - 8) = x0 - 8 ∨ x1 = 1 ∧ (x0 - 8) = x0 - 1 ∨ x1 = 2 ∧ (x0 - 8) = x0 + 1 ∨ x1 = 3 ∧ (x0 - 8) = x0 + 8))) ∧ ((x0 - 8) = bsd x0 x1)
      exact ⟨(by omega), (by unfold bsd; split <;> first | omega | (split <;> first | omega | (split <;> first | omega | (split <;> omega))))⟩
  ·
    refine T_qEq ⟨by omega, by omega⟩ ⟨by decide, by decide⟩ (fun h3 => ?_) (fun h3 => ?_)
    ·
      refine T_qDv ⟨⟨by omega, by omega⟩, ⟨by decide, by decide⟩, by decide⟩ ?_
      have jd4 : jq x0 8 = x0 / 8 := jq_nn (by omega)
      refine T_qLt ⟨by decide, by decide⟩ ⟨by omega, by omega⟩ (fun h5 => ?_) (fun h5 => ?_)
      ·
        unfold b_X3_beside_59
        refine T_some ?_
        show ((x0 - 1) = -9 ∨ (0 ≤ (x0 - 1) ∧ (x0 - 1) ≤ 63 ∧ (x1 = 0 ∧ (x0 - 1) = x0 - 8 ∨ x1 = 1 ∧ (x0 - 1) = x0 - 1 ∨ x1 = 2 ∧ (x0 - 1) = x0 + 1 ∨ x1 = 3 ∧ (x0 - 1) = x0 + 8))) ∧ ((x0 - 1) = bsd x0 x1)
        exact ⟨(by omega), (by unfold bsd; split <;> first | omega | (split <;> first | omega | (split <;> first | omega | (split <;> omega))))⟩
      ·
        unfold b_X3_beside_59
        refine T_some ?_
        show ((-9) = -9 ∨ (0 ≤ (-9) ∧ (-9) ≤ 63 ∧ (x1 = 0 ∧ (-9) = x0 - 8 ∨ x1 = 1 ∧ (-9) = x0 - 1 ∨ x1 = 2 ∧ (-9) = x0 + 1 ∨ x1 = 3 ∧ (-9) = x0 + 8))) ∧ ((-9) = bsd x0 x1)
        exact ⟨(by omega), (by unfold bsd; split <;> first | omega | (split <;> first | omega | (split <;> first | omega | (split <;> omega))))⟩
    ·
      refine T_qEq ⟨by omega, by omega⟩ ⟨by decide, by decide⟩ (fun h6 => ?_) (fun h6 => ?_)
      ·
        refine T_qDv ⟨⟨by omega, by omega⟩, ⟨by decide, by decide⟩, by decide⟩ ?_
        have jd7 : jq x0 8 = x0 / 8 := jq_nn (by omega)
        refine T_qLt ⟨by omega, by omega⟩ ⟨by decide, by decide⟩ (fun h8 => ?_) (fun h8 => ?_)
        ·
          unfold b_X3_beside_77
          refine T_some ?_
          show ((x0 + 1) = -9 ∨ (0 ≤ (x0 + 1) ∧ (x0 + 1) ≤ 63 ∧ (x1 = 0 ∧ (x0 + 1) = x0 - 8 ∨ x1 = 1 ∧ (x0 + 1) = x0 - 1 ∨ x1 = 2 ∧ (x0 + 1) = x0 + 1 ∨ x1 = 3 ∧ (x0 + 1) = x0 + 8))) ∧ ((x0 + 1) = bsd x0 x1)
          exact ⟨(by omega), (by unfold bsd; split <;> first | omega | (split <;> first | omega | (split <;> first | omega | (split <;> omega))))⟩
        ·
          unfold b_X3_beside_77
          refine T_some ?_
          show ((-9) = -9 ∨ (0 ≤ (-9) ∧ (-9) ≤ 63 ∧ (x1 = 0 ∧ (-9) = x0 - 8 ∨ x1 = 1 ∧ (-9) = x0 - 1 ∨ x1 = 2 ∧ (-9) = x0 + 1 ∨ x1 = 3 ∧ (-9) = x0 + 8))) ∧ ((-9) = bsd x0 x1)
          exact ⟨(by omega), (by unfold bsd; split <;> first | omega | (split <;> first | omega | (split <;> first | omega | (split <;> omega))))⟩
      ·
        refine T_qLt ⟨by omega, by omega⟩ ⟨by decide, by decide⟩ (fun h9 => ?_) (fun h9 => ?_)
        ·
          unfold b_X3_beside_93
          refine T_some ?_
          show ((x0 + 8) = -9 ∨ (0 ≤ (x0 + 8) ∧ (x0 + 8) ≤ 63 ∧ (x1 = 0 ∧ (x0 + 8) = x0 - 8 ∨ x1 = 1 ∧ (x0 + 8) = x0 - 1 ∨ x1 = 2 ∧ (x0 + 8) = x0 + 1 ∨ x1 = 3 ∧ (x0 + 8) = x0 + 8))) ∧ ((x0 + 8) = bsd x0 x1)
          exact ⟨(by omega), (by unfold bsd; split <;> first | omega | (split <;> first | omega | (split <;> first | omega | (split <;> omega))))⟩
        ·
          unfold b_X3_beside_93
          refine T_some ?_
          show ((-9) = -9 ∨ (0 ≤ (-9) ∧ (-9) ≤ 63 ∧ (x1 = 0 ∧ (-9) = x0 - 8 ∨ x1 = 1 ∧ (-9) = x0 - 1 ∨ x1 = 2 ∧ (-9) = x0 + 1 ∨ x1 = 3 ∧ (-9) = x0 + 8))) ∧ ((-9) = bsd x0 x1)
          exact ⟨(by omega), (by unfold bsd; split <;> first | omega | (split <;> first | omega | (split <;> first | omega | (split <;> omega))))⟩
set_option maxRecDepth 20000 in
set_option maxHeartbeats 4000000 in
theorem t_X3_slope (o : OO) (x1 : Int) (x2 : Int) (hB_o : BoxC o) (k0 : 0 ≤ x1 ∧ x1 ≤ 63) (k1 : 0 ≤ x2 ∧ x2 ≤ 63) : T (s_X3_slope o x1 x2) (fun v => (0 ≤ v ∧ v ≤ 99)) := by
  unfold s_X3_slope
  refine T_qIn ⟨by omega, by omega⟩ ?_
  refine T_qNm (fun n2 e_n2 => ?_)
  have b_n2 : 0 ≤ n2 ∧ n2 ≤ 99 := by rw [e_n2]; exact bC_9 hB_o _
  refine T_qIn ⟨by omega, by omega⟩ ?_
  refine T_qNm (fun n4 e_n4 => ?_)
  have b_n4 : 0 ≤ n4 ∧ n4 ≤ 99 := by rw [e_n4]; exact bC_9 hB_o _
  refine T_qR ⟨by omega, by omega⟩ ?_
  refine T_some ?_
  show (0 ≤ (max (n2 - n4) (-(n2 - n4))) ∧ (max (n2 - n4) (-(n2 - n4))) ≤ 99)
  exact (by omega)
set_option maxRecDepth 20000 in
set_option maxHeartbeats 4000000 in
theorem t_X3_onward (o : OO) (x1 : Int) (x2 : Int) (x3 : Int) (hB_o : BoxC o) (k0 : 0 ≤ x1 ∧ x1 ≤ 63) (k1 : 0 ≤ x2 ∧ x2 ≤ 3) (k2 : inR x3) : T (s_X3_onward o x1 x2 x3) (fun v => (-9 ≤ v ∧ v ≤ 63) ∧ (v = -9 ∨ (0 ≤ v ∧ v = bsd x1 x2))) := by
  unfold s_X3_onward
  refine T_qB (t_X3_beside x1 x2 (by omega) (by omega)) (fun r1 hc_r1 hp1 => ?_)
  replace hp1 : (r1 = -9 ∨ (0 ≤ r1 ∧ r1 ≤ 63 ∧ (x2 = 0 ∧ r1 = x1 - 8 ∨ x2 = 1 ∧ r1 = x1 - 1 ∨ x2 = 2 ∧ r1 = x1 + 1 ∨ x2 = 3 ∧ r1 = x1 + 8))) ∧ (r1 = bsd x1 x2) := hp1
  have hps_hp1 := hp1
  obtain ⟨hp1_0, hp1_1⟩ := hps_hp1
  replace hp1 := hid hp1
  refine T_qEq ⟨by omega, by omega⟩ ⟨by decide, by decide⟩ (fun h2 => ?_) (fun h2 => ?_)
  ·
    unfold b_X3_onward_34
    refine T_some ?_
    show (-9 ≤ (-9) ∧ (-9) ≤ 63) ∧ ((-9) = -9 ∨ (0 ≤ (-9) ∧ (-9) = bsd x1 x2))
    exact ⟨(by omega), (by omega)⟩
  ·
    refine T_qB (t_X3_isWater o r1 hB_o (by omega)) (fun r3 hc_r3 hp3 => ?_)
    replace hp3 : ((r3 = 1 ∧ (o.1 8 r1.toNat = 4)) ∨ (r3 = 0 ∧ ¬ (o.1 8 r1.toNat = 4))) := hp3
    refine T_qEq ⟨by omega, by omega⟩ ⟨by decide, by decide⟩ (fun h4 => ?_) (fun h4 => ?_)
    ·
      refine T_qB (t_X3_slope o x1 r1 hB_o (by omega) (by omega)) (fun r5 hc_r5 hp5 => ?_)
      replace hp5 : (0 ≤ r5 ∧ r5 ≤ 99) := hp5
      refine T_qLt ⟨by omega, by omega⟩ ⟨by omega, by omega⟩ (fun h6 => ?_) (fun h6 => ?_)
      ·
        unfold b_X3_onward_34
        refine T_some ?_
        show (-9 ≤ (-9) ∧ (-9) ≤ 63) ∧ ((-9) = -9 ∨ (0 ≤ (-9) ∧ (-9) = bsd x1 x2))
        exact ⟨(by omega), (by omega)⟩
      ·
        refine T_some ?_
        show (-9 ≤ r1 ∧ r1 ≤ 63) ∧ (r1 = -9 ∨ (0 ≤ r1 ∧ r1 = bsd x1 x2))
        exact ⟨(by omega), (by omega)⟩
    ·
      unfold b_X3_onward_34
      refine T_some ?_
      show (-9 ≤ (-9) ∧ (-9) ≤ 63) ∧ ((-9) = -9 ∨ (0 ≤ (-9) ∧ (-9) = bsd x1 x2))
      exact ⟨(by omega), (by omega)⟩
set_option maxRecDepth 20000 in
set_option maxHeartbeats 4000000 in
theorem tl_X10_rouseBeside_3 (x2 : Int) (x3 : Int) (i_o : OO) (i_x4 : Int) (hB_i_o : BoxC i_o) (k0 : inR x2) (k1 : 0 ≤ x3 ∧ x3 ≤ 63) (k2 : 0 ≤ i_o.1 53 9) (k3 : i_o.1 53 9 ≤ 100000000) (k4 : 0 ≤ i_o.1 53 9) (k5 : i_o.1 53 9 ≤ 100000000) (v0 : 0 ≤ i_x4 ∧ i_x4 ≤ 4) (v1 : 0 ≤ i_o.1 53 9) (v2 : i_o.1 53 9 ≤ i_o.1 53 9 + i_x4) : T (loopW (fun s => l_X10_rouseBeside_3 x2 x3 s.1 s.2) (i_o, i_x4)) (fun r => BoxC r ∧ (Fr [(53, 7), (53, 9), (58, 9999)] i_o r) ∧ (0 ≤ r.1 53 9) ∧ (r.1 53 9 ≤ i_o.1 53 9 + 4)) := by
  have fr_i_o : Fr [(53, 7), (53, 9), (58, 9999)] i_o i_o := Fr.rf
  refine T_loop (fun s => BoxC s.1 ∧ (Fr [(53, 7), (53, 9), (58, 9999)] i_o s.1) ∧ (0 ≤ s.2 ∧ s.2 ≤ 4) ∧ (0 ≤ s.1.1 53 9) ∧ (s.1.1 53 9 ≤ i_o.1 53 9 + s.2)) (fun s => (4 - s.2).toNat) (by exact ⟨hB_i_o, fr_i_o, v0, v1, v2⟩) (fun s hs => ?_)
  obtain ⟨o, x4⟩ := s
  replace hs : BoxC o ∧ (Fr [(53, 7), (53, 9), (58, 9999)] i_o o) ∧ (0 ≤ x4 ∧ x4 ≤ 4) ∧ (0 ≤ o.1 53 9) ∧ (o.1 53 9 ≤ i_o.1 53 9 + x4) := hs
  obtain ⟨hB_o, fr_o, w0, w1, w2⟩ := hs
  have g53_10_i := bC_53_10 hB_i_o
  have g53_10_o : o.1 53 10 = i_o.1 53 10 := fr_o.1 53 10 rfl
  have g53_8_i := bC_53_8 hB_i_o
  have g53_8_o : o.1 53 8 = i_o.1 53 8 := fr_o.1 53 8 rfl
  have g53_9_i := bC_53_9 hB_i_o
  have g53_9_o := bC_53_9 hB_o
  show T (l_X10_rouseBeside_3 x2 x3 o x4) _
  unfold l_X10_rouseBeside_3
  refine T_qLt ⟨by omega, by omega⟩ ⟨by decide, by decide⟩ (fun h1 => ?_) (fun h1 => ?_)
  ·
    refine T_qB (t_X3_onward o x3 x4 x2 hB_o (by omega) (by omega) (by omega)) (fun r1 hc_r1 hp2 => ?_)
    replace hp2 : (-9 ≤ r1 ∧ r1 ≤ 63) ∧ (r1 = -9 ∨ (0 ≤ r1 ∧ r1 = bsd x3 x4)) := hp2
    have hps_hp2 := hp2
    obtain ⟨hp2_0, hp2_1⟩ := hps_hp2
    replace hp2 := hid hp2
    refine T_qEq ⟨by omega, by omega⟩ ⟨by decide, by decide⟩ (fun h3 => ?_) (fun h3 => ?_)
    ·
      unfold b_X10_rouseBeside_93
      refine T_some ?_
      show (BoxC o ∧ (Fr [(53, 7), (53, 9), (58, 9999)] i_o o) ∧ (0 ≤ (x4 + 1) ∧ (x4 + 1) ≤ 4) ∧ (0 ≤ o.1 53 9) ∧ (o.1 53 9 ≤ i_o.1 53 9 + (x4 + 1))) ∧ (4 - (x4 + 1)).toNat < (4 - x4).toNat
      exact ⟨⟨hB_o, fr_o, (by omega), (by omega), (by omega)⟩, by omega⟩
    ·
      refine T_qEq ⟨by omega, by omega⟩ ⟨by omega, by omega⟩ (fun h4 => ?_) (fun h4 => ?_)
      ·
        unfold b_X10_rouseBeside_93
        refine T_some ?_
        show (BoxC o ∧ (Fr [(53, 7), (53, 9), (58, 9999)] i_o o) ∧ (0 ≤ (x4 + 1) ∧ (x4 + 1) ≤ 4) ∧ (0 ≤ o.1 53 9) ∧ (o.1 53 9 ≤ i_o.1 53 9 + (x4 + 1))) ∧ (4 - (x4 + 1)).toNat < (4 - x4).toNat
        exact ⟨⟨hB_o, fr_o, (by omega), (by omega), (by omega)⟩, by omega⟩
      ·
        refine T_qB (t_X3_has (o.2 53 7) r1) (fun r3 hc_r3 hp5 => ?_)
        replace hp5 : (0 ≤ r3 ∧ r3 ≤ 1) ∧ (HBT (o.2 53 7) r1 r3) := hp5
        have hps_hp5 := hp5
        obtain ⟨hp5_0, hp5_1⟩ := hps_hp5
        replace hp5 := hid hp5
        refine T_qEq ⟨by omega, by omega⟩ ⟨by decide, by decide⟩ (fun h6 => ?_) (fun h6 => ?_)
        ·
          refine T_qDv ⟨⟨by omega, by omega⟩, ⟨by decide, by decide⟩, by decide⟩ ?_
          have jd7 : jq ((o.1 53 8) + (o.1 53 9)) 64 = ((o.1 53 8) + (o.1 53 9)) / 64 := jq_nn (by omega)
          refine T_qIn ⟨by omega, by omega⟩ ?_
          refine T_qNm (fun o7 e_o7 => ?_)
          have hB_o7 : BoxC o7 := by rw [e_o7]; exact Box.s1 hB_o (show 0 ≤ r1 ∧ r1 ≤ 63 from ⟨by omega, by omega⟩)
          have fr_o7 : Fr [(53, 7), (53, 9), (58, 9999)] i_o o7 := by rw [e_o7]; exact Fr.s1 fr_o rfl
          have g53_10_o7 : o7.1 53 10 = o.1 53 10 := by rw [e_o7]; rfl
          have g53_8_o7 : o7.1 53 8 = o.1 53 8 := by rw [e_o7]; rfl
          have g53_9_o7 : o7.1 53 9 = o.1 53 9 := by rw [e_o7]; rfl
          refine T_qNm (fun o8 e_o8 => ?_)
          have hB_o8 : BoxC o8 := by rw [e_o8]; exact Box.s1 hB_o7 (show -2147483648 ≤ ((o7.1 53 9) + 1) ∧ ((o7.1 53 9) + 1) ≤ 2147483647 from ⟨by omega, by omega⟩)
          have fr_o8 : Fr [(53, 7), (53, 9), (58, 9999)] i_o o8 := by rw [e_o8]; exact Fr.s1 fr_o7 rfl
          have g53_10_o8 : o8.1 53 10 = o7.1 53 10 := by rw [e_o8]; rfl
          have g53_8_o8 : o8.1 53 8 = o7.1 53 8 := by rw [e_o8]; rfl
          have g53_9_o8 : o8.1 53 9 = ((o7.1 53 9) + 1) := by rw [e_o8]; rfl
          refine T_qB (t_X3_bit r1) (fun p9 hc_p9 hp8 => ?_)
          replace hp8 : (p9 = jshl 1 (Int32.ofInt r1)) := hp8
          refine T_qNm (fun o11 e_o11 => ?_)
          have hB_o11 : BoxC o11 := by rw [e_o11]; exact Box.s2 hB_o8
          have fr_o11 : Fr [(53, 7), (53, 9), (58, 9999)] i_o o11 := by rw [e_o11]; exact Fr.s2 fr_o8 rfl
          have g53_10_o11 : o11.1 53 10 = o8.1 53 10 := by rw [e_o11]; rfl
          have g53_8_o11 : o11.1 53 8 = o8.1 53 8 := by rw [e_o11]; rfl
          have g53_9_o11 : o11.1 53 9 = o8.1 53 9 := by rw [e_o11]; rfl
          unfold b_X10_rouseBeside_93
          refine T_some ?_
          show (BoxC o11 ∧ (Fr [(53, 7), (53, 9), (58, 9999)] i_o o11) ∧ (0 ≤ (x4 + 1) ∧ (x4 + 1) ≤ 4) ∧ (0 ≤ o11.1 53 9) ∧ (o11.1 53 9 ≤ i_o.1 53 9 + (x4 + 1))) ∧ (4 - (x4 + 1)).toNat < (4 - x4).toNat
          exact ⟨⟨hB_o11, fr_o11, (by omega), (by omega), (by omega)⟩, by omega⟩
        ·
          unfold b_X10_rouseBeside_93
          refine T_some ?_
          show (BoxC o ∧ (Fr [(53, 7), (53, 9), (58, 9999)] i_o o) ∧ (0 ≤ (x4 + 1) ∧ (x4 + 1) ≤ 4) ∧ (0 ≤ o.1 53 9) ∧ (o.1 53 9 ≤ i_o.1 53 9 + (x4 + 1))) ∧ (4 - (x4 + 1)).toNat < (4 - x4).toNat
          exact ⟨⟨hB_o, fr_o, (by omega), (by omega), (by omega)⟩, by omega⟩
  ·
    refine T_some ?_
    show BoxC o ∧ (Fr [(53, 7), (53, 9), (58, 9999)] i_o o) ∧ (0 ≤ o.1 53 9) ∧ (o.1 53 9 ≤ i_o.1 53 9 + 4)
    exact ⟨hB_o, fr_o, (by omega), (by omega)⟩
set_option maxRecDepth 20000 in
set_option maxHeartbeats 4000000 in
theorem t_X10_rouseBeside (o : OO) (x2 : Int) (x3 : Int) (hB_o : BoxC o) (k0 : inR x2) (k1 : 0 ≤ x3 ∧ x3 ≤ 63) (k2 : 0 ≤ o.1 53 9) (k3 : o.1 53 9 ≤ 100000000) : T (s_X10_rouseBeside o x2 x3) (fun v => BoxC v ∧ (Fr [(53, 7), (53, 9), (58, 9999)] o v) ∧ (0 ≤ v.1 53 9) ∧ (v.1 53 9 ≤ o.1 53 9 + 4)) := by
  have fr_o : Fr [(53, 7), (53, 9), (58, 9999)] o o := Fr.rf
  have g53_10_o := bC_53_10 hB_o
  have g53_8_o := bC_53_8 hB_o
  have g53_9_o := bC_53_9 hB_o
  unfold s_X10_rouseBeside
  unfold e_X10_rouseBeside_3
  refine T_qB (tl_X10_rouseBeside_3 x2 x3 o 0 hB_o (by omega) (by omega) (by omega) (by omega) (by omega) (by omega) (by omega) (by omega) (by omega)) (fun r9 hc_r9 hp10 => ?_)
  obtain ⟨o_11, q_o_11⟩ : ∃ q, q = r9 := ⟨_, rfl⟩
  subst q_o_11
  replace hp10 : BoxC o_11 ∧ (Fr [(53, 7), (53, 9), (58, 9999)] o o_11) ∧ (0 ≤ o_11.1 53 9) ∧ (o_11.1 53 9 ≤ o.1 53 9 + 4) := hp10
  have hps_hp10 := hp10
  obtain ⟨hp10_0, hp10_1, hp10_2, hp10_3⟩ := hps_hp10
  obtain ⟨hB_o_11, fc_o_11, hp10⟩ := hp10
  replace hp10 := hid hp10
  have fr_o_11 : Fr [(53, 7), (53, 9), (58, 9999)] o o_11 := Fr.tr fr_o fc_o_11 rfl
  have g53_10_o_11 : o_11.1 53 10 = o.1 53 10 := fc_o_11.1 53 10 rfl
  have g53_8_o_11 : o_11.1 53 8 = o.1 53 8 := fc_o_11.1 53 8 rfl
  have g53_9_o_11 := bC_53_9 hB_o_11
  show T (b_X10_rouseBeside_99 o_11) _
  unfold b_X10_rouseBeside_99
  refine T_some ?_
  show BoxC o_11 ∧ (Fr [(53, 7), (53, 9), (58, 9999)] o o_11) ∧ (0 ≤ o_11.1 53 9) ∧ (o_11.1 53 9 ≤ o.1 53 9 + 4)
  exact ⟨hB_o_11, fr_o_11, (by omega), (by omega)⟩
set_option maxRecDepth 20000 in
set_option maxHeartbeats 4000000 in
theorem t_X10_next (o : OO) (hB_o : BoxC o) (k0 : 1 ≤ o.1 53 9) : T (s_X10_next o) (fun v => BoxC v.2 ∧ (Fr [(53, 7), (53, 8), (53, 9)] o v.2) ∧ (0 ≤ v.1 ∧ v.1 ≤ 63) ∧ (v.2.1 53 9 = o.1 53 9 - 1)) := by
  have fr_o : Fr [(53, 7), (53, 8), (53, 9)] o o := Fr.rf
  have g53_8_o := bC_53_8 hB_o
  have g53_9_o := bC_53_9 hB_o
  unfold s_X10_next
  refine T_qIn ⟨by omega, by omega⟩ ?_
  refine T_qNm (fun n2 e_n2 => ?_)
  have b_n2 : 0 ≤ n2 ∧ n2 ≤ 63 := by rw [e_n2]; exact bC_58 hB_o _
  refine T_qDv ⟨⟨by omega, by omega⟩, ⟨by decide, by decide⟩, by decide⟩ ?_
  have jd1 : jq ((o.1 53 8) + 1) 64 = ((o.1 53 8) + 1) / 64 := jq_nn (by omega)
  refine T_qNm (fun o4 e_o4 => ?_)
  have hB_o4 : BoxC o4 := by rw [e_o4]; exact Box.s1 hB_o (show 0 ≤ (((o.1 53 8) + 1) - jq ((o.1 53 8) + 1) 64 * 64) ∧ (((o.1 53 8) + 1) - jq ((o.1 53 8) + 1) 64 * 64) ≤ 63 from ⟨by omega, by omega⟩)
  have fr_o4 : Fr [(53, 7), (53, 8), (53, 9)] o o4 := by rw [e_o4]; exact Fr.s1 fr_o rfl
  have g53_8_o4 : o4.1 53 8 = (((o.1 53 8) + 1) - jq ((o.1 53 8) + 1) 64 * 64) := by rw [e_o4]; rfl
  have g53_9_o4 : o4.1 53 9 = o.1 53 9 := by rw [e_o4]; rfl
  refine T_qNm (fun o5 e_o5 => ?_)
  have hB_o5 : BoxC o5 := by rw [e_o5]; exact Box.s1 hB_o4 (show -2147483648 ≤ ((o4.1 53 9) - 1) ∧ ((o4.1 53 9) - 1) ≤ 2147483647 from ⟨by omega, by omega⟩)
  have fr_o5 : Fr [(53, 7), (53, 8), (53, 9)] o o5 := by rw [e_o5]; exact Fr.s1 fr_o4 rfl
  have g53_8_o5 : o5.1 53 8 = o4.1 53 8 := by rw [e_o5]; rfl
  have g53_9_o5 : o5.1 53 9 = ((o4.1 53 9) - 1) := by rw [e_o5]; rfl
  refine T_qB (t_X3_bit n2) (fun p6 hc_p6 hp2 => ?_)
  replace hp2 : (p6 = jshl 1 (Int32.ofInt n2)) := hp2
  refine T_qNm (fun o8 e_o8 => ?_)
  have hB_o8 : BoxC o8 := by rw [e_o8]; exact Box.s2 hB_o5
  have fr_o8 : Fr [(53, 7), (53, 8), (53, 9)] o o8 := by rw [e_o8]; exact Fr.s2 fr_o5 rfl
  have g53_8_o8 : o8.1 53 8 = o5.1 53 8 := by rw [e_o8]; rfl
  have g53_9_o8 : o8.1 53 9 = o5.1 53 9 := by rw [e_o8]; rfl
  refine T_some ?_
  show BoxC o8 ∧ (Fr [(53, 7), (53, 8), (53, 9)] o o8) ∧ (0 ≤ n2 ∧ n2 ≤ 63) ∧ (o8.1 53 9 = o.1 53 9 - 1)
  exact ⟨hB_o8, fr_o8, (by omega), (by omega)⟩
set_option maxRecDepth 20000 in
set_option maxHeartbeats 4000000 in
theorem t_X10_rest (o : OO) (x1 : Int) (x2 : Int) (hB_o : BoxC o) (k0 : 0 ≤ x1 ∧ x1 ≤ 63) (k1 : 0 ≤ x2 ∧ x2 ≤ 3) : T (s_X10_rest o x1 x2) (fun v => (0 ≤ v ∧ v ≤ 1000000000) ∧ (v = 0 ∨ v = o.1 56 ((x1 * 4) + x2).toNat ∨ (v = o.1 57 x1.toNat + 5))) := by
  have g53_10_o := bC_53_10 hB_o
  unfold s_X10_rest
  refine T_qEq ⟨by omega, by omega⟩ ⟨by omega, by omega⟩ (fun h1 => ?_) (fun h1 => ?_)
  ·
    unfold b_X10_rest_33
    refine T_some ?_
    show (0 ≤ 0 ∧ 0 ≤ 1000000000) ∧ (0 = 0 ∨ 0 = o.1 56 ((x1 * 4) + x2).toNat ∨ (0 = o.1 57 x1.toNat + 5))
    exact ⟨(by omega), (by omega)⟩
  ·
    refine T_qIn ⟨by omega, by omega⟩ ?_
    refine T_qNm (fun n2 e_n2 => ?_)
    have b_n2 : 0 ≤ n2 ∧ n2 ≤ 1000000000 := by rw [e_n2]; exact bC_56 hB_o _
    refine T_qIn ⟨by omega, by omega⟩ ?_
    refine T_qNm (fun n4 e_n4 => ?_)
    have b_n4 : 0 ≤ n4 ∧ n4 ≤ 1000000000 := by rw [e_n4]; exact bC_57 hB_o _
    refine T_qR ⟨by omega, by omega⟩ ?_
    refine T_qR ⟨by omega, by omega⟩ ?_
    unfold b_X10_rest_33
    refine T_some ?_
    show (0 ≤ (min n2 (n4 + 5)) ∧ (min n2 (n4 + 5)) ≤ 1000000000) ∧ ((min n2 (n4 + 5)) = 0 ∨ (min n2 (n4 + 5)) = o.1 56 ((x1 * 4) + x2).toNat ∨ ((min n2 (n4 + 5)) = o.1 57 x1.toNat + 5))
    exact ⟨(by omega), (by omega)⟩
set_option maxRecDepth 20000 in
set_option maxHeartbeats 4000000 in
theorem tl_X10_improve_6 (x2 : Int) (x3 : Int) (i_o : OO) (i_x4 : Int) (i_x5 : Int) (hB_i_o : BoxC i_o) (k0 : inR x2) (k1 : 0 ≤ x3 ∧ x3 ≤ 63) (v0 : 0 ≤ i_x5 ∧ i_x5 ≤ 4) (v1 : 0 ≤ i_x4 ∧ i_x4 ≤ 1) (v2 : FNB i_o → FNB i_o) : T (loopW (fun s => l_X10_improve_6 x2 x3 s.1 s.2.1 s.2.2) (i_o, i_x4, i_x5)) (fun r => BoxC r.1 ∧ (Fr [(56, 9999), (57, 9999)] i_o r.1) ∧ (0 ≤ r.2 ∧ r.2 ≤ 1) ∧ (FNB i_o → FNB r.1)) := by
  have fr_i_o : Fr [(56, 9999), (57, 9999)] i_o i_o := Fr.rf
  refine T_loop (fun s => BoxC s.1 ∧ (Fr [(56, 9999), (57, 9999)] i_o s.1) ∧ (0 ≤ s.2.2 ∧ s.2.2 ≤ 4) ∧ (0 ≤ s.2.1 ∧ s.2.1 ≤ 1) ∧ (FNB i_o → FNB s.1)) (fun s => (4 - s.2.2).toNat) (by exact ⟨hB_i_o, fr_i_o, v0, v1, v2⟩) (fun s hs => ?_)
  obtain ⟨o, x4, x5⟩ := s
  replace hs : BoxC o ∧ (Fr [(56, 9999), (57, 9999)] i_o o) ∧ (0 ≤ x5 ∧ x5 ≤ 4) ∧ (0 ≤ x4 ∧ x4 ≤ 1) ∧ (FNB i_o → FNB o) := hs
  obtain ⟨hB_o, fr_o, w0, w1, w2⟩ := hs
  show T (l_X10_improve_6 x2 x3 o x4 x5) _
  unfold l_X10_improve_6
  refine T_qLt ⟨by omega, by omega⟩ ⟨by decide, by decide⟩ (fun h1 => ?_) (fun h1 => ?_)
  ·
    refine T_qB (t_X3_onward o x3 x5 x2 hB_o (by omega) (by omega) (by omega)) (fun r1 hc_r1 hp2 => ?_)
    replace hp2 : (-9 ≤ r1 ∧ r1 ≤ 63) ∧ (r1 = -9 ∨ (0 ≤ r1 ∧ r1 = bsd x3 x5)) := hp2
    have hps_hp2 := hp2
    obtain ⟨hp2_0, hp2_1⟩ := hps_hp2
    replace hp2 := hid hp2
    refine T_qEq ⟨by omega, by omega⟩ ⟨by decide, by decide⟩ (fun h3 => ?_) (fun h3 => ?_)
    ·
      unfold b_X10_improve_126
      refine T_some ?_
      show (BoxC o ∧ (Fr [(56, 9999), (57, 9999)] i_o o) ∧ (0 ≤ (x5 + 1) ∧ (x5 + 1) ≤ 4) ∧ (0 ≤ x4 ∧ x4 ≤ 1) ∧ (FNB i_o → FNB o)) ∧ (4 - (x5 + 1)).toNat < (4 - x5).toNat
      exact ⟨⟨hB_o, fr_o, (by omega), (by omega), (by first | exact fun h => h | assumption | exact fun h => fn21 h)⟩, by omega⟩
    ·
      refine T_qB (t_X10_rest o r1 x5 hB_o (by omega) (by omega)) (fun r3 hc_r3 hp4 => ?_)
      replace hp4 : (0 ≤ r3 ∧ r3 ≤ 1000000000) ∧ (r3 = 0 ∨ r3 = o.1 56 ((r1 * 4) + x5).toNat ∨ (r3 = o.1 57 r1.toNat + 5)) := hp4
      have hps_hp4 := hp4
      obtain ⟨hp4_0, hp4_1⟩ := hps_hp4
      replace hp4 := hid hp4
      refine T_qLt ⟨by omega, by omega⟩ ⟨by decide, by decide⟩ (fun h5 => ?_) (fun h5 => ?_)
      ·
        refine T_qIn ⟨by omega, by omega⟩ ?_
        refine T_qNm (fun n6 e_n6 => ?_)
        have b_n6 : 0 ≤ n6 ∧ n6 ≤ 2000 := by rw [e_n6]; exact bC_54 hB_o _
        refine T_qB (t_X3_slope o x3 r1 hB_o (by omega) (by omega)) (fun r7 hc_r7 hp6 => ?_)
        replace hp6 : (0 ≤ r7 ∧ r7 ≤ 99) := hp6
        refine T_qB (t_X10_rest o r1 x5 hB_o (by omega) (by omega)) (fun r9 hc_r9 hp7 => ?_)
        replace hp7 : (0 ≤ r9 ∧ r9 ≤ 1000000000) ∧ (r9 = 0 ∨ r9 = o.1 56 ((r1 * 4) + x5).toNat ∨ (r9 = o.1 57 r1.toNat + 5)) := hp7
        have hps_hp7 := hp7
        obtain ⟨hp7_0, hp7_1⟩ := hps_hp7
        replace hp7 := hid hp7
        have hq9 := Option.some.inj (hc_r9.symm.trans hc_r3)
        have rs9 := hp7_1
        have fb9 : FNB i_o → r9 ≤ 3000 * CFC o + 5 := fun h => by have h1 := (w2 h).1 ((r1 * 4) + x5).toNat (by omega); have h2 := (w2 h).2 r1.toNat (by omega); have h3 := CFC_rng o; omega
        refine T_qNm (fun n11 e_n11 => ?_)
        refine T_qIn ⟨by omega, by omega⟩ ?_
        refine T_qNm (fun n13 e_n13 => ?_)
        have b_n13 : 0 ≤ n13 ∧ n13 ≤ 1000000000 := by rw [e_n13]; exact bC_56 hB_o _
        refine T_qLt ⟨by omega, by omega⟩ ⟨by omega, by omega⟩ (fun h8 => ?_) (fun h8 => ?_)
        ·
          refine T_qIn ⟨by omega, by omega⟩ ?_
          refine T_qNm (fun o15 e_o15 => ?_)
          have hB_o15 : BoxC o15 := by rw [e_o15]; exact Box.s1 hB_o (show 0 ≤ n11 ∧ n11 ≤ 1000000000 from ⟨by omega, by omega⟩)
          have fr_o15 : Fr [(56, 9999), (57, 9999)] i_o o15 := by rw [e_o15]; exact Fr.s1 fr_o rfl
          refine T_qIn ⟨by omega, by omega⟩ ?_
          refine T_qNm (fun n17 e_n17 => ?_)
          have b_n17 : 0 ≤ n17 ∧ n17 ≤ 1000000000 := by rw [e_n17]; exact bC_57 hB_o15 _
          refine T_qR ⟨by omega, by omega⟩ ?_
          refine T_qR ⟨by omega, by omega⟩ ?_
          refine T_qIn ⟨by omega, by omega⟩ ?_
          refine T_qNm (fun o21 e_o21 => ?_)
          have hB_o21 : BoxC o21 := by rw [e_o21]; exact Box.s1 hB_o15 (show 0 ≤ (min n17 n11) ∧ (min n17 n11) ≤ 1000000000 from ⟨by omega, by omega⟩)
          have fr_o21 : Fr [(56, 9999), (57, 9999)] i_o o21 := by rw [e_o21]; exact Fr.s1 fr_o15 rfl
          have fn21 : FNB i_o → FNB o21 := fun h => by rw [e_o21, e_n17, e_o15]; exact FNB_st (w2 h) (by omega) (by omega) (by omega) (by have := fb9 h; omega) (by omega) rfl
          unfold b_X10_improve_126
          refine T_some ?_
          show (BoxC o21 ∧ (Fr [(56, 9999), (57, 9999)] i_o o21) ∧ (0 ≤ (x5 + 1) ∧ (x5 + 1) ≤ 4) ∧ (0 ≤ 1 ∧ 1 ≤ 1) ∧ (FNB i_o → FNB o21)) ∧ (4 - (x5 + 1)).toNat < (4 - x5).toNat
          exact ⟨⟨hB_o21, fr_o21, (by omega), (by omega), (by first | exact fun h => h | assumption | exact fun h => fn21 h)⟩, by omega⟩
        ·
          unfold b_X10_improve_126
          refine T_some ?_
          show (BoxC o ∧ (Fr [(56, 9999), (57, 9999)] i_o o) ∧ (0 ≤ (x5 + 1) ∧ (x5 + 1) ≤ 4) ∧ (0 ≤ x4 ∧ x4 ≤ 1) ∧ (FNB i_o → FNB o)) ∧ (4 - (x5 + 1)).toNat < (4 - x5).toNat
          exact ⟨⟨hB_o, fr_o, (by omega), (by omega), (by first | exact fun h => h | assumption | exact fun h => fn21 h)⟩, by omega⟩
      ·
        unfold b_X10_improve_126
        refine T_some ?_
        show (BoxC o ∧ (Fr [(56, 9999), (57, 9999)] i_o o) ∧ (0 ≤ (x5 + 1) ∧ (x5 + 1) ≤ 4) ∧ (0 ≤ x4 ∧ x4 ≤ 1) ∧ (FNB i_o → FNB o)) ∧ (4 - (x5 + 1)).toNat < (4 - x5).toNat
        exact ⟨⟨hB_o, fr_o, (by omega), (by omega), (by first | exact fun h => h | assumption | exact fun h => fn21 h)⟩, by omega⟩
  ·
    refine T_some ?_
    show BoxC o ∧ (Fr [(56, 9999), (57, 9999)] i_o o) ∧ (0 ≤ x4 ∧ x4 ≤ 1) ∧ (FNB i_o → FNB o)
    exact ⟨hB_o, fr_o, (by omega), (by first | exact fun h => h | assumption | exact fun h => fn21 h)⟩
set_option maxRecDepth 20000 in
set_option maxHeartbeats 4000000 in
theorem t_X10_improve (o : OO) (x2 : Int) (x3 : Int) (hB_o : BoxC o) (k0 : inR x2) (k1 : 0 ≤ x3 ∧ x3 ≤ 63) : T (s_X10_improve o x2 x3) (fun v => BoxC v.2 ∧ (Fr [(56, 9999), (57, 9999)] o v.2) ∧ (0 ≤ v.1 ∧ v.1 ≤ 1) ∧ (FNB o → FNB v.2)) := by
  have fr_o : Fr [(56, 9999), (57, 9999)] o o := Fr.rf
  unfold s_X10_improve
  unfold e_X10_improve_6
  refine T_qB (tl_X10_improve_6 x2 x3 o 0 0 hB_o (by omega) (by omega) (by omega) (by omega) (by first | exact fun h => h | assumption | exact fun h => fn21 h)) (fun r9 hc_r9 hp10 => ?_)
  obtain ⟨o_11, x4_12⟩ := r9
  replace hp10 : BoxC o_11 ∧ (Fr [(56, 9999), (57, 9999)] o o_11) ∧ (0 ≤ x4_12 ∧ x4_12 ≤ 1) ∧ (FNB o → FNB o_11) := hp10
  have hps_hp10 := hp10
  obtain ⟨hp10_0, hp10_1, hp10_2, hp10_3⟩ := hps_hp10
  obtain ⟨hB_o_11, fc_o_11, hp10⟩ := hp10
  replace hp10 := hid hp10
  have fr_o_11 : Fr [(56, 9999), (57, 9999)] o o_11 := Fr.tr fr_o fc_o_11 rfl
  show T (b_X10_improve_132 o_11 x4_12) _
  unfold b_X10_improve_132
  refine T_qZ (by omega) ?_
  refine T_some ?_
  show BoxC o_11 ∧ (Fr [(56, 9999), (57, 9999)] o o_11) ∧ (0 ≤ x4_12 ∧ x4_12 ≤ 1) ∧ (FNB o → FNB o_11)
  exact ⟨hB_o_11, fr_o_11, (by omega), (by first | exact fun h => h | assumption | exact fun h => fn21 h)⟩
set_option maxRecDepth 20000 in
set_option maxHeartbeats 4000000 in
theorem tl_X10_firstOfLeast_25 (o : OO) (x1 : Int) (x2 : Int) (x3 : Int) (i_x4 : Int) (hB_o : BoxC o) (k0 : 0 ≤ x1 ∧ x1 ≤ 63) (k1 : x2 = -9 ∨ (0 ≤ x2 ∧ x2 ≤ 3)) (k2 : 0 ≤ x3 ∧ x3 ≤ 1000000000) (v0 : 0 ≤ i_x4 ∧ i_x4 ≤ 4) : T (loopW (fun s => l_X10_firstOfLeast_25 o x1 x2 x3 s) i_x4) (Sum.elim (fun r => (0 ≤ r ∧ r ≤ 3)) (fun _ => True)) := by
  refine T_loop (fun s => (0 ≤ s ∧ s ≤ 4)) (fun s => (4 - s).toNat) (by exact v0) (fun s hs => ?_)
  obtain ⟨x4, q_x4⟩ : ∃ q, q = s := ⟨_, rfl⟩
  subst q_x4
  replace hs : (0 ≤ x4 ∧ x4 ≤ 4) := hs
  have w0 := hs
  show T (l_X10_firstOfLeast_25 o x1 x2 x3 x4) _
  unfold l_X10_firstOfLeast_25
  refine T_qLt ⟨by omega, by omega⟩ ⟨by decide, by decide⟩ (fun h1 => ?_) (fun h1 => ?_)
  ·
    refine T_qEq ⟨by omega, by omega⟩ ⟨by decide, by decide⟩ (fun h2 => ?_) (fun h2 => ?_)
    ·
      unfold b_X10_firstOfLeast_43
      unfold b_X10_firstOfLeast_48
      refine T_qIn ⟨by omega, by omega⟩ ?_
      refine T_qNm (fun n2 e_n2 => ?_)
      have b_n2 : 0 ≤ n2 ∧ n2 ≤ 1000000000 := by rw [e_n2]; exact bC_56 hB_o _
      refine T_qEq ⟨by omega, by omega⟩ ⟨by omega, by omega⟩ (fun h3 => ?_) (fun h3 => ?_)
      ·
        refine T_some ?_
        show (0 ≤ x4 ∧ x4 ≤ 3)
        exact (by omega)
      ·
        refine T_some ?_
        show ((0 ≤ (x4 + 1) ∧ (x4 + 1) ≤ 4)) ∧ (4 - (x4 + 1)).toNat < (4 - x4).toNat
        exact ⟨(by omega), by omega⟩
    ·
      refine T_qEq ⟨by omega, by omega⟩ ⟨by omega, by omega⟩ (fun h4 => ?_) (fun h4 => ?_)
      ·
        unfold b_X10_firstOfLeast_43
        unfold b_X10_firstOfLeast_48
        refine T_qIn ⟨by omega, by omega⟩ ?_
        refine T_qNm (fun n2 e_n2 => ?_)
        have b_n2 : 0 ≤ n2 ∧ n2 ≤ 1000000000 := by rw [e_n2]; exact bC_56 hB_o _
        refine T_qEq ⟨by omega, by omega⟩ ⟨by omega, by omega⟩ (fun h5 => ?_) (fun h5 => ?_)
        ·
          refine T_some ?_
          show (0 ≤ x4 ∧ x4 ≤ 3)
          exact (by omega)
        ·
          refine T_some ?_
          show ((0 ≤ (x4 + 1) ∧ (x4 + 1) ≤ 4)) ∧ (4 - (x4 + 1)).toNat < (4 - x4).toNat
          exact ⟨(by omega), by omega⟩
      ·
        unfold b_X10_firstOfLeast_48
        refine T_qIn ⟨by omega, by omega⟩ ?_
        refine T_qNm (fun n2 e_n2 => ?_)
        have b_n2 : 0 ≤ n2 ∧ n2 ≤ 1000000000 := by rw [e_n2]; exact bC_56 hB_o _
        refine T_qEq ⟨by omega, by omega⟩ ⟨by omega, by omega⟩ (fun h6 => ?_) (fun h6 => ?_)
        ·
          refine T_some ?_
          show (0 ≤ x4 ∧ x4 ≤ 3)
          exact (by omega)
        ·
          refine T_some ?_
          show ((0 ≤ (x4 + 1) ∧ (x4 + 1) ≤ 4)) ∧ (4 - (x4 + 1)).toNat < (4 - x4).toNat
          exact ⟨(by omega), by omega⟩
  ·
    refine T_some ?_
    show True
    exact trivial
set_option maxRecDepth 20000 in
set_option maxHeartbeats 4000000 in
theorem t_X10_firstOfLeast (o : OO) (x1 : Int) (x2 : Int) (hB_o : BoxC o) (k0 : 0 ≤ x1 ∧ x1 ≤ 63) (k1 : x2 = -9 ∨ (0 ≤ x2 ∧ x2 ≤ 3)) : T (s_X10_firstOfLeast o x1 x2) (fun v => (-9 ≤ v ∧ v ≤ 3) ∧ (v = -9 ∨ 0 ≤ v)) := by
  unfold s_X10_firstOfLeast
  refine T_qEq ⟨by omega, by omega⟩ ⟨by decide, by decide⟩ (fun h7 => ?_) (fun h7 => ?_)
  ·
    refine T_qIn ⟨by omega, by omega⟩ ?_
    refine T_qNm (fun n6 e_n6 => ?_)
    have b_n6 : 0 ≤ n6 ∧ n6 ≤ 1000000000 := by rw [e_n6]; exact bC_57 hB_o _
    unfold b_X10_firstOfLeast_21
    unfold e_X10_firstOfLeast_25
    refine T_qB (tl_X10_firstOfLeast_25 o x1 x2 n6 0 hB_o (by omega) (by omega) (by omega) (by omega)) (fun r8 hc_r8 hp9 => ?_)
    rcases r8 with r8 | r8
    ·
      obtain ⟨x4_10, q_x4_10⟩ : ∃ q, q = r8 := ⟨_, rfl⟩
      subst q_x4_10
      replace hp9 : (0 ≤ x4_10 ∧ x4_10 ≤ 3) := hp9
      show T (b_X10_firstOfLeast_68 o x4_10) _
      unfold b_X10_firstOfLeast_68
      refine T_some ?_
      show (-9 ≤ x4_10 ∧ x4_10 ≤ 3) ∧ (x4_10 = -9 ∨ 0 ≤ x4_10)
      exact ⟨(by omega), (by omega)⟩
    ·
      show T (b_X10_firstOfLeast_77 o) _
      unfold b_X10_firstOfLeast_77
      refine T_some ?_
      show (-9 ≤ (-9) ∧ (-9) ≤ 3) ∧ ((-9) = -9 ∨ 0 ≤ (-9))
      exact ⟨(by omega), (by omega)⟩
  ·
    refine T_qB (t_X10_rest o x1 x2 hB_o (by omega) (by omega)) (fun r3 hc_r3 hp11 => ?_)
    replace hp11 : (0 ≤ r3 ∧ r3 ≤ 1000000000) ∧ (r3 = 0 ∨ r3 = o.1 56 ((x1 * 4) + x2).toNat ∨ (r3 = o.1 57 x1.toNat + 5)) := hp11
    have hps_hp11 := hp11
    obtain ⟨hp11_0, hp11_1⟩ := hps_hp11
    replace hp11 := hid hp11
    unfold b_X10_firstOfLeast_21
    unfold e_X10_firstOfLeast_25
    refine T_qB (tl_X10_firstOfLeast_25 o x1 x2 r3 0 hB_o (by omega) (by omega) (by omega) (by omega)) (fun r12 hc_r12 hp13 => ?_)
    rcases r12 with r12 | r12
    ·
      obtain ⟨x4_14, q_x4_14⟩ : ∃ q, q = r12 := ⟨_, rfl⟩
      subst q_x4_14
      replace hp13 : (0 ≤ x4_14 ∧ x4_14 ≤ 3) := hp13
      show T (b_X10_firstOfLeast_68 o x4_14) _
      unfold b_X10_firstOfLeast_68
      refine T_some ?_
      show (-9 ≤ x4_14 ∧ x4_14 ≤ 3) ∧ (x4_14 = -9 ∨ 0 ≤ x4_14)
      exact ⟨(by omega), (by omega)⟩
    ·
      show T (b_X10_firstOfLeast_77 o) _
      unfold b_X10_firstOfLeast_77
      refine T_some ?_
      show (-9 ≤ (-9) ∧ (-9) ≤ 3) ∧ ((-9) = -9 ∨ 0 ≤ (-9))
      exact ⟨(by omega), (by omega)⟩
set_option maxRecDepth 20000 in
set_option maxHeartbeats 4000000 in
theorem tl_X10_trace_17  (i_o : OO) (i_x2 : Int) (i_x3 : Int) (hB_i_o : BoxC i_o) (k0 : 0 ≤ i_o.1 53 10) (k1 : 1 ≤ i_o.1 53 2) (v0 : 0 ≤ i_x2 ∧ i_x2 ≤ 63) (v1 : i_x3 = -9 ∨ (0 ≤ i_x3 ∧ i_x3 ≤ 3)) (v2 : 1 ≤ i_o.1 53 2) : T (loopW (fun s => l_X10_trace_17 s.1 s.2.1 s.2.2) (i_o, i_x2, i_x3)) (Sum.elim (fun r => BoxC r ∧ (Fr [(53, 2), (55, 9999)] i_o r)) (fun r => BoxC r ∧ (Fr [(53, 2), (55, 9999)] i_o r))) := by
  have fr_i_o : Fr [(53, 2), (55, 9999)] i_o i_o := Fr.rf
  refine T_loop (fun s => BoxC s.1 ∧ (Fr [(53, 2), (55, 9999)] i_o s.1) ∧ (0 ≤ s.2.1 ∧ s.2.1 ≤ 63) ∧ (s.2.2 = -9 ∨ (0 ≤ s.2.2 ∧ s.2.2 ≤ 3)) ∧ (1 ≤ s.1.1 53 2)) (fun s => (64 - s.1.1 53 2).toNat) (by exact ⟨hB_i_o, fr_i_o, v0, v1, v2⟩) (fun s hs => ?_)
  obtain ⟨o, x2, x3⟩ := s
  replace hs : BoxC o ∧ (Fr [(53, 2), (55, 9999)] i_o o) ∧ (0 ≤ x2 ∧ x2 ≤ 63) ∧ (x3 = -9 ∨ (0 ≤ x3 ∧ x3 ≤ 3)) ∧ (1 ≤ o.1 53 2) := hs
  obtain ⟨hB_o, fr_o, w0, w1, w2⟩ := hs
  have g53_10_i := bC_53_10 hB_i_o
  have g53_10_o : o.1 53 10 = i_o.1 53 10 := fr_o.1 53 10 rfl
  have g53_2_i := bC_53_2 hB_i_o
  have g53_2_o := bC_53_2 hB_o
  show T (l_X10_trace_17 o x2 x3) _
  unfold l_X10_trace_17
  refine T_qEq ⟨by omega, by omega⟩ ⟨by omega, by omega⟩ (fun h1 => ?_) (fun h1 => ?_)
  ·
    refine T_some ?_
    show BoxC o ∧ (Fr [(53, 2), (55, 9999)] i_o o)
    exact ⟨hB_o, fr_o⟩
  ·
    refine T_qLt ⟨by omega, by omega⟩ ⟨by decide, by decide⟩ (fun h2 => ?_) (fun h2 => ?_)
    ·
      refine T_qB (t_X10_firstOfLeast o x2 x3 hB_o (by omega) (by omega)) (fun r1 hc_r1 hp3 => ?_)
      replace hp3 : (-9 ≤ r1 ∧ r1 ≤ 3) ∧ (r1 = -9 ∨ 0 ≤ r1) := hp3
      have hps_hp3 := hp3
      obtain ⟨hp3_0, hp3_1⟩ := hps_hp3
      replace hp3 := hid hp3
      refine T_qEq ⟨by omega, by omega⟩ ⟨by decide, by decide⟩ (fun h4 => ?_) (fun h4 => ?_)
      ·
        refine T_some ?_
        show BoxC o ∧ (Fr [(53, 2), (55, 9999)] i_o o)
        exact ⟨hB_o, fr_o⟩
      ·
        refine T_qB (t_X3_beside x2 r1 (by omega) (by omega)) (fun r3 hc_r3 hp5 => ?_)
        replace hp5 : (r3 = -9 ∨ (0 ≤ r3 ∧ r3 ≤ 63 ∧ (r1 = 0 ∧ r3 = x2 - 8 ∨ r1 = 1 ∧ r3 = x2 - 1 ∨ r1 = 2 ∧ r3 = x2 + 1 ∨ r1 = 3 ∧ r3 = x2 + 8))) ∧ (r3 = bsd x2 r1) := hp5
        have hps_hp5 := hp5
        obtain ⟨hp5_0, hp5_1⟩ := hps_hp5
        replace hp5 := hid hp5
        refine T_qEq ⟨by omega, by omega⟩ ⟨by decide, by decide⟩ (fun h6 => ?_) (fun h6 => ?_)
        ·
          refine T_some ?_
          show BoxC o ∧ (Fr [(53, 2), (55, 9999)] i_o o)
          exact ⟨hB_o, fr_o⟩
        ·
          refine T_qB (t_X3_beside x2 r1 (by omega) (by omega)) (fun r5 hc_r5 hp7 => ?_)
          replace hp7 : (r5 = -9 ∨ (0 ≤ r5 ∧ r5 ≤ 63 ∧ (r1 = 0 ∧ r5 = x2 - 8 ∨ r1 = 1 ∧ r5 = x2 - 1 ∨ r1 = 2 ∧ r5 = x2 + 1 ∨ r1 = 3 ∧ r5 = x2 + 8))) ∧ (r5 = bsd x2 r1) := hp7
          have hps_hp7 := hp7
          obtain ⟨hp7_0, hp7_1⟩ := hps_hp7
          replace hp7 := hid hp7
          have hq9 := Option.some.inj (hc_r5.symm.trans hc_r3)
          refine T_qIn ⟨by omega, by omega⟩ ?_
          refine T_qNm (fun o8 e_o8 => ?_)
          have hB_o8 : BoxC o8 := by rw [e_o8]; exact Box.s1 hB_o (show 0 ≤ r5 ∧ r5 ≤ 63 from ⟨by omega, by omega⟩)
          have fr_o8 : Fr [(53, 2), (55, 9999)] i_o o8 := by rw [e_o8]; exact Fr.s1 fr_o rfl
          have g53_10_o8 : o8.1 53 10 = o.1 53 10 := by rw [e_o8]; rfl
          have g53_2_o8 : o8.1 53 2 = o.1 53 2 := by rw [e_o8]; rfl
          refine T_qNm (fun o9 e_o9 => ?_)
          have hB_o9 : BoxC o9 := by rw [e_o9]; exact Box.s1 hB_o8 (show 0 ≤ ((o8.1 53 2) + 1) ∧ ((o8.1 53 2) + 1) ≤ 64 from ⟨by omega, by omega⟩)
          have fr_o9 : Fr [(53, 2), (55, 9999)] i_o o9 := by rw [e_o9]; exact Fr.s1 fr_o8 rfl
          have g53_10_o9 : o9.1 53 10 = o8.1 53 10 := by rw [e_o9]; rfl
          have g53_2_o9 : o9.1 53 2 = ((o8.1 53 2) + 1) := by rw [e_o9]; rfl
          refine T_some ?_
          show (BoxC o9 ∧ (Fr [(53, 2), (55, 9999)] i_o o9) ∧ (0 ≤ r5 ∧ r5 ≤ 63) ∧ (r1 = -9 ∨ (0 ≤ r1 ∧ r1 ≤ 3)) ∧ (1 ≤ o9.1 53 2)) ∧ (64 - o9.1 53 2).toNat < (64 - o.1 53 2).toNat
          exact ⟨⟨hB_o9, fr_o9, (by omega), (by omega), (by omega)⟩, by omega⟩
    ·
      refine T_some ?_
      show BoxC o ∧ (Fr [(53, 2), (55, 9999)] i_o o)
      exact ⟨hB_o, fr_o⟩
set_option maxRecDepth 20000 in
set_option maxHeartbeats 4000000 in
theorem t_X10_trace (o : OO) (x1 : Int) (hB_o : BoxC o) (k0 : 0 ≤ x1 ∧ x1 ≤ 63) (k1 : 0 ≤ o.1 53 10) : T (s_X10_trace o x1) (fun v => BoxC v ∧ (Fr [(53, 2), (55, 9999)] o v)) := by
  have fr_o : Fr [(53, 2), (55, 9999)] o o := Fr.rf
  have g53_10_o := bC_53_10 hB_o
  have g53_2_o := bC_53_2 hB_o
  unfold s_X10_trace
  refine T_qNm (fun o10 e_o10 => ?_)
  have hB_o10 : BoxC o10 := by rw [e_o10]; exact Box.s1 hB_o (show 0 ≤ x1 ∧ x1 ≤ 63 from ⟨by omega, by omega⟩)
  have fr_o10 : Fr [(53, 2), (55, 9999)] o o10 := by rw [e_o10]; exact Fr.s1 fr_o rfl
  have g53_10_o10 : o10.1 53 10 = o.1 53 10 := by rw [e_o10]; rfl
  have g53_2_o10 : o10.1 53 2 = o.1 53 2 := by rw [e_o10]; rfl
  refine T_qNm (fun o11 e_o11 => ?_)
  have hB_o11 : BoxC o11 := by rw [e_o11]; exact Box.s1 hB_o10 (show 0 ≤ 1 ∧ 1 ≤ 64 from ⟨by omega, by omega⟩)
  have fr_o11 : Fr [(53, 2), (55, 9999)] o o11 := by rw [e_o11]; exact Fr.s1 fr_o10 rfl
  have g53_10_o11 : o11.1 53 10 = o10.1 53 10 := by rw [e_o11]; rfl
  have g53_2_o11 : o11.1 53 2 = 1 := by rw [e_o11]; rfl
  unfold e_X10_trace_17
  refine T_qB (tl_X10_trace_17 o11 x1 (-9) hB_o11 (by omega) (by omega) (by omega) (by omega) (by omega)) (fun r8 hc_r8 hp9 => ?_)
  rcases r8 with r8 | r8
  ·
    obtain ⟨o_10, q_o_10⟩ : ∃ q, q = r8 := ⟨_, rfl⟩
    subst q_o_10
    replace hp9 : BoxC o_10 ∧ (Fr [(53, 2), (55, 9999)] o11 o_10) := hp9
    have hps_hp9 := hp9
    obtain ⟨hp9_0, hp9_1⟩ := hps_hp9
    obtain ⟨hB_o_10, fc_o_10⟩ := hp9
    have fr_o_10 : Fr [(53, 2), (55, 9999)] o o_10 := Fr.tr fr_o11 fc_o_10 rfl
    have g53_10_o_10 : o_10.1 53 10 = o11.1 53 10 := fc_o_10.1 53 10 rfl
    have g53_2_o_10 := bC_53_2 hB_o_10
    show T (b_X10_trace_57 o_10) _
    unfold b_X10_trace_57
    refine T_some ?_
    show BoxC o_10 ∧ (Fr [(53, 2), (55, 9999)] o o_10)
    exact ⟨hB_o_10, fr_o_10⟩
  ·
    obtain ⟨o_11, q_o_11⟩ : ∃ q, q = r8 := ⟨_, rfl⟩
    subst q_o_11
    replace hp9 : BoxC o_11 ∧ (Fr [(53, 2), (55, 9999)] o11 o_11) := hp9
    have hps_hp9 := hp9
    obtain ⟨hp9_0, hp9_1⟩ := hps_hp9
    obtain ⟨hB_o_11, fc_o_11⟩ := hp9
    have fr_o_11 : Fr [(53, 2), (55, 9999)] o o_11 := Fr.tr fr_o11 fc_o_11 rfl
    have g53_10_o_11 : o_11.1 53 10 = o11.1 53 10 := fc_o_11.1 53 10 rfl
    have g53_2_o_11 := bC_53_2 hB_o_11
    show T (b_X10_trace_87 o_11) _
    unfold b_X10_trace_87
    refine T_some ?_
    show BoxC o_11 ∧ (Fr [(53, 2), (55, 9999)] o o_11)
    exact ⟨hB_o_11, fr_o_11⟩
set_option maxRecDepth 20000 in
set_option maxHeartbeats 4000000 in
theorem tl_X10_find_50 (x2 : Int) (x3 : Int) (i_o : OO) (i_x5 : Int) (hB_i_o : BoxC i_o) (k0 : inR x2) (k1 : 0 ≤ x3 ∧ x3 ≤ 63) (v0 : 0 ≤ i_x5 ∧ i_x5 ≤ 1000000) (v1 : 0 ≤ i_o.1 53 9) (v2 : i_o.1 53 9 ≤ 4 * i_x5 + 4) (v3 : FNB i_o) : T (loopW (fun s => l_X10_find_50 x2 x3 s.1 s.2) (i_o, i_x5)) (fun r => BoxC r ∧ (Fr [(53, 7), (53, 8), (53, 9), (56, 9999), (57, 9999), (58, 9999)] i_o r) ∧ (FNB r)) := by
  have fr_i_o : Fr [(53, 7), (53, 8), (53, 9), (56, 9999), (57, 9999), (58, 9999)] i_o i_o := Fr.rf
  refine T_loop (fun s => BoxC s.1 ∧ (Fr [(53, 7), (53, 8), (53, 9), (56, 9999), (57, 9999), (58, 9999)] i_o s.1) ∧ (0 ≤ s.2 ∧ s.2 ≤ 1000000) ∧ (0 ≤ s.1.1 53 9) ∧ (s.1.1 53 9 ≤ 4 * s.2 + 4) ∧ (FNB s.1)) (fun s => (1000000 - s.2).toNat) (by exact ⟨hB_i_o, fr_i_o, v0, v1, v2, v3⟩) (fun s hs => ?_)
  obtain ⟨o, x5⟩ := s
  replace hs : BoxC o ∧ (Fr [(53, 7), (53, 8), (53, 9), (56, 9999), (57, 9999), (58, 9999)] i_o o) ∧ (0 ≤ x5 ∧ x5 ≤ 1000000) ∧ (0 ≤ o.1 53 9) ∧ (o.1 53 9 ≤ 4 * x5 + 4) ∧ (FNB o) := hs
  obtain ⟨hB_o, fr_o, w0, w1, w2, w3⟩ := hs
  have g53_9_i := bC_53_9 hB_i_o
  have g53_9_o := bC_53_9 hB_o
  have g53_10_i := bC_53_10 hB_i_o
  have g53_10_o : o.1 53 10 = i_o.1 53 10 := fr_o.1 53 10 rfl
  show T (l_X10_find_50 x2 x3 o x5) _
  unfold l_X10_find_50
  refine T_qLt ⟨by omega, by omega⟩ ⟨by decide, by decide⟩ (fun h1 => ?_) (fun h1 => ?_)
  ·
    refine T_qLt ⟨by decide, by decide⟩ ⟨by omega, by omega⟩ (fun h2 => ?_) (fun h2 => ?_)
    ·
      refine T_qB2 (t_X10_next o hB_o (by omega)) (fun r11 o13 hc_r11 hp3 => ?_)
      replace hp3 : BoxC o13 ∧ (Fr [(53, 7), (53, 8), (53, 9)] o o13) ∧ (0 ≤ r11 ∧ r11 ≤ 63) ∧ (o13.1 53 9 = o.1 53 9 - 1) := hp3
      obtain ⟨hB_o13, fc_o13, hp3⟩ := hp3
      have fr_o13 : Fr [(53, 7), (53, 8), (53, 9), (56, 9999), (57, 9999), (58, 9999)] i_o o13 := Fr.tr fr_o fc_o13 rfl
      have g53_9_o13 := bC_53_9 hB_o13
      have g53_10_o13 : o13.1 53 10 = o.1 53 10 := fc_o13.1 53 10 rfl
      have fn13 : FNB o13 := FNB.cg (fun j => fc_o13.1 56 j rfl) (fun j => fc_o13.1 57 j rfl) w3
      refine T_qB2 (t_X10_improve o13 x2 r11 hB_o13 (by omega) (by omega)) (fun r14 o16 hc_r14 hp4 => ?_)
      replace hp4 : BoxC o16 ∧ (Fr [(56, 9999), (57, 9999)] o13 o16) ∧ (0 ≤ r14 ∧ r14 ≤ 1) ∧ (FNB o13 → FNB o16) := hp4
      obtain ⟨hB_o16, fc_o16, hp4⟩ := hp4
      have fr_o16 : Fr [(53, 7), (53, 8), (53, 9), (56, 9999), (57, 9999), (58, 9999)] i_o o16 := Fr.tr fr_o13 fc_o16 rfl
      have g53_9_o16 : o16.1 53 9 = o13.1 53 9 := fc_o16.1 53 9 rfl
      have g53_10_o16 : o16.1 53 10 = o13.1 53 10 := fc_o16.1 53 10 rfl
      have fn16 : FNB o16 := hp4.2 fn13
      refine T_qEq ⟨by omega, by omega⟩ ⟨by decide, by decide⟩ (fun h5 => ?_) (fun h5 => ?_)
      ·
        unfold b_X10_find_89
        refine T_some ?_
        show (BoxC o16 ∧ (Fr [(53, 7), (53, 8), (53, 9), (56, 9999), (57, 9999), (58, 9999)] i_o o16) ∧ (0 ≤ (x5 + 1) ∧ (x5 + 1) ≤ 1000000) ∧ (0 ≤ o16.1 53 9) ∧ (o16.1 53 9 ≤ 4 * (x5 + 1) + 4) ∧ (FNB o16)) ∧ (1000000 - (x5 + 1)).toNat < (1000000 - x5).toNat
        exact ⟨⟨hB_o16, fr_o16, (by omega), (by omega), (by omega), (by assumption)⟩, by omega⟩
      ·
        refine T_qB (t_X10_rouseBeside o16 x2 r11 hB_o16 (by omega) (by omega) (by omega) (by omega)) (fun o19 hc_o19 hp6 => ?_)
        replace hp6 : BoxC o19 ∧ (Fr [(53, 7), (53, 9), (58, 9999)] o16 o19) ∧ (0 ≤ o19.1 53 9) ∧ (o19.1 53 9 ≤ o16.1 53 9 + 4) := hp6
        obtain ⟨hB_o19, fc_o19, hp6⟩ := hp6
        have fr_o19 : Fr [(53, 7), (53, 8), (53, 9), (56, 9999), (57, 9999), (58, 9999)] i_o o19 := Fr.tr fr_o16 fc_o19 rfl
        have g53_9_o19 := bC_53_9 hB_o19
        have g53_10_o19 : o19.1 53 10 = o16.1 53 10 := fc_o19.1 53 10 rfl
        have fn19 : FNB o19 := FNB.cg (fun j => fc_o19.1 56 j rfl) (fun j => fc_o19.1 57 j rfl) fn16
        unfold b_X10_find_89
        refine T_some ?_
        show (BoxC o19 ∧ (Fr [(53, 7), (53, 8), (53, 9), (56, 9999), (57, 9999), (58, 9999)] i_o o19) ∧ (0 ≤ (x5 + 1) ∧ (x5 + 1) ≤ 1000000) ∧ (0 ≤ o19.1 53 9) ∧ (o19.1 53 9 ≤ 4 * (x5 + 1) + 4) ∧ (FNB o19)) ∧ (1000000 - (x5 + 1)).toNat < (1000000 - x5).toNat
        exact ⟨⟨hB_o19, fr_o19, (by omega), (by omega), (by omega), (by assumption)⟩, by omega⟩
    ·
      refine T_some ?_
      show BoxC o ∧ (Fr [(53, 7), (53, 8), (53, 9), (56, 9999), (57, 9999), (58, 9999)] i_o o) ∧ (FNB o)
      exact ⟨hB_o, fr_o, (by assumption)⟩
  ·
    refine T_some ?_
    show BoxC o ∧ (Fr [(53, 7), (53, 8), (53, 9), (56, 9999), (57, 9999), (58, 9999)] i_o o) ∧ (FNB o)
    exact ⟨hB_o, fr_o, (by assumption)⟩
set_option maxRecDepth 20000 in
set_option maxHeartbeats 4000000 in
theorem t_X10_find (o : OO) (x2 : Int) (x3 : Int) (x4 : Int) (hB_o : BoxC o) (k0 : inR x2) (k1 : 0 ≤ x3 ∧ x3 ≤ 63) (k2 : 0 ≤ x4 ∧ x4 ≤ 63) : T (s_X10_find o x2 x3 x4) (fun v => BoxC v.2 ∧ (Fr [(53, 2), (53, 3), (53, 7), (53, 8), (53, 9), (53, 10), (55, 9999), (56, 9999), (57, 9999), (58, 9999)] o v.2) ∧ (0 ≤ v.1 ∧ v.1 ≤ 1)) := by
  have fr_o : Fr [(53, 2), (53, 3), (53, 7), (53, 8), (53, 9), (53, 10), (55, 9999), (56, 9999), (57, 9999), (58, 9999)] o o := Fr.rf
  have g53_9_o := bC_53_9 hB_o
  have g53_10_o := bC_53_10 hB_o
  unfold s_X10_find
  refine T_qB (t_J7_fill_53178__56 o 1000000000 hB_o (by omega)) (fun o22 hc_o22 hp7 => ?_)
  replace hp7 : BoxC o22 ∧ (Fr [(56, 9999)] o o22) ∧ (FP o22 56 256 1000000000) := hp7
  obtain ⟨hB_o22, fc_o22, hp7⟩ := hp7
  have fr_o22 : Fr [(53, 2), (53, 3), (53, 7), (53, 8), (53, 9), (53, 10), (55, 9999), (56, 9999), (57, 9999), (58, 9999)] o o22 := Fr.tr fr_o fc_o22 rfl
  have g53_9_o22 : o22.1 53 9 = o.1 53 9 := fc_o22.1 53 9 rfl
  have g53_10_o22 : o22.1 53 10 = o.1 53 10 := fc_o22.1 53 10 rfl
  have fp22 := hp7
  refine T_qB (t_J7_fill_53178__57 o22 1000000000 hB_o22 (by omega)) (fun o25 hc_o25 hp8 => ?_)
  replace hp8 : BoxC o25 ∧ (Fr [(57, 9999)] o22 o25) ∧ (FP o25 57 64 1000000000) := hp8
  obtain ⟨hB_o25, fc_o25, hp8⟩ := hp8
  have fr_o25 : Fr [(53, 2), (53, 3), (53, 7), (53, 8), (53, 9), (53, 10), (55, 9999), (56, 9999), (57, 9999), (58, 9999)] o o25 := Fr.tr fr_o22 fc_o25 rfl
  have g53_9_o25 : o25.1 53 9 = o22.1 53 9 := fc_o25.1 53 9 rfl
  have g53_10_o25 : o25.1 53 10 = o22.1 53 10 := fc_o25.1 53 10 rfl
  have fp25 := hp8
  refine T_qNm (fun o26 e_o26 => ?_)
  have hB_o26 : BoxC o26 := by rw [e_o26]; exact Box.s1 hB_o25 (show 0 ≤ 0 ∧ 0 ≤ 63 from ⟨by omega, by omega⟩)
  have fr_o26 : Fr [(53, 2), (53, 3), (53, 7), (53, 8), (53, 9), (53, 10), (55, 9999), (56, 9999), (57, 9999), (58, 9999)] o o26 := by rw [e_o26]; exact Fr.s1 fr_o25 rfl
  have g53_9_o26 : o26.1 53 9 = o25.1 53 9 := by rw [e_o26]; rfl
  have g53_10_o26 : o26.1 53 10 = o25.1 53 10 := by rw [e_o26]; rfl
  refine T_qNm (fun o27 e_o27 => ?_)
  have hB_o27 : BoxC o27 := by rw [e_o27]; exact Box.s1 hB_o26 (show -2147483648 ≤ 0 ∧ 0 ≤ 2147483647 from ⟨by omega, by omega⟩)
  have fr_o27 : Fr [(53, 2), (53, 3), (53, 7), (53, 8), (53, 9), (53, 10), (55, 9999), (56, 9999), (57, 9999), (58, 9999)] o o27 := by rw [e_o27]; exact Fr.s1 fr_o26 rfl
  have g53_9_o27 : o27.1 53 9 = 0 := by rw [e_o27]; rfl
  have g53_10_o27 : o27.1 53 10 = o26.1 53 10 := by rw [e_o27]; rfl
  refine T_qNm (fun o28 e_o28 => ?_)
  have hB_o28 : BoxC o28 := by rw [e_o28]; exact Box.s2 hB_o27
  have fr_o28 : Fr [(53, 2), (53, 3), (53, 7), (53, 8), (53, 9), (53, 10), (55, 9999), (56, 9999), (57, 9999), (58, 9999)] o o28 := by rw [e_o28]; exact Fr.s2 fr_o27 rfl
  have g53_9_o28 : o28.1 53 9 = o27.1 53 9 := by rw [e_o28]; rfl
  have g53_10_o28 : o28.1 53 10 = o27.1 53 10 := by rw [e_o28]; rfl
  refine T_qNm (fun o29 e_o29 => ?_)
  have hB_o29 : BoxC o29 := by rw [e_o29]; exact Box.s1 hB_o28 (show 0 ≤ x4 ∧ x4 ≤ 63 from ⟨by omega, by omega⟩)
  have fr_o29 : Fr [(53, 2), (53, 3), (53, 7), (53, 8), (53, 9), (53, 10), (55, 9999), (56, 9999), (57, 9999), (58, 9999)] o o29 := by rw [e_o29]; exact Fr.s1 fr_o28 rfl
  have g53_9_o29 : o29.1 53 9 = o28.1 53 9 := by rw [e_o29]; rfl
  have g53_10_o29 : o29.1 53 10 = x4 := by rw [e_o29]; rfl
  refine T_qB (t_X10_rouseBeside o29 x2 x4 hB_o29 (by omega) (by omega) (by omega) (by omega)) (fun o32 hc_o32 hp9 => ?_)
  replace hp9 : BoxC o32 ∧ (Fr [(53, 7), (53, 9), (58, 9999)] o29 o32) ∧ (0 ≤ o32.1 53 9) ∧ (o32.1 53 9 ≤ o29.1 53 9 + 4) := hp9
  obtain ⟨hB_o32, fc_o32, hp9⟩ := hp9
  have fr_o32 : Fr [(53, 2), (53, 3), (53, 7), (53, 8), (53, 9), (53, 10), (55, 9999), (56, 9999), (57, 9999), (58, 9999)] o o32 := Fr.tr fr_o29 fc_o32 rfl
  have g53_9_o32 := bC_53_9 hB_o32
  have g53_10_o32 : o32.1 53 10 = o29.1 53 10 := fc_o32.1 53 10 rfl
  have fn32 : FNB o32 := FNB.cg (fun j => (fc_o32.1 56 j rfl).trans (by rw [e_o29, e_o28, e_o27, e_o26]; rfl)) (fun j => (fc_o32.1 57 j rfl).trans (by rw [e_o29, e_o28, e_o27, e_o26]; rfl)) (FNB_0 (fun j hj => by rw [fc_o25.1 56 j rfl]; exact fp22 j hj) fp25)
  unfold e_X10_find_50
  refine T_qB (tl_X10_find_50 x2 x3 o32 0 hB_o32 (by omega) (by omega) (by omega) (by omega) (by omega) (by assumption)) (fun r10 hc_r10 hp11 => ?_)
  obtain ⟨o_12, q_o_12⟩ : ∃ q, q = r10 := ⟨_, rfl⟩
  subst q_o_12
  replace hp11 : BoxC o_12 ∧ (Fr [(53, 7), (53, 8), (53, 9), (56, 9999), (57, 9999), (58, 9999)] o32 o_12) ∧ (FNB o_12) := hp11
  have hps_hp11 := hp11
  obtain ⟨hp11_0, hp11_1, hp11_2⟩ := hps_hp11
  obtain ⟨hB_o_12, fc_o_12, hp11⟩ := hp11
  replace hp11 := hid hp11
  have fr_o_12 : Fr [(53, 2), (53, 3), (53, 7), (53, 8), (53, 9), (53, 10), (55, 9999), (56, 9999), (57, 9999), (58, 9999)] o o_12 := Fr.tr fr_o32 fc_o_12 rfl
  have g53_9_o_12 := bC_53_9 hB_o_12
  have g53_10_o_12 : o_12.1 53 10 = o32.1 53 10 := fc_o_12.1 53 10 rfl
  show T (b_X10_find_95 o_12 x3) _
  have fn50 : FNB o_12 := by assumption
  have cf50 := CFC_rng o_12
  unfold b_X10_find_95
  refine T_qIn ⟨by omega, by omega⟩ ?_
  refine T_qNm (fun n2 e_n2 => ?_)
  have b_n2 : 0 ≤ n2 ∧ n2 ≤ 1000000000 := by rw [e_n2]; exact bC_57 hB_o_12 _
  have fq2 := fn50.2 x3.toNat (by omega)
  refine T_qLt ⟨by omega, by omega⟩ ⟨by decide, by decide⟩ (fun h13 => ?_) (fun h13 => ?_)
  ·
    refine T_qIn ⟨by omega, by omega⟩ ?_
    refine T_qNm (fun n4 e_n4 => ?_)
    have b_n4 : 0 ≤ n4 ∧ n4 ≤ 2000 := by rw [e_n4]; exact bC_54 hB_o_12 _
    refine T_qIn ⟨by omega, by omega⟩ ?_
    refine T_qNm (fun n6 e_n6 => ?_)
    have b_n6 : 0 ≤ n6 ∧ n6 ≤ 1000000000 := by rw [e_n6]; exact bC_57 hB_o_12 _
    refine T_qNm (fun o7 e_o7 => ?_)
    have hB_o7 : BoxC o7 := by rw [e_o7]; exact Box.s1 hB_o_12 (show 0 ≤ (n4 + n6) ∧ (n4 + n6) ≤ 1000000 from ⟨by omega, by omega⟩)
    have fr_o7 : Fr [(53, 2), (53, 3), (53, 7), (53, 8), (53, 9), (53, 10), (55, 9999), (56, 9999), (57, 9999), (58, 9999)] o o7 := by rw [e_o7]; exact Fr.s1 fr_o_12 rfl
    have g53_9_o7 : o7.1 53 9 = o_12.1 53 9 := by rw [e_o7]; rfl
    have g53_10_o7 : o7.1 53 10 = o_12.1 53 10 := by rw [e_o7]; rfl
    refine T_qB (t_X10_trace o7 x3 hB_o7 (by omega) (by omega)) (fun o10 hc_o10 hp14 => ?_)
    replace hp14 : BoxC o10 ∧ (Fr [(53, 2), (55, 9999)] o7 o10) := hp14
    obtain ⟨hB_o10, fc_o10⟩ := hp14
    have fr_o10 : Fr [(53, 2), (53, 3), (53, 7), (53, 8), (53, 9), (53, 10), (55, 9999), (56, 9999), (57, 9999), (58, 9999)] o o10 := Fr.tr fr_o7 fc_o10 rfl
    have g53_9_o10 : o10.1 53 9 = o7.1 53 9 := fc_o10.1 53 9 rfl
    have g53_10_o10 : o10.1 53 10 = o7.1 53 10 := fc_o10.1 53 10 rfl
    refine T_qZ (Or.inr rfl) ?_
    refine T_some ?_
    show BoxC o10 ∧ (Fr [(53, 2), (53, 3), (53, 7), (53, 8), (53, 9), (53, 10), (55, 9999), (56, 9999), (57, 9999), (58, 9999)] o o10) ∧ (0 ≤ 1 ∧ 1 ≤ 1)
    exact ⟨hB_o10, fr_o10, (by omega)⟩
  ·
    refine T_qZ (Or.inl rfl) ?_
    refine T_some ?_
    show BoxC o_12 ∧ (Fr [(53, 2), (53, 3), (53, 7), (53, 8), (53, 9), (53, 10), (55, 9999), (56, 9999), (57, 9999), (58, 9999)] o o_12) ∧ (0 ≤ 0 ∧ 0 ≤ 1)
    exact ⟨hB_o_12, fr_o_12, (by omega)⟩
set_option maxRecDepth 20000 in
set_option maxHeartbeats 4000000 in
theorem tl_X4_route_18 (x1 : Int) (x3 : Int) (i_o : OO) (i_x5 : Int) (hB_i_o : BoxC i_o) (k0 : 0 ≤ x1 ∧ x1 ≤ 23) (k1 : 0 ≤ x3 ∧ x3 ≤ 64) (v0 : 0 ≤ i_x5 ∧ i_x5 ≤ x3) : T (loopW (fun s => l_X4_route_18 x1 x3 s.1 s.2) (i_o, i_x5)) (fun r => BoxC r ∧ (Fr [(37, 9999), (38, 9999)] i_o r)) := by
  have fr_i_o : Fr [(37, 9999), (38, 9999)] i_o i_o := Fr.rf
  refine T_loop (fun s => BoxC s.1 ∧ (Fr [(37, 9999), (38, 9999)] i_o s.1) ∧ (0 ≤ s.2 ∧ s.2 ≤ x3)) (fun s => (x3 - s.2).toNat) (by exact ⟨hB_i_o, fr_i_o, v0⟩) (fun s hs => ?_)
  obtain ⟨o, x5⟩ := s
  replace hs : BoxC o ∧ (Fr [(37, 9999), (38, 9999)] i_o o) ∧ (0 ≤ x5 ∧ x5 ≤ x3) := hs
  obtain ⟨hB_o, fr_o, w0⟩ := hs
  show T (l_X4_route_18 x1 x3 o x5) _
  unfold l_X4_route_18
  refine T_qLt ⟨by omega, by omega⟩ ⟨by omega, by omega⟩ (fun h1 => ?_) (fun h1 => ?_)
  ·
    refine T_qIn ⟨by omega, by omega⟩ ?_
    refine T_qNm (fun n2 e_n2 => ?_)
    have b_n2 : 0 ≤ n2 ∧ n2 ≤ 63 := by rw [e_n2]; exact bC_55 hB_o _
    refine T_qIn ⟨by omega, by omega⟩ ?_
    refine T_qNm (fun o4 e_o4 => ?_)
    have hB_o4 : BoxC o4 := by rw [e_o4]; exact Box.s1 hB_o (show 0 ≤ n2 ∧ n2 ≤ 63 from ⟨by omega, by omega⟩)
    have fr_o4 : Fr [(37, 9999), (38, 9999)] i_o o4 := by rw [e_o4]; exact Fr.s1 fr_o rfl
    refine T_qIn ⟨by omega, by omega⟩ ?_
    refine T_qNm (fun m6 e_m6 => ?_)
    refine T_qIn ⟨by omega, by omega⟩ ?_
    refine T_qNm (fun n8 e_n8 => ?_)
    have b_n8 : 0 ≤ n8 ∧ n8 ≤ 63 := by rw [e_n8]; exact bC_55 hB_o4 _
    refine T_qB (t_X3_bit n8) (fun p9 hc_p9 hp2 => ?_)
    replace hp2 : (p9 = jshl 1 (Int32.ofInt n8)) := hp2
    refine T_qIn ⟨by omega, by omega⟩ ?_
    refine T_qNm (fun o12 e_o12 => ?_)
    have hB_o12 : BoxC o12 := by rw [e_o12]; exact Box.s2 hB_o4
    have fr_o12 : Fr [(37, 9999), (38, 9999)] i_o o12 := by rw [e_o12]; exact Fr.s2 fr_o4 rfl
    refine T_some ?_
    show (BoxC o12 ∧ (Fr [(37, 9999), (38, 9999)] i_o o12) ∧ (0 ≤ (x5 + 1) ∧ (x5 + 1) ≤ x3)) ∧ (x3 - (x5 + 1)).toNat < (x3 - x5).toNat
    exact ⟨⟨hB_o12, fr_o12, (by omega)⟩, by omega⟩
  ·
    refine T_some ?_
    show BoxC o ∧ (Fr [(37, 9999), (38, 9999)] i_o o)
    exact ⟨hB_o, fr_o⟩
set_option maxRecDepth 20000 in
set_option maxHeartbeats 4000000 in
theorem t_X4_route (o : OO) (x1 : Int) (x3 : Int) (x4 : Int) (hB_o : BoxC o) (k0 : 0 ≤ x1 ∧ x1 ≤ 23) (k1 : 0 ≤ x3 ∧ x3 ≤ 64) (k2 : 0 ≤ x4 ∧ x4 ≤ 1000000) : T (s_X4_route o x1 x3 x4) (fun v => BoxC v ∧ (Fr [(36, 9999), (37, 9999), (38, 9999), (39, 9999)] o v)) := by
  have fr_o : Fr [(36, 9999), (37, 9999), (38, 9999), (39, 9999)] o o := Fr.rf
  unfold s_X4_route
  refine T_qIn ⟨by omega, by omega⟩ ?_
  refine T_qNm (fun o14 e_o14 => ?_)
  have hB_o14 : BoxC o14 := by rw [e_o14]; exact Box.s1 hB_o (show 0 ≤ x3 ∧ x3 ≤ 64 from ⟨by omega, by omega⟩)
  have fr_o14 : Fr [(36, 9999), (37, 9999), (38, 9999), (39, 9999)] o o14 := by rw [e_o14]; exact Fr.s1 fr_o rfl
  refine T_qIn ⟨by omega, by omega⟩ ?_
  refine T_qNm (fun o16 e_o16 => ?_)
  have hB_o16 : BoxC o16 := by rw [e_o16]; exact Box.s1 hB_o14 (show 0 ≤ x4 ∧ x4 ≤ 1000000 from ⟨by omega, by omega⟩)
  have fr_o16 : Fr [(36, 9999), (37, 9999), (38, 9999), (39, 9999)] o o16 := by rw [e_o16]; exact Fr.s1 fr_o14 rfl
  unfold e_X4_route_18
  refine T_qB (tl_X4_route_18 x1 x3 o16 0 hB_o16 (by omega) (by omega) (by omega)) (fun r3 hc_r3 hp4 => ?_)
  obtain ⟨o_5, q_o_5⟩ : ∃ q, q = r3 := ⟨_, rfl⟩
  subst q_o_5
  replace hp4 : BoxC o_5 ∧ (Fr [(37, 9999), (38, 9999)] o16 o_5) := hp4
  have hps_hp4 := hp4
  obtain ⟨hp4_0, hp4_1⟩ := hps_hp4
  obtain ⟨hB_o_5, fc_o_5⟩ := hp4
  have fr_o_5 : Fr [(36, 9999), (37, 9999), (38, 9999), (39, 9999)] o o_5 := Fr.tr fr_o16 fc_o_5 rfl
  show T (b_X4_route_62 o_5) _
  unfold b_X4_route_62
  refine T_some ?_
  show BoxC o_5 ∧ (Fr [(36, 9999), (37, 9999), (38, 9999), (39, 9999)] o o_5)
  exact ⟨hB_o_5, fr_o_5⟩
set_option maxRecDepth 20000 in
set_option maxHeartbeats 4000000 in
theorem t_X11_line (o : OO) (x1 : Int) (x2 : Int) (x3 : Int) (hB_o : BoxC o) (k0 : inR x1) (k1 : inR x2) (k2 : inR x3) : T (s_X11_line o x1 x2 x3) (fun v => BoxC v.2 ∧ (Fr [(0, 17), (32, 13), (33, 9999), (34, 9999), (35, 9999), (36, 9999), (37, 9999), (38, 9999), (39, 9999), (40, 9999), (53, 2), (53, 3), (53, 7), (53, 8), (53, 9), (53, 10), (54, 9999), (55, 9999), (56, 9999), (57, 9999), (58, 9999), (77, 9999)] o v.2)) := by
  have fr_o : Fr [(0, 17), (32, 13), (33, 9999), (34, 9999), (35, 9999), (36, 9999), (37, 9999), (38, 9999), (39, 9999), (40, 9999), (53, 2), (53, 3), (53, 7), (53, 8), (53, 9), (53, 10), (54, 9999), (55, 9999), (56, 9999), (57, 9999), (58, 9999), (77, 9999)] o o := Fr.rf
  have g0_13_o := bC_0_13 hB_o
  have g53_2_o := bC_53_2 hB_o
  have g53_3_o := bC_53_3 hB_o
  have g32_13_o := bC_32_13 hB_o
  unfold s_X11_line
  refine T_qB (t_X3_isCell x1 (by omega)) (fun r1 hc_r1 hp1 => ?_)
  replace hp1 : ((r1 = 1 ∧ (0 ≤ x1 ∧ x1 < 64)) ∨ (r1 = 0 ∧ ¬ (0 ≤ x1 ∧ x1 < 64))) := hp1
  refine T_qEq ⟨by omega, by omega⟩ ⟨by decide, by decide⟩ (fun h2 => ?_) (fun h2 => ?_)
  ·
    unfold b_X11_line_30
    refine T_some ?_
    show BoxC o ∧ (Fr [(0, 17), (32, 13), (33, 9999), (34, 9999), (35, 9999), (36, 9999), (37, 9999), (38, 9999), (39, 9999), (40, 9999), (53, 2), (53, 3), (53, 7), (53, 8), (53, 9), (53, 10), (54, 9999), (55, 9999), (56, 9999), (57, 9999), (58, 9999), (77, 9999)] o o)
    exact ⟨hB_o, fr_o⟩
  ·
    refine T_qB (t_X3_isCell x2 (by omega)) (fun r3 hc_r3 hp3 => ?_)
    replace hp3 : ((r3 = 1 ∧ (0 ≤ x2 ∧ x2 < 64)) ∨ (r3 = 0 ∧ ¬ (0 ≤ x2 ∧ x2 < 64))) := hp3
    refine T_qEq ⟨by omega, by omega⟩ ⟨by decide, by decide⟩ (fun h4 => ?_) (fun h4 => ?_)
    ·
      unfold b_X11_line_30
      refine T_some ?_
      show BoxC o ∧ (Fr [(0, 17), (32, 13), (33, 9999), (34, 9999), (35, 9999), (36, 9999), (37, 9999), (38, 9999), (39, 9999), (40, 9999), (53, 2), (53, 3), (53, 7), (53, 8), (53, 9), (53, 10), (54, 9999), (55, 9999), (56, 9999), (57, 9999), (58, 9999), (77, 9999)] o o)
      exact ⟨hB_o, fr_o⟩
    ·
      refine T_qEq ⟨by omega, by omega⟩ ⟨by omega, by omega⟩ (fun h5 => ?_) (fun h5 => ?_)
      ·
        unfold b_X11_line_30
        refine T_some ?_
        show BoxC o ∧ (Fr [(0, 17), (32, 13), (33, 9999), (34, 9999), (35, 9999), (36, 9999), (37, 9999), (38, 9999), (39, 9999), (40, 9999), (53, 2), (53, 3), (53, 7), (53, 8), (53, 9), (53, 10), (54, 9999), (55, 9999), (56, 9999), (57, 9999), (58, 9999), (77, 9999)] o o)
        exact ⟨hB_o, fr_o⟩
      ·
        refine T_qB (t_X8_exists o x3 hB_o (by omega)) (fun r5 hc_r5 hp6 => ?_)
        replace hp6 : ((r5 = 1 ∧ (0 ≤ x3 ∧ x3 < 6)) ∨ (r5 = 0 ∧ ¬ (0 ≤ x3 ∧ x3 < 6))) := hp6
        refine T_qEq ⟨by omega, by omega⟩ ⟨by decide, by decide⟩ (fun h7 => ?_) (fun h7 => ?_)
        ·
          unfold b_X11_line_30
          refine T_some ?_
          show BoxC o ∧ (Fr [(0, 17), (32, 13), (33, 9999), (34, 9999), (35, 9999), (36, 9999), (37, 9999), (38, 9999), (39, 9999), (40, 9999), (53, 2), (53, 3), (53, 7), (53, 8), (53, 9), (53, 10), (54, 9999), (55, 9999), (56, 9999), (57, 9999), (58, 9999), (77, 9999)] o o)
          exact ⟨hB_o, fr_o⟩
        ·
          refine T_qB (t_X4_number o hB_o) (fun r7 hc_r7 hp8 => ?_)
          replace hp8 : (r7 = o.1 32 13) := hp8
          refine T_qLt ⟨by omega, by omega⟩ ⟨by decide, by decide⟩ (fun h9 => ?_) (fun h9 => ?_)
          ·
            refine T_qB (t_X8_isThere o x3 hB_o (by omega)) (fun r9 hc_r9 hp10 => ?_)
            replace hp10 : ((r9 = 1 ∧ (¬ o.1 2 x3.toNat = -1)) ∨ (r9 = 0 ∧ ¬ (¬ o.1 2 x3.toNat = -1))) := hp10
            refine T_qEq ⟨by omega, by omega⟩ ⟨by decide, by decide⟩ (fun h11 => ?_) (fun h11 => ?_)
            ·
              refine T_qB2 (t_X11_found o 1 hB_o (by omega)) (fun r42 o44 hc_r42 hp12 => ?_)
              replace hp12 : BoxC o44 ∧ (Fr [(0, 17), (77, 9999)] o o44) ∧ (r42 = -3) := hp12
              obtain ⟨hB_o44, fc_o44, hp12⟩ := hp12
              have fr_o44 : Fr [(0, 17), (32, 13), (33, 9999), (34, 9999), (35, 9999), (36, 9999), (37, 9999), (38, 9999), (39, 9999), (40, 9999), (53, 2), (53, 3), (53, 7), (53, 8), (53, 9), (53, 10), (54, 9999), (55, 9999), (56, 9999), (57, 9999), (58, 9999), (77, 9999)] o o44 := Fr.tr fr_o fc_o44 rfl
              have g0_13_o44 : o44.1 0 13 = o.1 0 13 := fc_o44.1 0 13 rfl
              have g53_2_o44 : o44.1 53 2 = o.1 53 2 := fc_o44.1 53 2 rfl
              have g53_3_o44 : o44.1 53 3 = o.1 53 3 := fc_o44.1 53 3 rfl
              have g32_13_o44 : o44.1 32 13 = o.1 32 13 := fc_o44.1 32 13 rfl
              refine T_some ?_
              show BoxC o44 ∧ (Fr [(0, 17), (32, 13), (33, 9999), (34, 9999), (35, 9999), (36, 9999), (37, 9999), (38, 9999), (39, 9999), (40, 9999), (53, 2), (53, 3), (53, 7), (53, 8), (53, 9), (53, 10), (54, 9999), (55, 9999), (56, 9999), (57, 9999), (58, 9999), (77, 9999)] o o44)
              exact ⟨hB_o44, fr_o44⟩
            ·
              refine T_qB (t_X8_sizeOf o x3 hB_o (by omega)) (fun r11 hc_r11 hp13 => ?_)
              replace hp13 : (r11 = o.1 2 x3.toNat) ∧ (-1 ≤ r11 ∧ r11 ≤ 40) := hp13
              have hps_hp13 := hp13
              obtain ⟨hp13_0, hp13_1⟩ := hps_hp13
              replace hp13 := hid hp13
              refine T_qEq ⟨by omega, by omega⟩ ⟨by decide, by decide⟩ (fun h14 => ?_) (fun h14 => ?_)
              ·
                refine T_qB (t_X8_allWithin o x3 0 1000 hB_o (by omega) (by omega) (by omega)) (fun r13 hc_r13 hp15 => ?_)
                replace hp15 : ((r13 = 1 ∧ (∀ k : Int, 0 ≤ k → k < o.1 2 x3.toNat → 0 ≤ o.1 3 (x3 * 40 + k).toNat ∧ o.1 3 (x3 * 40 + k).toNat ≤ 1000)) ∨ r13 = 0) := hp15
                have hw9 : r13 = 0 ∨ ∀ k : Int, 0 ≤ k → k < 4 → 0 ≤ o.1 3 (x3 * 40 + k).toNat ∧ o.1 3 (x3 * 40 + k).toNat ≤ 1000 := hp15.elim (fun q => Or.inr (fun k q0 q1 => q.2 k q0 (by omega))) (fun q => Or.inl q)
                refine T_qEq ⟨by omega, by omega⟩ ⟨by decide, by decide⟩ (fun h16 => ?_) (fun h16 => ?_)
                ·
                  refine T_qB2 (t_X11_found o 3 hB_o (by omega)) (fun r36 o38 hc_r36 hp17 => ?_)
                  replace hp17 : BoxC o38 ∧ (Fr [(0, 17), (77, 9999)] o o38) ∧ (r36 = -3) := hp17
                  obtain ⟨hB_o38, fc_o38, hp17⟩ := hp17
                  have fr_o38 : Fr [(0, 17), (32, 13), (33, 9999), (34, 9999), (35, 9999), (36, 9999), (37, 9999), (38, 9999), (39, 9999), (40, 9999), (53, 2), (53, 3), (53, 7), (53, 8), (53, 9), (53, 10), (54, 9999), (55, 9999), (56, 9999), (57, 9999), (58, 9999), (77, 9999)] o o38 := Fr.tr fr_o fc_o38 rfl
                  have g0_13_o38 : o38.1 0 13 = o.1 0 13 := fc_o38.1 0 13 rfl
                  have g53_2_o38 : o38.1 53 2 = o.1 53 2 := fc_o38.1 53 2 rfl
                  have g53_3_o38 : o38.1 53 3 = o.1 53 3 := fc_o38.1 53 3 rfl
                  have g32_13_o38 : o38.1 32 13 = o.1 32 13 := fc_o38.1 32 13 rfl
                  refine T_some ?_
                  show BoxC o38 ∧ (Fr [(0, 17), (32, 13), (33, 9999), (34, 9999), (35, 9999), (36, 9999), (37, 9999), (38, 9999), (39, 9999), (40, 9999), (53, 2), (53, 3), (53, 7), (53, 8), (53, 9), (53, 10), (54, 9999), (55, 9999), (56, 9999), (57, 9999), (58, 9999), (77, 9999)] o o38)
                  exact ⟨hB_o38, fr_o38⟩
                ·
                  refine T_qB (t_X3_isWater o x1 hB_o (by omega)) (fun r15 hc_r15 hp18 => ?_)
                  replace hp18 : ((r15 = 1 ∧ (o.1 8 x1.toNat = 4)) ∨ (r15 = 0 ∧ ¬ (o.1 8 x1.toNat = 4))) := hp18
                  refine T_qEq ⟨by omega, by omega⟩ ⟨by decide, by decide⟩ (fun h19 => ?_) (fun h19 => ?_)
                  ·
                    refine T_qB (t_X3_isWater o x2 hB_o (by omega)) (fun r17 hc_r17 hp20 => ?_)
                    replace hp20 : ((r17 = 1 ∧ (o.1 8 x2.toNat = 4)) ∨ (r17 = 0 ∧ ¬ (o.1 8 x2.toNat = 4))) := hp20
                    refine T_qEq ⟨by omega, by omega⟩ ⟨by decide, by decide⟩ (fun h21 => ?_) (fun h21 => ?_)
                    ·
                      refine T_qB (t_X11_setPrices o x3 hB_o (by omega) (hw9.elim (fun q => absurd q (by omega)) (fun q => q))) (fun o21 hc_o21 hp22 => ?_)
                      replace hp22 : BoxC o21 ∧ (Fr [(54, 9999)] o o21) := hp22
                      obtain ⟨hB_o21, fc_o21⟩ := hp22
                      have fr_o21 : Fr [(0, 17), (32, 13), (33, 9999), (34, 9999), (35, 9999), (36, 9999), (37, 9999), (38, 9999), (39, 9999), (40, 9999), (53, 2), (53, 3), (53, 7), (53, 8), (53, 9), (53, 10), (54, 9999), (55, 9999), (56, 9999), (57, 9999), (58, 9999), (77, 9999)] o o21 := Fr.tr fr_o fc_o21 rfl
                      have g0_13_o21 : o21.1 0 13 = o.1 0 13 := fc_o21.1 0 13 rfl
                      have g53_2_o21 : o21.1 53 2 = o.1 53 2 := fc_o21.1 53 2 rfl
                      have g53_3_o21 : o21.1 53 3 = o.1 53 3 := fc_o21.1 53 3 rfl
                      have g32_13_o21 : o21.1 32 13 = o.1 32 13 := fc_o21.1 32 13 rfl
                      refine T_qB (t_X11_inForce o21 0 hB_o21 (by omega)) (fun r22 hc_r22 hp23 => ?_)
                      replace hp23 : (0 ≤ r22 ∧ r22 ≤ 9999) := hp23
                      refine T_qB2 (t_X10_find o21 r22 x1 x2 hB_o21 (by omega) (by omega) (by omega)) (fun r24 o26 hc_r24 hp24 => ?_)
                      replace hp24 : BoxC o26 ∧ (Fr [(53, 2), (53, 3), (53, 7), (53, 8), (53, 9), (53, 10), (55, 9999), (56, 9999), (57, 9999), (58, 9999)] o21 o26) ∧ (0 ≤ r24 ∧ r24 ≤ 1) := hp24
                      obtain ⟨hB_o26, fc_o26, hp24⟩ := hp24
                      have fr_o26 : Fr [(0, 17), (32, 13), (33, 9999), (34, 9999), (35, 9999), (36, 9999), (37, 9999), (38, 9999), (39, 9999), (40, 9999), (53, 2), (53, 3), (53, 7), (53, 8), (53, 9), (53, 10), (54, 9999), (55, 9999), (56, 9999), (57, 9999), (58, 9999), (77, 9999)] o o26 := Fr.tr fr_o21 fc_o26 rfl
                      have g0_13_o26 : o26.1 0 13 = o21.1 0 13 := fc_o26.1 0 13 rfl
                      have g53_2_o26 := bC_53_2 hB_o26
                      have g53_3_o26 := bC_53_3 hB_o26
                      have g32_13_o26 : o26.1 32 13 = o21.1 32 13 := fc_o26.1 32 13 rfl
                      refine T_qEq ⟨by omega, by omega⟩ ⟨by decide, by decide⟩ (fun h25 => ?_) (fun h25 => ?_)
                      ·
                        refine T_qB2 (t_X11_found o26 1 hB_o26 (by omega)) (fun r33 o35 hc_r33 hp26 => ?_)
                        replace hp26 : BoxC o35 ∧ (Fr [(0, 17), (77, 9999)] o26 o35) ∧ (r33 = -3) := hp26
                        obtain ⟨hB_o35, fc_o35, hp26⟩ := hp26
                        have fr_o35 : Fr [(0, 17), (32, 13), (33, 9999), (34, 9999), (35, 9999), (36, 9999), (37, 9999), (38, 9999), (39, 9999), (40, 9999), (53, 2), (53, 3), (53, 7), (53, 8), (53, 9), (53, 10), (54, 9999), (55, 9999), (56, 9999), (57, 9999), (58, 9999), (77, 9999)] o o35 := Fr.tr fr_o26 fc_o35 rfl
                        have g0_13_o35 : o35.1 0 13 = o26.1 0 13 := fc_o35.1 0 13 rfl
                        have g53_2_o35 : o35.1 53 2 = o26.1 53 2 := fc_o35.1 53 2 rfl
                        have g53_3_o35 : o35.1 53 3 = o26.1 53 3 := fc_o35.1 53 3 rfl
                        have g32_13_o35 : o35.1 32 13 = o26.1 32 13 := fc_o35.1 32 13 rfl
                        refine T_some ?_
                        show BoxC o35 ∧ (Fr [(0, 17), (32, 13), (33, 9999), (34, 9999), (35, 9999), (36, 9999), (37, 9999), (38, 9999), (39, 9999), (40, 9999), (53, 2), (53, 3), (53, 7), (53, 8), (53, 9), (53, 10), (54, 9999), (55, 9999), (56, 9999), (57, 9999), (58, 9999), (77, 9999)] o o35)
                        exact ⟨hB_o35, fr_o35⟩
                      ·
                        refine T_qB2 (t_X4_add o26 1 (o26.1 0 13) (-9) hB_o26 (by omega) (by omega) (by omega) (by omega)) (fun r27 o29 hc_r27 hp27 => ?_)
                        replace hp27 : BoxC o29 ∧ (Fr [(32, 13), (33, 9999), (34, 9999), (35, 9999), (40, 9999)] o26 o29) ∧ (r27 = o26.1 32 13) ∧ (o29.1 32 13 = o26.1 32 13 + 1) := hp27
                        obtain ⟨hB_o29, fc_o29, hp27⟩ := hp27
                        have fr_o29 : Fr [(0, 17), (32, 13), (33, 9999), (34, 9999), (35, 9999), (36, 9999), (37, 9999), (38, 9999), (39, 9999), (40, 9999), (53, 2), (53, 3), (53, 7), (53, 8), (53, 9), (53, 10), (54, 9999), (55, 9999), (56, 9999), (57, 9999), (58, 9999), (77, 9999)] o o29 := Fr.tr fr_o26 fc_o29 rfl
                        have g0_13_o29 : o29.1 0 13 = o26.1 0 13 := fc_o29.1 0 13 rfl
                        have g53_2_o29 : o29.1 53 2 = o26.1 53 2 := fc_o29.1 53 2 rfl
                        have g53_3_o29 : o29.1 53 3 = o26.1 53 3 := fc_o29.1 53 3 rfl
                        have g32_13_o29 := bC_32_13 hB_o29
                        refine T_qB (t_X4_route o29 r27 (o29.1 53 2) (o29.1 53 3) hB_o29 (by omega) (by omega) (by omega)) (fun o32 hc_o32 hp28 => ?_)
                        replace hp28 : BoxC o32 ∧ (Fr [(36, 9999), (37, 9999), (38, 9999), (39, 9999)] o29 o32) := hp28
                        obtain ⟨hB_o32, fc_o32⟩ := hp28
                        have fr_o32 : Fr [(0, 17), (32, 13), (33, 9999), (34, 9999), (35, 9999), (36, 9999), (37, 9999), (38, 9999), (39, 9999), (40, 9999), (53, 2), (53, 3), (53, 7), (53, 8), (53, 9), (53, 10), (54, 9999), (55, 9999), (56, 9999), (57, 9999), (58, 9999), (77, 9999)] o o32 := Fr.tr fr_o29 fc_o32 rfl
                        have g0_13_o32 : o32.1 0 13 = o29.1 0 13 := fc_o32.1 0 13 rfl
                        have g53_2_o32 : o32.1 53 2 = o29.1 53 2 := fc_o32.1 53 2 rfl
                        have g53_3_o32 : o32.1 53 3 = o29.1 53 3 := fc_o32.1 53 3 rfl
                        have g32_13_o32 : o32.1 32 13 = o29.1 32 13 := fc_o32.1 32 13 rfl
                        refine T_some ?_
                        show BoxC o32 ∧ (Fr [(0, 17), (32, 13), (33, 9999), (34, 9999), (35, 9999), (36, 9999), (37, 9999), (38, 9999), (39, 9999), (40, 9999), (53, 2), (53, 3), (53, 7), (53, 8), (53, 9), (53, 10), (54, 9999), (55, 9999), (56, 9999), (57, 9999), (58, 9999), (77, 9999)] o o32)
                        exact ⟨hB_o32, fr_o32⟩
                    ·
                      unfold b_X11_line_125
                      refine T_some ?_
                      show BoxC o ∧ (Fr [(0, 17), (32, 13), (33, 9999), (34, 9999), (35, 9999), (36, 9999), (37, 9999), (38, 9999), (39, 9999), (40, 9999), (53, 2), (53, 3), (53, 7), (53, 8), (53, 9), (53, 10), (54, 9999), (55, 9999), (56, 9999), (57, 9999), (58, 9999), (77, 9999)] o o)
                      exact ⟨hB_o, fr_o⟩
                  ·
                    unfold b_X11_line_125
                    refine T_some ?_
                    show BoxC o ∧ (Fr [(0, 17), (32, 13), (33, 9999), (34, 9999), (35, 9999), (36, 9999), (37, 9999), (38, 9999), (39, 9999), (40, 9999), (53, 2), (53, 3), (53, 7), (53, 8), (53, 9), (53, 10), (54, 9999), (55, 9999), (56, 9999), (57, 9999), (58, 9999), (77, 9999)] o o)
                    exact ⟨hB_o, fr_o⟩
              ·
                refine T_qB2 (t_X11_found o 5 hB_o (by omega)) (fun r39 o41 hc_r39 hp29 => ?_)
                replace hp29 : BoxC o41 ∧ (Fr [(0, 17), (77, 9999)] o o41) ∧ (r39 = -3) := hp29
                obtain ⟨hB_o41, fc_o41, hp29⟩ := hp29
                have fr_o41 : Fr [(0, 17), (32, 13), (33, 9999), (34, 9999), (35, 9999), (36, 9999), (37, 9999), (38, 9999), (39, 9999), (40, 9999), (53, 2), (53, 3), (53, 7), (53, 8), (53, 9), (53, 10), (54, 9999), (55, 9999), (56, 9999), (57, 9999), (58, 9999), (77, 9999)] o o41 := Fr.tr fr_o fc_o41 rfl
                have g0_13_o41 : o41.1 0 13 = o.1 0 13 := fc_o41.1 0 13 rfl
                have g53_2_o41 : o41.1 53 2 = o.1 53 2 := fc_o41.1 53 2 rfl
                have g53_3_o41 : o41.1 53 3 = o.1 53 3 := fc_o41.1 53 3 rfl
                have g32_13_o41 : o41.1 32 13 = o.1 32 13 := fc_o41.1 32 13 rfl
                refine T_some ?_
                show BoxC o41 ∧ (Fr [(0, 17), (32, 13), (33, 9999), (34, 9999), (35, 9999), (36, 9999), (37, 9999), (38, 9999), (39, 9999), (40, 9999), (53, 2), (53, 3), (53, 7), (53, 8), (53, 9), (53, 10), (54, 9999), (55, 9999), (56, 9999), (57, 9999), (58, 9999), (77, 9999)] o o41)
                exact ⟨hB_o41, fr_o41⟩
          ·
            refine T_some ?_
            show BoxC o ∧ (Fr [(0, 17), (32, 13), (33, 9999), (34, 9999), (35, 9999), (36, 9999), (37, 9999), (38, 9999), (39, 9999), (40, 9999), (53, 2), (53, 3), (53, 7), (53, 8), (53, 9), (53, 10), (54, 9999), (55, 9999), (56, 9999), (57, 9999), (58, 9999), (77, 9999)] o o)
            exact ⟨hB_o, fr_o⟩
