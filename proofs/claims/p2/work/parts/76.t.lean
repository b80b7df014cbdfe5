set_option maxHeartbeats 4000000 in
theorem t_X8_exchange__4 (o : OO) (x1 : Int) (x2 : Int) (x3 : Int) (hB_o : BoxC o) (k0 : 0 ≤ x1 * 40 + x2 ∧ x1 * 40 + x2 < 240) (k1 : inR x3) : T (s_X8_exchange__4 o x1 x2 x3) (fun v => BoxC v.2 ∧ (Fr [(6, 9999)] o v.2) ∧ (inR v.1)) := by
  have fr_o : Fr [(6, 9999)] o o := Fr.rf
  unfold s_X8_exchange__4
  refine T_qIn ⟨by omega, by omega⟩ ?_
  refine T_qNm (fun n2 e_n2 => ?_)
  have b_n2 : -2147483648 ≤ n2 ∧ n2 ≤ 2147483647 := by rw [e_n2]; exact bC_6 hB_o _
  refine T_qIn ⟨by omega, by omega⟩ ?_
  refine T_qNm (fun o4 e_o4 => ?_)
  have hB_o4 : BoxC o4 := by rw [e_o4]; exact Box.s1 hB_o (show -2147483648 ≤ x3 ∧ x3 ≤ 2147483647 from ⟨by omega, by omega⟩)
  have fr_o4 : Fr [(6, 9999)] o o4 := by rw [e_o4]; exact Fr.s1 fr_o rfl
  refine T_some ?_
  show BoxC o4 ∧ (Fr [(6, 9999)] o o4) ∧ (inR n2)
  exact ⟨hB_o4, fr_o4, (by omega)⟩
set_option maxHeartbeats 4000000 in
theorem t_X11_put (o : OO) (x1 : Int) (x2 : Int) (x3 : Int) (hB_o : BoxC o) (k0 : inR x1) (k1 : inR x2) (k2 : inR x3) : T (s_X11_put o x1 x2 x3) (fun v => BoxC v.2 ∧ (Fr [(0, 17), (6, 9999), (77, 9999)] o v.2)) := by
  have fr_o : Fr [(0, 17), (6, 9999), (77, 9999)] o o := Fr.rf
  have hjb := jb_rng x3
  unfold s_X11_put
  refine T_qB (t_X8_exists__4 o x1 hB_o (by omega)) (fun r1 hc_r1 hp1 => ?_)
  have hp1 : ((r1 = 1 ∧ (0 ≤ x1 ∧ x1 < 4)) ∨ (r1 = 0 ∧ ¬ (0 ≤ x1 ∧ x1 < 4))) := hp1
  refine T_qEq ⟨by omega, by omega⟩ ⟨by decide, by decide⟩ (fun h2 => ?_) (fun h2 => ?_)
  ·
    refine T_some ?_
    show BoxC o ∧ (Fr [(0, 17), (6, 9999), (77, 9999)] o o)
    exact ⟨hB_o, fr_o⟩
  ·
    refine T_qB (t_X8_isThere__4 o x1 hB_o (by omega)) (fun r3 hc_r3 hp3 => ?_)
    have hp3 : ((r3 = 1 ∧ (¬ o.1 5 x1.toNat = -1)) ∨ (r3 = 0 ∧ ¬ (¬ o.1 5 x1.toNat = -1))) := hp3
    refine T_qEq ⟨by omega, by omega⟩ ⟨by decide, by decide⟩ (fun h4 => ?_) (fun h4 => ?_)
    ·
      refine T_qB2 (t_X11_found o 1 hB_o (by omega)) (fun r13 o15 hc_r13 hp5 => ?_)
      have hp5 : BoxC o15 ∧ (Fr [(0, 17), (77, 9999)] o o15) ∧ (r13 = -3) := hp5
      obtain ⟨hB_o15, fc_o15, hp5⟩ := hp5
      have fr_o15 : Fr [(0, 17), (6, 9999), (77, 9999)] o o15 := Fr.tr fr_o fc_o15 rfl
      refine T_some ?_
      show BoxC o15 ∧ (Fr [(0, 17), (6, 9999), (77, 9999)] o o15)
      exact ⟨hB_o15, fr_o15⟩
    ·
      refine T_qB (t_X8_holds o x1 x2 hB_o (by omega) (by omega)) (fun r5 hc_r5 hp6 => ?_)
      have hp6 : ((r5 = 1 ∧ 0 ≤ x2 ∧ x2 < o.1 5 x1.toNat ∧ o.1 5 x1.toNat ≤ 40) ∨ (r5 = 0 ∧ ¬ (0 ≤ x2 ∧ x2 < o.1 5 x1.toNat))) := hp6
      refine T_qEq ⟨by omega, by omega⟩ ⟨by decide, by decide⟩ (fun h7 => ?_) (fun h7 => ?_)
      ·
        refine T_qB2 (t_X11_found o 2 hB_o (by omega)) (fun r10 o12 hc_r10 hp8 => ?_)
        have hp8 : BoxC o12 ∧ (Fr [(0, 17), (77, 9999)] o o12) ∧ (r10 = -3) := hp8
        obtain ⟨hB_o12, fc_o12, hp8⟩ := hp8
        have fr_o12 : Fr [(0, 17), (6, 9999), (77, 9999)] o o12 := Fr.tr fr_o fc_o12 rfl
        refine T_some ?_
        show BoxC o12 ∧ (Fr [(0, 17), (6, 9999), (77, 9999)] o o12)
        exact ⟨hB_o12, fr_o12⟩
      ·
        refine T_qB2 (t_X8_exchange__4 o x1 x2 (jb x3) hB_o (by omega) (by omega)) (fun r7 o9 hc_r7 hp9 => ?_)
        have hp9 : BoxC o9 ∧ (Fr [(6, 9999)] o o9) ∧ (inR r7) := hp9
        obtain ⟨hB_o9, fc_o9, hp9⟩ := hp9
        have fr_o9 : Fr [(0, 17), (6, 9999), (77, 9999)] o o9 := Fr.tr fr_o fc_o9 rfl
        refine T_some ?_
        show BoxC o9 ∧ (Fr [(0, 17), (6, 9999), (77, 9999)] o o9)
        exact ⟨hB_o9, fr_o9⟩
set_option maxHeartbeats 4000000 in
theorem t_X4_routeOf (o : OO) (x1 : Int) (x2 : Int) (hB_o : BoxC o) (k0 : 0 ≤ x1 ∧ x1 ≤ 23) (k1 : 0 ≤ x2 ∧ x2 ≤ 63) : T (s_X4_routeOf o x1 x2) (fun v => BoxC v ∧ (Fr [(36, 9999), (37, 9999), (38, 9999)] o v)) := by
  have fr_o : Fr [(36, 9999), (37, 9999), (38, 9999)] o o := Fr.rf
  unfold s_X4_routeOf
  refine T_qIn ⟨by omega, by omega⟩ ?_
  refine T_qNm (fun o2 e_o2 => ?_)
  have hB_o2 : BoxC o2 := by rw [e_o2]; exact Box.s1 hB_o (show 0 ≤ 1 ∧ 1 ≤ 64 from ⟨by omega, by omega⟩)
  have fr_o2 : Fr [(36, 9999), (37, 9999), (38, 9999)] o o2 := by rw [e_o2]; exact Fr.s1 fr_o rfl
  refine T_qIn ⟨by omega, by omega⟩ ?_
  refine T_qNm (fun o4 e_o4 => ?_)
  have hB_o4 : BoxC o4 := by rw [e_o4]; exact Box.s1 hB_o2 (show 0 ≤ x2 ∧ x2 ≤ 63 from ⟨by omega, by omega⟩)
  have fr_o4 : Fr [(36, 9999), (37, 9999), (38, 9999)] o o4 := by rw [e_o4]; exact Fr.s1 fr_o2 rfl
  refine T_qB (t_X3_bit x2) (fun p5 hc_p5 hp1 => ?_)
  refine T_qIn ⟨by omega, by omega⟩ ?_
  refine T_qNm (fun o8 e_o8 => ?_)
  have hB_o8 : BoxC o8 := by rw [e_o8]; exact Box.s2 hB_o4
  have fr_o8 : Fr [(36, 9999), (37, 9999), (38, 9999)] o o8 := by rw [e_o8]; exact Fr.s2 fr_o4 rfl
  refine T_some ?_
  show BoxC o8 ∧ (Fr [(36, 9999), (37, 9999), (38, 9999)] o o8)
  exact ⟨hB_o8, fr_o8⟩
set_option maxHeartbeats 4000000 in
theorem t_X11_ramp (o : OO) (x1 : Int) (x2 : Int) (hB_o : BoxC o) (k0 : inR x1) (k1 : inR x2) : T (s_X11_ramp o x1 x2) (fun v => BoxC v.2 ∧ (Fr [(0, 17), (32, 13), (33, 9999), (34, 9999), (35, 9999), (36, 9999), (37, 9999), (38, 9999), (40, 9999), (77, 9999)] o v.2)) := by
  have fr_o : Fr [(0, 17), (32, 13), (33, 9999), (34, 9999), (35, 9999), (36, 9999), (37, 9999), (38, 9999), (40, 9999), (77, 9999)] o o := Fr.rf
  have g0_13_o := bC_0_13 hB_o
  have g32_13_o := bC_32_13 hB_o
  unfold s_X11_ramp
  refine T_qB (t_X4_exists o x1 hB_o (by omega)) (fun r9 hc_r9 hp1 => ?_)
  have hp1 : ((r9 = 1 ∧ (0 ≤ x1 ∧ x1 < o.1 32 13)) ∨ (r9 = 0 ∧ ¬ (0 ≤ x1 ∧ x1 < o.1 32 13))) := hp1
  refine T_qEq ⟨by omega, by omega⟩ ⟨by decide, by decide⟩ (fun h2 => ?_) (fun h2 => ?_)
  ·
    unfold b_X11_ramp_18
    refine T_some ?_
    show BoxC o ∧ (Fr [(0, 17), (32, 13), (33, 9999), (34, 9999), (35, 9999), (36, 9999), (37, 9999), (38, 9999), (40, 9999), (77, 9999)] o o)
    exact ⟨hB_o, fr_o⟩
  ·
    refine T_qB (t_X3_isCell x2 (by omega)) (fun r11 hc_r11 hp3 => ?_)
    have hp3 : ((r11 = 1 ∧ (0 ≤ x2 ∧ x2 < 64)) ∨ (r11 = 0 ∧ ¬ (0 ≤ x2 ∧ x2 < 64))) := hp3
    refine T_qEq ⟨by omega, by omega⟩ ⟨by decide, by decide⟩ (fun h4 => ?_) (fun h4 => ?_)
    ·
      unfold b_X11_ramp_18
      refine T_some ?_
      show BoxC o ∧ (Fr [(0, 17), (32, 13), (33, 9999), (34, 9999), (35, 9999), (36, 9999), (37, 9999), (38, 9999), (40, 9999), (77, 9999)] o o)
      exact ⟨hB_o, fr_o⟩
    ·
      refine T_qB (t_X4_number o hB_o) (fun r13 hc_r13 hp5 => ?_)
      have hp5 : (r13 = o.1 32 13) := hp5
      refine T_qLt ⟨by omega, by omega⟩ ⟨by decide, by decide⟩ (fun h6 => ?_) (fun h6 => ?_)
      ·
        refine T_qB (t_X4_isOf o x1 1 hB_o (by omega) (by omega)) (fun r15 hc_r15 hp7 => ?_)
        have hp7 : (0 ≤ r15 ∧ r15 ≤ 1) := hp7
        refine T_qEq ⟨by omega, by omega⟩ ⟨by decide, by decide⟩ (fun h8 => ?_) (fun h8 => ?_)
        ·
          refine T_qB2 (t_X11_found o 3 hB_o (by omega)) (fun r25 o27 hc_r25 hp9 => ?_)
          have hp9 : BoxC o27 ∧ (Fr [(0, 17), (77, 9999)] o o27) ∧ (r25 = -3) := hp9
          obtain ⟨hB_o27, fc_o27, hp9⟩ := hp9
          have fr_o27 : Fr [(0, 17), (32, 13), (33, 9999), (34, 9999), (35, 9999), (36, 9999), (37, 9999), (38, 9999), (40, 9999), (77, 9999)] o o27 := Fr.tr fr_o fc_o27 rfl
          have g0_13_o27 : o27.1 0 13 = o.1 0 13 := fc_o27.1 0 13 rfl
          have g32_13_o27 : o27.1 32 13 = o.1 32 13 := fc_o27.1 32 13 rfl
          refine T_some ?_
          show BoxC o27 ∧ (Fr [(0, 17), (32, 13), (33, 9999), (34, 9999), (35, 9999), (36, 9999), (37, 9999), (38, 9999), (40, 9999), (77, 9999)] o o27)
          exact ⟨hB_o27, fr_o27⟩
        ·
          refine T_qB (t_X4_cells o x1 hB_o (by omega)) (fun p17 hc_p17 hp10 => ?_)
          refine T_qB (t_X3_spread p17) (fun p19 hc_p19 hp11 => ?_)
          refine T_qB (t_X3_has p19 x2) (fun r21 hc_r21 hp12 => ?_)
          have hp12 : (0 ≤ r21 ∧ r21 ≤ 1) := hp12
          refine T_qEq ⟨by omega, by omega⟩ ⟨by decide, by decide⟩ (fun h13 => ?_) (fun h13 => ?_)
          ·
            unfold b_X11_ramp_85
            unfold b_X11_ramp_86
            refine T_qB (t_X3_isWater o x2 hB_o (by omega)) (fun r1 hc_r1 hp14 => ?_)
            have hp14 : ((r1 = 1 ∧ (o.1 8 x2.toNat = 4)) ∨ (r1 = 0 ∧ ¬ (o.1 8 x2.toNat = 4))) := hp14
            refine T_qEq ⟨by omega, by omega⟩ ⟨by decide, by decide⟩ (fun h15 => ?_) (fun h15 => ?_)
            ·
              refine T_qEq ⟨by decide, by decide⟩ ⟨by decide, by decide⟩ (fun h16 => ?_) (fun h16 => ?_)
              ·
                unfold b_X11_ramp_104
                refine T_some ?_
                show BoxC o ∧ (Fr [(0, 17), (32, 13), (33, 9999), (34, 9999), (35, 9999), (36, 9999), (37, 9999), (38, 9999), (40, 9999), (77, 9999)] o o)
                exact ⟨hB_o, fr_o⟩
              ·
                refine T_qB2 (t_X4_add o 2 (o.1 0 13) x1 hB_o (by omega) (by omega) (by omega) (by omega)) (fun r3 o5 hc_r3 hp17 => ?_)
                have hp17 : BoxC o5 ∧ (Fr [(32, 13), (33, 9999), (34, 9999), (35, 9999), (40, 9999)] o o5) ∧ (r3 = o.1 32 13) ∧ (o5.1 32 13 = o.1 32 13 + 1) := hp17
                obtain ⟨hB_o5, fc_o5, hp17⟩ := hp17
                have fr_o5 : Fr [(0, 17), (32, 13), (33, 9999), (34, 9999), (35, 9999), (36, 9999), (37, 9999), (38, 9999), (40, 9999), (77, 9999)] o o5 := Fr.tr fr_o fc_o5 rfl
                have g0_13_o5 : o5.1 0 13 = o.1 0 13 := fc_o5.1 0 13 rfl
                have g32_13_o5 := bC_32_13 hB_o5
                refine T_qB (t_X4_routeOf o5 r3 x2 hB_o5 (by omega) (by omega)) (fun o8 hc_o8 hp18 => ?_)
                have hp18 : BoxC o8 ∧ (Fr [(36, 9999), (37, 9999), (38, 9999)] o5 o8) := hp18
                obtain ⟨hB_o8, fc_o8⟩ := hp18
                have fr_o8 : Fr [(0, 17), (32, 13), (33, 9999), (34, 9999), (35, 9999), (36, 9999), (37, 9999), (38, 9999), (40, 9999), (77, 9999)] o o8 := Fr.tr fr_o5 fc_o8 rfl
                have g0_13_o8 : o8.1 0 13 = o5.1 0 13 := fc_o8.1 0 13 rfl
                have g32_13_o8 : o8.1 32 13 = o5.1 32 13 := fc_o8.1 32 13 rfl
                refine T_some ?_
                show BoxC o8 ∧ (Fr [(0, 17), (32, 13), (33, 9999), (34, 9999), (35, 9999), (36, 9999), (37, 9999), (38, 9999), (40, 9999), (77, 9999)] o o8)
                exact ⟨hB_o8, fr_o8⟩
            ·
              unfold b_X11_ramp_104
              refine T_some ?_
              show BoxC o ∧ (Fr [(0, 17), (32, 13), (33, 9999), (34, 9999), (35, 9999), (36, 9999), (37, 9999), (38, 9999), (40, 9999), (77, 9999)] o o)
              exact ⟨hB_o, fr_o⟩
          ·
            refine T_qB (t_X3_has p17 x2) (fun r23 hc_r23 hp19 => ?_)
            have hp19 : (0 ≤ r23 ∧ r23 ≤ 1) := hp19
            refine T_qEq ⟨by omega, by omega⟩ ⟨by decide, by decide⟩ (fun h20 => ?_) (fun h20 => ?_)
            ·
              unfold b_X11_ramp_86
              refine T_qB (t_X3_isWater o x2 hB_o (by omega)) (fun r1 hc_r1 hp21 => ?_)
              have hp21 : ((r1 = 1 ∧ (o.1 8 x2.toNat = 4)) ∨ (r1 = 0 ∧ ¬ (o.1 8 x2.toNat = 4))) := hp21
              refine T_qEq ⟨by omega, by omega⟩ ⟨by decide, by decide⟩ (fun h22 => ?_) (fun h22 => ?_)
              ·
                refine T_qEq ⟨by decide, by decide⟩ ⟨by decide, by decide⟩ (fun h23 => ?_) (fun h23 => ?_)
                ·
                  unfold b_X11_ramp_104
                  refine T_some ?_
                  show BoxC o ∧ (Fr [(0, 17), (32, 13), (33, 9999), (34, 9999), (35, 9999), (36, 9999), (37, 9999), (38, 9999), (40, 9999), (77, 9999)] o o)
                  exact ⟨hB_o, fr_o⟩
                ·
                  refine T_qB2 (t_X4_add o 2 (o.1 0 13) x1 hB_o (by omega) (by omega) (by omega) (by omega)) (fun r3 o5 hc_r3 hp24 => ?_)
                  have hp24 : BoxC o5 ∧ (Fr [(32, 13), (33, 9999), (34, 9999), (35, 9999), (40, 9999)] o o5) ∧ (r3 = o.1 32 13) ∧ (o5.1 32 13 = o.1 32 13 + 1) := hp24
                  obtain ⟨hB_o5, fc_o5, hp24⟩ := hp24
                  have fr_o5 : Fr [(0, 17), (32, 13), (33, 9999), (34, 9999), (35, 9999), (36, 9999), (37, 9999), (38, 9999), (40, 9999), (77, 9999)] o o5 := Fr.tr fr_o fc_o5 rfl
                  have g0_13_o5 : o5.1 0 13 = o.1 0 13 := fc_o5.1 0 13 rfl
                  have g32_13_o5 := bC_32_13 hB_o5
                  refine T_qB (t_X4_routeOf o5 r3 x2 hB_o5 (by omega) (by omega)) (fun o8 hc_o8 hp25 => ?_)
                  have hp25 : BoxC o8 ∧ (Fr [(36, 9999), (37, 9999), (38, 9999)] o5 o8) := hp25
                  obtain ⟨hB_o8, fc_o8⟩ := hp25
                  have fr_o8 : Fr [(0, 17), (32, 13), (33, 9999), (34, 9999), (35, 9999), (36, 9999), (37, 9999), (38, 9999), (40, 9999), (77, 9999)] o o8 := Fr.tr fr_o5 fc_o8 rfl
                  have g0_13_o8 : o8.1 0 13 = o5.1 0 13 := fc_o8.1 0 13 rfl
                  have g32_13_o8 : o8.1 32 13 = o5.1 32 13 := fc_o8.1 32 13 rfl
                  refine T_some ?_
                  show BoxC o8 ∧ (Fr [(0, 17), (32, 13), (33, 9999), (34, 9999), (35, 9999), (36, 9999), (37, 9999), (38, 9999), (40, 9999), (77, 9999)] o o8)
                  exact ⟨hB_o8, fr_o8⟩
              ·
                unfold b_X11_ramp_104
                refine T_some ?_
                show BoxC o ∧ (Fr [(0, 17), (32, 13), (33, 9999), (34, 9999), (35, 9999), (36, 9999), (37, 9999), (38, 9999), (40, 9999), (77, 9999)] o o)
                exact ⟨hB_o, fr_o⟩
            ·
              unfold b_X11_ramp_85
              unfold b_X11_ramp_86
              refine T_qB (t_X3_isWater o x2 hB_o (by omega)) (fun r1 hc_r1 hp26 => ?_)
              have hp26 : ((r1 = 1 ∧ (o.1 8 x2.toNat = 4)) ∨ (r1 = 0 ∧ ¬ (o.1 8 x2.toNat = 4))) := hp26
              refine T_qEq ⟨by omega, by omega⟩ ⟨by decide, by decide⟩ (fun h27 => ?_) (fun h27 => ?_)
              ·
                refine T_qEq ⟨by decide, by decide⟩ ⟨by decide, by decide⟩ (fun h28 => ?_) (fun h28 => ?_)
                ·
                  unfold b_X11_ramp_104
                  refine T_some ?_
                  show BoxC o ∧ (Fr [(0, 17), (32, 13), (33, 9999), (34, 9999), (35, 9999), (36, 9999), (37, 9999), (38, 9999), (40, 9999), (77, 9999)] o o)
                  exact ⟨hB_o, fr_o⟩
                ·
                  refine T_qB2 (t_X4_add o 2 (o.1 0 13) x1 hB_o (by omega) (by omega) (by omega) (by omega)) (fun r3 o5 hc_r3 hp29 => ?_)
                  have hp29 : BoxC o5 ∧ (Fr [(32, 13), (33, 9999), (34, 9999), (35, 9999), (40, 9999)] o o5) ∧ (r3 = o.1 32 13) ∧ (o5.1 32 13 = o.1 32 13 + 1) := hp29
                  obtain ⟨hB_o5, fc_o5, hp29⟩ := hp29
                  have fr_o5 : Fr [(0, 17), (32, 13), (33, 9999), (34, 9999), (35, 9999), (36, 9999), (37, 9999), (38, 9999), (40, 9999), (77, 9999)] o o5 := Fr.tr fr_o fc_o5 rfl
                  have g0_13_o5 : o5.1 0 13 = o.1 0 13 := fc_o5.1 0 13 rfl
                  have g32_13_o5 := bC_32_13 hB_o5
                  refine T_qB (t_X4_routeOf o5 r3 x2 hB_o5 (by omega) (by omega)) (fun o8 hc_o8 hp30 => ?_)
                  have hp30 : BoxC o8 ∧ (Fr [(36, 9999), (37, 9999), (38, 9999)] o5 o8) := hp30
                  obtain ⟨hB_o8, fc_o8⟩ := hp30
                  have fr_o8 : Fr [(0, 17), (32, 13), (33, 9999), (34, 9999), (35, 9999), (36, 9999), (37, 9999), (38, 9999), (40, 9999), (77, 9999)] o o8 := Fr.tr fr_o5 fc_o8 rfl
                  have g0_13_o8 : o8.1 0 13 = o5.1 0 13 := fc_o8.1 0 13 rfl
                  have g32_13_o8 : o8.1 32 13 = o5.1 32 13 := fc_o8.1 32 13 rfl
                  refine T_some ?_
                  show BoxC o8 ∧ (Fr [(0, 17), (32, 13), (33, 9999), (34, 9999), (35, 9999), (36, 9999), (37, 9999), (38, 9999), (40, 9999), (77, 9999)] o o8)
                  exact ⟨hB_o8, fr_o8⟩
              ·
                unfold b_X11_ramp_104
                refine T_some ?_
                show BoxC o ∧ (Fr [(0, 17), (32, 13), (33, 9999), (34, 9999), (35, 9999), (36, 9999), (37, 9999), (38, 9999), (40, 9999), (77, 9999)] o o)
                exact ⟨hB_o, fr_o⟩
      ·
        refine T_some ?_
        show BoxC o ∧ (Fr [(0, 17), (32, 13), (33, 9999), (34, 9999), (35, 9999), (36, 9999), (37, 9999), (38, 9999), (40, 9999), (77, 9999)] o o)
        exact ⟨hB_o, fr_o⟩
set_option maxHeartbeats 4000000 in
theorem t_J7_rangeCheck_23922 (x0 : Int) (x1 : Int) (x2 : Int) (k0 : 0 ≤ x1 ∧ x1 ≤ x2) (k1 : x2 ≤ x0) (k2 : x0 ≤ 10000) : T (s_J7_rangeCheck_23922 x0 x1 x2) (fun _ => True) := by
  unfold s_J7_rangeCheck_23922
  refine T_qLt ⟨by omega, by omega⟩ ⟨by omega, by omega⟩ (fun h1 => ?_) (fun h1 => ?_)
  ·
    exfalso
    omega
  ·
    refine T_qLt ⟨by omega, by omega⟩ ⟨by decide, by decide⟩ (fun h2 => ?_) (fun h2 => ?_)
    ·
      exfalso
      omega
    ·
      refine T_qLt ⟨by omega, by omega⟩ ⟨by omega, by omega⟩ (fun h3 => ?_) (fun h3 => ?_)
      ·
        exfalso
        omega
      ·
        refine T_some ?_
        show True
        exact trivial
set_option maxHeartbeats 4000000 in
theorem tl_J7_fill_fda19_10 (x2 : Int) (x3 : Int) (i_o : OO) (i_x4 : Int) (hB_i_o : BoxC i_o) (k0 : 0 ≤ x2 ∧ x2 ≤ 240) (k1 : -2147483648 ≤ x3 ∧ x3 ≤ 2147483647) (v0 : 0 ≤ i_x4 ∧ i_x4 ≤ 240) : T (loopW (fun s => l_J7_fill_fda19_10 x2 x3 s.1 s.2) (i_o, i_x4)) (fun r => BoxC r ∧ (Fr [(3, 9999)] i_o r)) := by
  have fr_i_o : Fr [(3, 9999)] i_o i_o := Fr.rf
  refine T_loop (fun s => BoxC s.1 ∧ (Fr [(3, 9999)] i_o s.1) ∧ (0 ≤ s.2 ∧ s.2 ≤ 240)) (fun s => (240 - s.2).toNat) ⟨hB_i_o, fr_i_o, v0⟩ (fun s hs => ?_)
  obtain ⟨o, x4⟩ := s
  have hs : BoxC o ∧ (Fr [(3, 9999)] i_o o) ∧ (0 ≤ x4 ∧ x4 ≤ 240) := hs
  obtain ⟨hB_o, fr_o, w0⟩ := hs
  show T (l_J7_fill_fda19_10 x2 x3 o x4) _
  unfold l_J7_fill_fda19_10
  refine T_qLt ⟨by omega, by omega⟩ ⟨by omega, by omega⟩ (fun h1 => ?_) (fun h1 => ?_)
  ·
    refine T_qIn ⟨by omega, by omega⟩ ?_
    refine T_qNm (fun o2 e_o2 => ?_)
    have hB_o2 : BoxC o2 := by rw [e_o2]; exact Box.s1 hB_o (show -2147483648 ≤ x3 ∧ x3 ≤ 2147483647 from ⟨by omega, by omega⟩)
    have fr_o2 : Fr [(3, 9999)] i_o o2 := by rw [e_o2]; exact Fr.s1 fr_o rfl
    refine T_some ?_
    show (BoxC o2 ∧ (Fr [(3, 9999)] i_o o2) ∧ (0 ≤ (x4 + 1) ∧ (x4 + 1) ≤ 240)) ∧ (240 - (x4 + 1)).toNat < (240 - x4).toNat
    exact ⟨⟨hB_o2, fr_o2, (by omega)⟩, by omega⟩
  ·
    refine T_some ?_
    show BoxC o ∧ (Fr [(3, 9999)] i_o o)
    exact ⟨hB_o, fr_o⟩
set_option maxHeartbeats 4000000 in
theorem t_J7_fill_fda19 (o : OO) (x1 : Int) (x2 : Int) (x3 : Int) (hB_o : BoxC o) (k0 : 0 ≤ x1 ∧ x1 ≤ x2) (k1 : x2 ≤ 240) (k2 : -2147483648 ≤ x3 ∧ x3 ≤ 2147483647) : T (s_J7_fill_fda19 o x1 x2 x3) (fun v => BoxC v ∧ (Fr [(3, 9999)] o v)) := by
  have fr_o : Fr [(3, 9999)] o o := Fr.rf
  unfold s_J7_fill_fda19
  refine T_qB (t_J7_rangeCheck_23922 240 x1 x2 (by omega) (by omega) (by omega)) (fun u2 hc_u2 hp3 => ?_)
  unfold e_J7_fill_fda19_10
  refine T_qB (tl_J7_fill_fda19_10 x2 x3 o x1 hB_o (by omega) (by omega) (by omega)) (fun r4 hc_r4 hp5 => ?_)
  obtain ⟨o_6, q_o_6⟩ : ∃ q, q = r4 := ⟨_, rfl⟩
  subst q_o_6
  have hp5 : BoxC o_6 ∧ (Fr [(3, 9999)] o o_6) := hp5
  have hps_hp5 := hp5
  obtain ⟨hp5_0, hp5_1⟩ := hps_hp5
  obtain ⟨hB_o_6, fc_o_6⟩ := hp5
  have fr_o_6 : Fr [(3, 9999)] o o_6 := Fr.tr fr_o fc_o_6 rfl
  show T (b_J7_fill_fda19_27 o_6) _
  unfold b_J7_fill_fda19_27
  refine T_some ?_
  show BoxC o_6 ∧ (Fr [(3, 9999)] o o_6)
  exact ⟨hB_o_6, fr_o_6⟩
set_option maxHeartbeats 4000000 in
theorem t_X8_layOut (o : OO) (x1 : Int) (x2 : Int) (hB_o : BoxC o) (k0 : 0 ≤ x1 ∧ x1 ≤ 5) (k1 : 0 ≤ x2 ∧ x2 ≤ 40) : T (s_X8_layOut o x1 x2) (fun v => BoxC v ∧ (Fr [(2, 9999), (3, 9999)] o v)) := by
  have fr_o : Fr [(2, 9999), (3, 9999)] o o := Fr.rf
  have g1_1_o := bC_1_1 hB_o
  unfold s_X8_layOut
  refine T_qIn ⟨by omega, by omega⟩ ?_
  refine T_qNm (fun o2 e_o2 => ?_)
  have hB_o2 : BoxC o2 := by rw [e_o2]; exact Box.s1 hB_o (show -1 ≤ x2 ∧ x2 ≤ 40 from ⟨by omega, by omega⟩)
  have fr_o2 : Fr [(2, 9999), (3, 9999)] o o2 := by rw [e_o2]; exact Fr.s1 fr_o rfl
  have g1_1_o2 : o2.1 1 1 = o.1 1 1 := by rw [e_o2]; rfl
  refine T_qB (t_J7_fill_fda19 o2 (x1 * 40) ((x1 * 40) + x2) (o2.1 1 1) hB_o2 (by omega) (by omega) (by omega)) (fun o5 hc_o5 hp1 => ?_)
  have hp1 : BoxC o5 ∧ (Fr [(3, 9999)] o2 o5) := hp1
  obtain ⟨hB_o5, fc_o5⟩ := hp1
  have fr_o5 : Fr [(2, 9999), (3, 9999)] o o5 := Fr.tr fr_o2 fc_o5 rfl
  have g1_1_o5 : o5.1 1 1 = o2.1 1 1 := fc_o5.1 1 1 rfl
  refine T_some ?_
  show BoxC o5 ∧ (Fr [(2, 9999), (3, 9999)] o o5)
  exact ⟨hB_o5, fr_o5⟩
set_option maxHeartbeats 4000000 in
theorem t_X11_row (o : OO) (x1 : Int) (x2 : Int) (hB_o : BoxC o) (k0 : inR x1) (k1 : inR x2) : T (s_X11_row o x1 x2) (fun v => BoxC v.2 ∧ (Fr [(0, 17), (2, 9999), (3, 9999), (77, 9999)] o v.2)) := by
  have fr_o : Fr [(0, 17), (2, 9999), (3, 9999), (77, 9999)] o o := Fr.rf
  unfold s_X11_row
  refine T_qB (t_X8_exists o x1 hB_o (by omega)) (fun r1 hc_r1 hp1 => ?_)
  have hp1 : ((r1 = 1 ∧ (0 ≤ x1 ∧ x1 < 6)) ∨ (r1 = 0 ∧ ¬ (0 ≤ x1 ∧ x1 < 6))) := hp1
  refine T_qEq ⟨by omega, by omega⟩ ⟨by decide, by decide⟩ (fun h2 => ?_) (fun h2 => ?_)
  ·
    unfold b_X11_row_17
    refine T_some ?_
    show BoxC o ∧ (Fr [(0, 17), (2, 9999), (3, 9999), (77, 9999)] o o)
    exact ⟨hB_o, fr_o⟩
  ·
    refine T_qLt ⟨by decide, by decide⟩ ⟨by omega, by omega⟩ (fun h3 => ?_) (fun h3 => ?_)
    ·
      unfold b_X11_row_17
      refine T_some ?_
      show BoxC o ∧ (Fr [(0, 17), (2, 9999), (3, 9999), (77, 9999)] o o)
      exact ⟨hB_o, fr_o⟩
    ·
      refine T_qLt ⟨by omega, by omega⟩ ⟨by decide, by decide⟩ (fun h4 => ?_) (fun h4 => ?_)
      ·
        refine T_qB2 (t_X11_found o 5 hB_o (by omega)) (fun r6 o8 hc_r6 hp5 => ?_)
        have hp5 : BoxC o8 ∧ (Fr [(0, 17), (77, 9999)] o o8) ∧ (r6 = -3) := hp5
        obtain ⟨hB_o8, fc_o8, hp5⟩ := hp5
        have fr_o8 : Fr [(0, 17), (2, 9999), (3, 9999), (77, 9999)] o o8 := Fr.tr fr_o fc_o8 rfl
        refine T_some ?_
        show BoxC o8 ∧ (Fr [(0, 17), (2, 9999), (3, 9999), (77, 9999)] o o8)
        exact ⟨hB_o8, fr_o8⟩
      ·
        refine T_qB (t_X8_layOut o x1 x2 hB_o (by omega) (by omega)) (fun o5 hc_o5 hp6 => ?_)
        have hp6 : BoxC o5 ∧ (Fr [(2, 9999), (3, 9999)] o o5) := hp6
        obtain ⟨hB_o5, fc_o5⟩ := hp6
        have fr_o5 : Fr [(0, 17), (2, 9999), (3, 9999), (77, 9999)] o o5 := Fr.tr fr_o fc_o5 rfl
        refine T_some ?_
        show BoxC o5 ∧ (Fr [(0, 17), (2, 9999), (3, 9999), (77, 9999)] o o5)
        exact ⟨hB_o5, fr_o5⟩
set_option maxHeartbeats 4000000 in
theorem tl_J7_fill_fda19__31_10 (x2 : Int) (x3 : Int) (i_o : OO) (i_x4 : Int) (hB_i_o : BoxC i_o) (k0 : 0 ≤ x2 ∧ x2 ≤ 128) (k1 : -1 ≤ x3 ∧ x3 ≤ 9999) (v0 : 0 ≤ i_x4 ∧ i_x4 ≤ 128) : T (loopW (fun s => l_J7_fill_fda19__31_10 x2 x3 s.1 s.2) (i_o, i_x4)) (fun r => BoxC r ∧ (Fr [(31, 9999)] i_o r)) := by
  have fr_i_o : Fr [(31, 9999)] i_o i_o := Fr.rf
  refine T_loop (fun s => BoxC s.1 ∧ (Fr [(31, 9999)] i_o s.1) ∧ (0 ≤ s.2 ∧ s.2 ≤ 128)) (fun s => (128 - s.2).toNat) ⟨hB_i_o, fr_i_o, v0⟩ (fun s hs => ?_)
  obtain ⟨o, x4⟩ := s
  have hs : BoxC o ∧ (Fr [(31, 9999)] i_o o) ∧ (0 ≤ x4 ∧ x4 ≤ 128) := hs
  obtain ⟨hB_o, fr_o, w0⟩ := hs
  show T (l_J7_fill_fda19__31_10 x2 x3 o x4) _
  unfold l_J7_fill_fda19__31_10
  refine T_qLt ⟨by omega, by omega⟩ ⟨by omega, by omega⟩ (fun h1 => ?_) (fun h1 => ?_)
  ·
    refine T_qIn ⟨by omega, by omega⟩ ?_
    refine T_qNm (fun o2 e_o2 => ?_)
    have hB_o2 : BoxC o2 := by rw [e_o2]; exact Box.s1 hB_o (show -1 ≤ x3 ∧ x3 ≤ 9999 from ⟨by omega, by omega⟩)
    have fr_o2 : Fr [(31, 9999)] i_o o2 := by rw [e_o2]; exact Fr.s1 fr_o rfl
    refine T_some ?_
    show (BoxC o2 ∧ (Fr [(31, 9999)] i_o o2) ∧ (0 ≤ (x4 + 1) ∧ (x4 + 1) ≤ 128)) ∧ (128 - (x4 + 1)).toNat < (128 - x4).toNat
    exact ⟨⟨hB_o2, fr_o2, (by omega)⟩, by omega⟩
  ·
    refine T_some ?_
    show BoxC o ∧ (Fr [(31, 9999)] i_o o)
    exact ⟨hB_o, fr_o⟩
set_option maxHeartbeats 4000000 in
theorem t_J7_fill_fda19__31 (o : OO) (x1 : Int) (x2 : Int) (x3 : Int) (hB_o : BoxC o) (k0 : 0 ≤ x1 ∧ x1 ≤ x2) (k1 : x2 ≤ 128) (k2 : -1 ≤ x3 ∧ x3 ≤ 9999) : T (s_J7_fill_fda19__31 o x1 x2 x3) (fun v => BoxC v ∧ (Fr [(31, 9999)] o v)) := by
  have fr_o : Fr [(31, 9999)] o o := Fr.rf
  unfold s_J7_fill_fda19__31
  refine T_qB (t_J7_rangeCheck_23922 128 x1 x2 (by omega) (by omega) (by omega)) (fun u2 hc_u2 hp3 => ?_)
  unfold e_J7_fill_fda19__31_10
  refine T_qB (tl_J7_fill_fda19__31_10 x2 x3 o x1 hB_o (by omega) (by omega) (by omega)) (fun r4 hc_r4 hp5 => ?_)
  obtain ⟨o_6, q_o_6⟩ : ∃ q, q = r4 := ⟨_, rfl⟩
  subst q_o_6
  have hp5 : BoxC o_6 ∧ (Fr [(31, 9999)] o o_6) := hp5
  have hps_hp5 := hp5
  obtain ⟨hp5_0, hp5_1⟩ := hps_hp5
  obtain ⟨hB_o_6, fc_o_6⟩ := hp5
  have fr_o_6 : Fr [(31, 9999)] o o_6 := Fr.tr fr_o fc_o_6 rfl
  show T (b_J7_fill_fda19__31_27 o_6) _
  unfold b_J7_fill_fda19__31_27
  refine T_some ?_
  show BoxC o_6 ∧ (Fr [(31, 9999)] o o_6)
  exact ⟨hB_o_6, fr_o_6⟩
set_option maxHeartbeats 4000000 in
theorem tl_X7_numberAt_6 (o : OO) (x1 : Int) (x2 : Int) (x3 : Int) (i_x4 : Int) (i_x5 : Int) (hB_o : BoxC o) (k0 : 0 ≤ x1 ∧ x1 ≤ 5) (k1 : 0 ≤ x2 ∧ x2 ≤ 100) (k2 : 0 ≤ x3 ∧ x3 ≤ 4) (k3 : x3 = 0 ∨ x2 + x3 ≤ 40) (k4 : ∀ k : Int, x2 ≤ k → k < x2 + x3 → 48 ≤ o.1 6 (x1 * 40 + k).toNat ∧ o.1 6 (x1 * 40 + k).toNat ≤ 57) (v0 : x2 ≤ i_x5 ∧ i_x5 ≤ x2 + x3) (v1 : 0 ≤ i_x4) (v2 : i_x5 = x2 ∧ i_x4 = 0 ∨ i_x5 = x2 + 1 ∧ i_x4 ≤ 9 ∨ i_x5 = x2 + 2 ∧ i_x4 ≤ 99 ∨ i_x5 = x2 + 3 ∧ i_x4 ≤ 999 ∨ i_x5 = x2 + 4 ∧ i_x4 ≤ 9999) : T (loopW (fun s => l_X7_numberAt_6 o x1 x2 x3 s.1 s.2) (i_x4, i_x5)) (fun r => (0 ≤ r ∧ r ≤ 9999)) := by
  refine T_loop (fun s => (x2 ≤ s.2 ∧ s.2 ≤ x2 + x3) ∧ (0 ≤ s.1) ∧ (s.2 = x2 ∧ s.1 = 0 ∨ s.2 = x2 + 1 ∧ s.1 ≤ 9 ∨ s.2 = x2 + 2 ∧ s.1 ≤ 99 ∨ s.2 = x2 + 3 ∧ s.1 ≤ 999 ∨ s.2 = x2 + 4 ∧ s.1 ≤ 9999)) (fun s => (x2 + x3 - s.2).toNat) ⟨v0, v1, v2⟩ (fun s hs => ?_)
  obtain ⟨x4, x5⟩ := s
  have hs : (x2 ≤ x5 ∧ x5 ≤ x2 + x3) ∧ (0 ≤ x4) ∧ (x5 = x2 ∧ x4 = 0 ∨ x5 = x2 + 1 ∧ x4 ≤ 9 ∨ x5 = x2 + 2 ∧ x4 ≤ 99 ∨ x5 = x2 + 3 ∧ x4 ≤ 999 ∨ x5 = x2 + 4 ∧ x4 ≤ 9999) := hs
  obtain ⟨w0, w1, w2⟩ := hs
  show T (l_X7_numberAt_6 o x1 x2 x3 x4 x5) _
  unfold l_X7_numberAt_6
  refine T_qLt ⟨by omega, by omega⟩ ⟨by omega, by omega⟩ (fun h1 => ?_) (fun h1 => ?_)
  ·
    refine T_qB (t_X8_at__4 o x1 x5 hB_o (by omega)) (fun r1 hc_r1 hp2 => ?_)
    have hp2 : (r1 = o.1 6 (x1 * 40 + x5).toNat) ∧ (inR r1) := hp2
    have hps_hp2 := hp2
    obtain ⟨hp2_0, hp2_1⟩ := hps_hp2
    have hq1 := k4 x5 (by omega) (by omega)
    refine T_qNm (fun n3 e_n3 => ?_)
    refine T_some ?_
    show ((x2 ≤ (x5 + 1) ∧ (x5 + 1) ≤ x2 + x3) ∧ (0 ≤ n3) ∧ ((x5 + 1) = x2 ∧ n3 = 0 ∨ (x5 + 1) = x2 + 1 ∧ n3 ≤ 9 ∨ (x5 + 1) = x2 + 2 ∧ n3 ≤ 99 ∨ (x5 + 1) = x2 + 3 ∧ n3 ≤ 999 ∨ (x5 + 1) = x2 + 4 ∧ n3 ≤ 9999)) ∧ (x2 + x3 - (x5 + 1)).toNat < (x2 + x3 - x5).toNat
    exact ⟨⟨(by omega), (by omega), (by omega)⟩, by omega⟩
  ·
    refine T_some ?_
    show (0 ≤ x4 ∧ x4 ≤ 9999)
    exact (by omega)
set_option maxHeartbeats 4000000 in
theorem t_X7_numberAt (o : OO) (x1 : Int) (x2 : Int) (x3 : Int) (hB_o : BoxC o) (k0 : 0 ≤ x1 ∧ x1 ≤ 5) (k1 : 0 ≤ x2 ∧ x2 ≤ 100) (k2 : 0 ≤ x3 ∧ x3 ≤ 4) (k3 : x3 = 0 ∨ x2 + x3 ≤ 40) (k4 : ∀ k : Int, x2 ≤ k → k < x2 + x3 → 48 ≤ o.1 6 (x1 * 40 + k).toNat ∧ o.1 6 (x1 * 40 + k).toNat ≤ 57) : T (s_X7_numberAt o x1 x2 x3) (fun v => (0 ≤ v ∧ v ≤ 9999)) := by
  unfold s_X7_numberAt
  unfold e_X7_numberAt_6
  refine T_qB (tl_X7_numberAt_6 o x1 x2 x3 0 x2 hB_o (by omega) (by omega) (by omega) (by omega) (by omega) (by omega) (by omega) (by omega)) (fun r3 hc_r3 hp4 => ?_)
  obtain ⟨x4_5, q_x4_5⟩ : ∃ q, q = r3 := ⟨_, rfl⟩
  subst q_x4_5
  have hp4 : (0 ≤ x4_5 ∧ x4_5 ≤ 9999) := hp4
  show T (b_X7_numberAt_38 o x4_5) _
  unfold b_X7_numberAt_38
  refine T_some ?_
  show (0 ≤ x4_5 ∧ x4_5 ≤ 9999)
  exact (by omega)
set_option maxHeartbeats 4000000 in
theorem tl_X7_add_56 (x2 : Int) (x5 : Int) (i_o : OO) (i_x6 : Int) (hB_i_o : BoxC i_o) (k0 : 0 ≤ x2 ∧ x2 ≤ 3) (k1 : 0 ≤ x5 ∧ x5 ≤ 15) (v0 : 0 ≤ i_x6 ∧ i_x6 ≤ 40) : T (loopW (fun s => l_X7_add_56 x2 x5 s.1 s.2) (i_o, i_x6)) (fun r => BoxC r ∧ (Fr [(31, 9999)] i_o r)) := by
  have fr_i_o : Fr [(31, 9999)] i_o i_o := Fr.rf
  refine T_loop (fun s => BoxC s.1 ∧ (Fr [(31, 9999)] i_o s.1) ∧ (0 ≤ s.2 ∧ s.2 ≤ 40)) (fun s => (40 - s.2).toNat) ⟨hB_i_o, fr_i_o, v0⟩ (fun s hs => ?_)
  obtain ⟨o, x6⟩ := s
  have hs : BoxC o ∧ (Fr [(31, 9999)] i_o o) ∧ (0 ≤ x6 ∧ x6 ≤ 40) := hs
  obtain ⟨hB_o, fr_o, w0⟩ := hs
  have g28_3_i := bC_28_3 hB_i_o
  have g28_3_o : o.1 28 3 = i_o.1 28 3 := fr_o.1 28 3 rfl
  show T (l_X7_add_56 x2 x5 o x6) _
  unfold l_X7_add_56
  refine T_qB (t_X8_sizeOf__4 o x2 hB_o (by omega)) (fun r1 hc_r1 hp1 => ?_)
  have hp1 : (r1 = o.1 5 x2.toNat) ∧ (-1 ≤ r1 ∧ r1 ≤ 40) := hp1
  have hps_hp1 := hp1
  obtain ⟨hp1_0, hp1_1⟩ := hps_hp1
  refine T_qLt ⟨by omega, by omega⟩ ⟨by omega, by omega⟩ (fun h2 => ?_) (fun h2 => ?_)
  ·
    refine T_qB (t_X8_at__4 o x2 x6 hB_o (by omega)) (fun r3 hc_r3 hp3 => ?_)
    have hp3 : (r3 = o.1 6 (x2 * 40 + x6).toNat) ∧ (inR r3) := hp3
    have hps_hp3 := hp3
    obtain ⟨hp3_0, hp3_1⟩ := hps_hp3
    refine T_qB (t_X7_letterOf r3 (by omega)) (fun r5 hc_r5 hp4 => ?_)
    have hp4 : (-9 ≤ r5 ∧ r5 ≤ 7) ∧ (r5 = -9 ∨ 0 ≤ r5) := hp4
    have hps_hp4 := hp4
    obtain ⟨hp4_0, hp4_1⟩ := hps_hp4
    refine T_qEq ⟨by omega, by omega⟩ ⟨by decide, by decide⟩ (fun h5 => ?_) (fun h5 => ?_)
    ·
      unfold b_X7_add_119
      refine T_some ?_
      show (BoxC o ∧ (Fr [(31, 9999)] i_o o) ∧ (0 ≤ (x6 + 1) ∧ (x6 + 1) ≤ 40)) ∧ (40 - (x6 + 1)).toNat < (40 - x6).toNat
      exact ⟨⟨hB_o, fr_o, (by omega)⟩, by omega⟩
    ·
      refine T_qB (t_X7_digitsAt o x2 (x6 + 1) hB_o (by omega) (by omega)) (fun r7 hc_r7 hp6 => ?_)
      have hp6 : (0 ≤ r7 ∧ r7 ≤ 4) ∧ (r7 = 0 ∨ (x6 + 1) + r7 ≤ o.1 5 x2.toNat) ∧ (∀ k : Int, (x6 + 1) ≤ k → k < (x6 + 1) + r7 → 48 ≤ o.1 6 (x2 * 40 + k).toNat ∧ o.1 6 (x2 * 40 + k).toNat ≤ 57) := hp6
      have hps_hp6 := hp6
      obtain ⟨hp6_0, hp6_1, hp6_2⟩ := hps_hp6
      refine T_qB (t_X7_numberAt o x2 (x6 + 1) r7 hB_o (by omega) (by omega) (by omega) (by omega) (by omega)) (fun r9 hc_r9 hp7 => ?_)
      have hp7 : (0 ≤ r9 ∧ r9 ≤ 9999) := hp7
      refine T_qIn ⟨by omega, by omega⟩ ?_
      refine T_qNm (fun o12 e_o12 => ?_)
      have hB_o12 : BoxC o12 := by rw [e_o12]; exact Box.s1 hB_o (show -1 ≤ r9 ∧ r9 ≤ 9999 from ⟨by omega, by omega⟩)
      have fr_o12 : Fr [(31, 9999)] i_o o12 := by rw [e_o12]; exact Fr.s1 fr_o rfl
      have g28_3_o12 : o12.1 28 3 = o.1 28 3 := by rw [e_o12]; rfl
      unfold b_X7_add_119
      refine T_some ?_
      show (BoxC o12 ∧ (Fr [(31, 9999)] i_o o12) ∧ (0 ≤ (x6 + 1) ∧ (x6 + 1) ≤ 40)) ∧ (40 - (x6 + 1)).toNat < (40 - x6).toNat
      exact ⟨⟨hB_o12, fr_o12, (by omega)⟩, by omega⟩
  ·
    refine T_some ?_
    show BoxC o ∧ (Fr [(31, 9999)] i_o o)
    exact ⟨hB_o, fr_o⟩
set_option maxHeartbeats 4000000 in
theorem t_X7_add (o : OO) (x2 : Int) (x3 : Int) (x4 : Int) (hB_o : BoxC o) (k0 : 0 ≤ x2 ∧ x2 ≤ 3) (k1 : 0 ≤ x3 ∧ x3 ≤ 999) (k2 : 0 ≤ x4 ∧ x4 ≤ 999) (k3 : o.1 28 3 ≤ 15) : T (s_X7_add o x2 x3 x4) (fun v => BoxC v.2 ∧ (Fr [(28, 3), (29, 9999), (30, 9999), (31, 9999)] o v.2) ∧ (v.1 = o.1 28 3)) := by
  have fr_o : Fr [(28, 3), (29, 9999), (30, 9999), (31, 9999)] o o := Fr.rf
  have g28_3_o := bC_28_3 hB_o
  unfold s_X7_add
  refine T_qNm (fun o13 e_o13 => ?_)
  have hB_o13 : BoxC o13 := by rw [e_o13]; exact Box.s1 hB_o (show 0 ≤ ((o.1 28 3) + 1) ∧ ((o.1 28 3) + 1) ≤ 16 from ⟨by omega, by omega⟩)
  have fr_o13 : Fr [(28, 3), (29, 9999), (30, 9999), (31, 9999)] o o13 := by rw [e_o13]; exact Fr.s1 fr_o rfl
  have g28_3_o13 : o13.1 28 3 = ((o.1 28 3) + 1) := by rw [e_o13]; rfl
  refine T_qIn ⟨by omega, by omega⟩ ?_
  refine T_qNm (fun o15 e_o15 => ?_)
  have hB_o15 : BoxC o15 := by rw [e_o15]; exact Box.s1 hB_o13 (show 0 ≤ x3 ∧ x3 ≤ 999 from ⟨by omega, by omega⟩)
  have fr_o15 : Fr [(28, 3), (29, 9999), (30, 9999), (31, 9999)] o o15 := by rw [e_o15]; exact Fr.s1 fr_o13 rfl
  have g28_3_o15 : o15.1 28 3 = o13.1 28 3 := by rw [e_o15]; rfl
  refine T_qIn ⟨by omega, by omega⟩ ?_
  refine T_qNm (fun o17 e_o17 => ?_)
  have hB_o17 : BoxC o17 := by rw [e_o17]; exact Box.s1 hB_o15 (show 0 ≤ x4 ∧ x4 ≤ 999 from ⟨by omega, by omega⟩)
  have fr_o17 : Fr [(28, 3), (29, 9999), (30, 9999), (31, 9999)] o o17 := by rw [e_o17]; exact Fr.s1 fr_o15 rfl
  have g28_3_o17 : o17.1 28 3 = o15.1 28 3 := by rw [e_o17]; rfl
  refine T_qB (t_J7_fill_fda19__31 o17 ((o.1 28 3) * 8) (((o.1 28 3) + 1) * 8) (-1) hB_o17 (by omega) (by omega) (by omega)) (fun o20 hc_o20 hp8 => ?_)
  have hp8 : BoxC o20 ∧ (Fr [(31, 9999)] o17 o20) := hp8
  obtain ⟨hB_o20, fc_o20⟩ := hp8
  have fr_o20 : Fr [(28, 3), (29, 9999), (30, 9999), (31, 9999)] o o20 := Fr.tr fr_o17 fc_o20 rfl
  have g28_3_o20 : o20.1 28 3 = o17.1 28 3 := fc_o20.1 28 3 rfl
  unfold e_X7_add_56
  refine T_qB (tl_X7_add_56 x2 (o.1 28 3) o20 0 hB_o20 (by omega) (by omega) (by omega)) (fun r9 hc_r9 hp10 => ?_)
  obtain ⟨o_11, q_o_11⟩ : ∃ q, q = r9 := ⟨_, rfl⟩
  subst q_o_11
  have hp10 : BoxC o_11 ∧ (Fr [(31, 9999)] o20 o_11) := hp10
  have hps_hp10 := hp10
  obtain ⟨hp10_0, hp10_1⟩ := hps_hp10
  obtain ⟨hB_o_11, fc_o_11⟩ := hp10
  have fr_o_11 : Fr [(28, 3), (29, 9999), (30, 9999), (31, 9999)] o o_11 := Fr.tr fr_o20 fc_o_11 rfl
  have g28_3_o_11 : o_11.1 28 3 = o20.1 28 3 := fc_o_11.1 28 3 rfl
  show T (b_X7_add_125 o_11 (o.1 28 3)) _
  unfold b_X7_add_125
  refine T_some ?_
  show BoxC o_11 ∧ (Fr [(28, 3), (29, 9999), (30, 9999), (31, 9999)] o o_11) ∧ ((o.1 28 3) = o.1 28 3)
  exact ⟨hB_o_11, fr_o_11, (by omega)⟩
set_option maxHeartbeats 4000000 in
theorem t_X11_rule (o : OO) (x1 : Int) (x2 : Int) (hB_o : BoxC o) (k0 : inR x1) (k1 : inR x2) : T (s_X11_rule o x1 x2) (fun v => BoxC v.2 ∧ (Fr [(0, 17), (28, 3), (29, 9999), (30, 9999), (31, 9999), (77, 9999)] o v.2)) := by
  have fr_o : Fr [(0, 17), (28, 3), (29, 9999), (30, 9999), (31, 9999), (77, 9999)] o o := Fr.rf
  have g0_13_o := bC_0_13 hB_o
  have g28_3_o := bC_28_3 hB_o
  unfold s_X11_rule
  refine T_qB (t_X8_exists__4 o x1 hB_o (by omega)) (fun r1 hc_r1 hp1 => ?_)
  have hp1 : ((r1 = 1 ∧ (0 ≤ x1 ∧ x1 < 4)) ∨ (r1 = 0 ∧ ¬ (0 ≤ x1 ∧ x1 < 4))) := hp1
  refine T_qEq ⟨by omega, by omega⟩ ⟨by decide, by decide⟩ (fun h2 => ?_) (fun h2 => ?_)
  ·
    unfold b_X11_rule_18
    refine T_some ?_
    show BoxC o ∧ (Fr [(0, 17), (28, 3), (29, 9999), (30, 9999), (31, 9999), (77, 9999)] o o)
    exact ⟨hB_o, fr_o⟩
  ·
    refine T_qB (t_X11_isDay x2 (by omega)) (fun r3 hc_r3 hp3 => ?_)
    have hp3 : ((r3 = 1 ∧ (0 ≤ x2 ∧ x2 ≤ 999)) ∨ (r3 = 0 ∧ ¬ (0 ≤ x2 ∧ x2 ≤ 999))) := hp3
    refine T_qEq ⟨by omega, by omega⟩ ⟨by decide, by decide⟩ (fun h4 => ?_) (fun h4 => ?_)
    ·
      unfold b_X11_rule_18
      refine T_some ?_
      show BoxC o ∧ (Fr [(0, 17), (28, 3), (29, 9999), (30, 9999), (31, 9999), (77, 9999)] o o)
      exact ⟨hB_o, fr_o⟩
    ·
      refine T_qB (t_X7_number o hB_o) (fun r5 hc_r5 hp5 => ?_)
      have hp5 : (r5 = o.1 28 3) := hp5
      refine T_qLt ⟨by omega, by omega⟩ ⟨by decide, by decide⟩ (fun h6 => ?_) (fun h6 => ?_)
      ·
        refine T_qB (t_X8_isThere__4 o x1 hB_o (by omega)) (fun r7 hc_r7 hp7 => ?_)
        have hp7 : ((r7 = 1 ∧ (¬ o.1 5 x1.toNat = -1)) ∨ (r7 = 0 ∧ ¬ (¬ o.1 5 x1.toNat = -1))) := hp7
        refine T_qEq ⟨by omega, by omega⟩ ⟨by decide, by decide⟩ (fun h8 => ?_) (fun h8 => ?_)
        ·
          refine T_qB2 (t_X11_found o 1 hB_o (by omega)) (fun r14 o16 hc_r14 hp9 => ?_)
          have hp9 : BoxC o16 ∧ (Fr [(0, 17), (77, 9999)] o o16) ∧ (r14 = -3) := hp9
          obtain ⟨hB_o16, fc_o16, hp9⟩ := hp9
          have fr_o16 : Fr [(0, 17), (28, 3), (29, 9999), (30, 9999), (31, 9999), (77, 9999)] o o16 := Fr.tr fr_o fc_o16 rfl
          have g0_13_o16 : o16.1 0 13 = o.1 0 13 := fc_o16.1 0 13 rfl
          have g28_3_o16 : o16.1 28 3 = o.1 28 3 := fc_o16.1 28 3 rfl
          refine T_some ?_
          show BoxC o16 ∧ (Fr [(0, 17), (28, 3), (29, 9999), (30, 9999), (31, 9999), (77, 9999)] o o16)
          exact ⟨hB_o16, fr_o16⟩
        ·
          refine T_qB (t_X7_firstFault o x1 hB_o (by omega)) (fun r9 hc_r9 hp10 => ?_)
          have hp10 : (-9 ≤ r9 ∧ r9 ≤ 41) := hp10
          refine T_qEq ⟨by omega, by omega⟩ ⟨by decide, by decide⟩ (fun h11 => ?_) (fun h11 => ?_)
          ·
            refine T_qB2 (t_X7_add o x1 (o.1 0 13) x2 hB_o (by omega) (by omega) (by omega) (by omega)) (fun r11 o13 hc_r11 hp12 => ?_)
            have hp12 : BoxC o13 ∧ (Fr [(28, 3), (29, 9999), (30, 9999), (31, 9999)] o o13) ∧ (r11 = o.1 28 3) := hp12
            obtain ⟨hB_o13, fc_o13, hp12⟩ := hp12
            have fr_o13 : Fr [(0, 17), (28, 3), (29, 9999), (30, 9999), (31, 9999), (77, 9999)] o o13 := Fr.tr fr_o fc_o13 rfl
            have g0_13_o13 : o13.1 0 13 = o.1 0 13 := fc_o13.1 0 13 rfl
            have g28_3_o13 := bC_28_3 hB_o13
            refine T_some ?_
            show BoxC o13 ∧ (Fr [(0, 17), (28, 3), (29, 9999), (30, 9999), (31, 9999), (77, 9999)] o o13)
            exact ⟨hB_o13, fr_o13⟩
          ·
            refine T_some ?_
            show BoxC o ∧ (Fr [(0, 17), (28, 3), (29, 9999), (30, 9999), (31, 9999), (77, 9999)] o o)
            exact ⟨hB_o, fr_o⟩
      ·
        refine T_some ?_
        show BoxC o ∧ (Fr [(0, 17), (28, 3), (29, 9999), (30, 9999), (31, 9999), (77, 9999)] o o)
        exact ⟨hB_o, fr_o⟩
set_option maxHeartbeats 4000000 in
theorem t_X11_set (o : OO) (hB_o : BoxC o) : T (s_X11_set o) (fun _ => True) := by
  unfold s_X11_set
  refine T_some ?_
  show True
  exact trivial
set_option maxHeartbeats 4000000 in
theorem t_X3_around (z0 : Int64)  : T (s_X3_around z0) (fun _ => True) := by
  unfold s_X3_around
  refine T_qB (t_X3_spreadAside z0) (fun p1 hc_p1 hp1 => ?_)
  refine T_qB (t_X3_spreadAside p1) (fun p3 hc_p3 hp2 => ?_)
  refine T_some ?_
  show True
  exact trivial
set_option maxHeartbeats 4000000 in
theorem t_X11_lowered (x0 : Int) (x1 : Int) (k0 : 0 ≤ x0 ∧ x0 ≤ 100000) (k1 : 0 ≤ x1 ∧ x1 ≤ 9999) : T (s_X11_lowered x0 x1) (fun v => (1 ≤ v ∧ v ≤ 100000)) := by
  have hm9 := low_rng k0.1 k0.2 k1.1 k1.2
  unfold s_X11_lowered
  refine T_qDv ⟨⟨by omega, by omega⟩, ⟨by decide, by decide⟩, by decide⟩ ?_
  have jd1 := jq_or (a := x0 * (100 - x1)) (b := 100)
  refine T_qR ⟨by decide, by decide⟩ ?_
  refine T_qR ⟨by omega, by omega⟩ ?_
  refine T_some ?_
  show (1 ≤ (max 1 (jq (x0 * (100 - x1)) 100)) ∧ (max 1 (jq (x0 * (100 - x1)) 100)) ≤ 100000)
  exact (by omega)
set_option maxHeartbeats 4000000 in
theorem t_X4_showOn (o : OO) (x1 : Int) (x2 : Int) (hB_o : BoxC o) (k0 : 0 ≤ x1 ∧ x1 ≤ 23) (k1 : 0 ≤ x2 ∧ x2 ≤ 999) : T (s_X4_showOn o x1 x2) (fun v => BoxC v ∧ (Fr [(40, 9999)] o v)) := by
  have fr_o : Fr [(40, 9999)] o o := Fr.rf
  unfold s_X4_showOn
  refine T_qIn ⟨by omega, by omega⟩ ?_
  refine T_qNm (fun o2 e_o2 => ?_)
  have hB_o2 : BoxC o2 := by rw [e_o2]; exact Box.s1 hB_o (show -9 ≤ x2 ∧ x2 ≤ 999 from ⟨by omega, by omega⟩)
  have fr_o2 : Fr [(40, 9999)] o o2 := by rw [e_o2]; exact Fr.s1 fr_o rfl
  refine T_some ?_
  show BoxC o2 ∧ (Fr [(40, 9999)] o o2)
  exact ⟨hB_o2, fr_o2⟩
theorem t_X11_show (o : OO) (x1 : Int) (hB_o : BoxC o) (k0 : inR x1) : T (s_X11_show o x1) (fun v => BoxC v.2 ∧ (Fr [(0, 17), (10, 13), (16, 9999), (19, 9999), (20, 9999), (21, 9999), (40, 9999), (77, 9999)] o v.2)) := by sorry
set_option maxHeartbeats 4000000 in
theorem t_X11_shown (o : OO) (x1 : Int) (hB_o : BoxC o) (k0 : inR x1) : T (s_X11_shown o x1) (fun v => BoxC v.2 ∧ (Fr [(0, 17), (77, 9999)] o v.2)) := by
  have fr_o : Fr [(0, 17), (77, 9999)] o o := Fr.rf
  have g32_13_o := bC_32_13 hB_o
  unfold s_X11_shown
  refine T_qB (t_X4_exists o x1 hB_o (by omega)) (fun r1 hc_r1 hp1 => ?_)
  have hp1 : ((r1 = 1 ∧ (0 ≤ x1 ∧ x1 < o.1 32 13)) ∨ (r1 = 0 ∧ ¬ (0 ≤ x1 ∧ x1 < o.1 32 13))) := hp1
  refine T_qEq ⟨by omega, by omega⟩ ⟨by decide, by decide⟩ (fun h2 => ?_) (fun h2 => ?_)
  ·
    refine T_some ?_
    show BoxC o ∧ (Fr [(0, 17), (77, 9999)] o o)
    exact ⟨hB_o, fr_o⟩
  ·
    refine T_qB (t_X4_isOf o x1 1 hB_o (by omega) (by omega)) (fun r3 hc_r3 hp3 => ?_)
    have hp3 : (0 ≤ r3 ∧ r3 ≤ 1) := hp3
    refine T_qEq ⟨by omega, by omega⟩ ⟨by decide, by decide⟩ (fun h4 => ?_) (fun h4 => ?_)
    ·
      refine T_qB2 (t_X11_found o 3 hB_o (by omega)) (fun r7 o9 hc_r7 hp5 => ?_)
      have hp5 : BoxC o9 ∧ (Fr [(0, 17), (77, 9999)] o o9) ∧ (r7 = -3) := hp5
      obtain ⟨hB_o9, fc_o9, hp5⟩ := hp5
      have fr_o9 : Fr [(0, 17), (77, 9999)] o o9 := Fr.tr fr_o fc_o9 rfl
      have g32_13_o9 : o9.1 32 13 = o.1 32 13 := fc_o9.1 32 13 rfl
      refine T_some ?_
      show BoxC o9 ∧ (Fr [(0, 17), (77, 9999)] o o9)
      exact ⟨hB_o9, fr_o9⟩
    ·
      refine T_qB (t_X4_shownOn o x1 hB_o (by omega)) (fun r5 hc_r5 hp6 => ?_)
      have hp6 : (-9 ≤ r5 ∧ r5 ≤ 999) := hp6
      refine T_some ?_
      show BoxC o ∧ (Fr [(0, 17), (77, 9999)] o o)
      exact ⟨hB_o, fr_o⟩
set_option maxHeartbeats 4000000 in
theorem tl_X9_survey_17 (x2 : Int) (x3 : Int) (i_o : OO) (i_x4 : Int) (hB_i_o : BoxC i_o) (k0 : inR x2) (k1 : 0 ≤ x3 ∧ x3 ≤ 4) (k2 : x3 < 4) (v0 : 0 ≤ i_x4 ∧ i_x4 ≤ 64) : T (loopW (fun s => l_X9_survey_17 x2 x3 s.1 s.2) (i_o, i_x4)) (fun r => BoxC r ∧ (Fr [(72, 9999)] i_o r)) := by
  have fr_i_o : Fr [(72, 9999)] i_o i_o := Fr.rf
  refine T_loop (fun s => BoxC s.1 ∧ (Fr [(72, 9999)] i_o s.1) ∧ (0 ≤ s.2 ∧ s.2 ≤ 64)) (fun s => (64 - s.2).toNat) ⟨hB_i_o, fr_i_o, v0⟩ (fun s hs => ?_)
  obtain ⟨o, x4⟩ := s
  have hs : BoxC o ∧ (Fr [(72, 9999)] i_o o) ∧ (0 ≤ x4 ∧ x4 ≤ 64) := hs
  obtain ⟨hB_o, fr_o, w0⟩ := hs
  show T (l_X9_survey_17 x2 x3 o x4) _
  unfold l_X9_survey_17
  refine T_qLt ⟨by omega, by omega⟩ ⟨by decide, by decide⟩ (fun h1 => ?_) (fun h1 => ?_)
  ·
    refine T_qB (t_X3_onward o x4 x3 x2 hB_o (by omega) (by omega) (by omega)) (fun r1 hc_r1 hp2 => ?_)
    have hp2 : (-9 ≤ r1 ∧ r1 ≤ 63) ∧ (r1 = -9 ∨ 0 ≤ r1) := hp2
    have hps_hp2 := hp2
    obtain ⟨hp2_0, hp2_1⟩ := hps_hp2
    refine T_qEq ⟨by omega, by omega⟩ ⟨by decide, by decide⟩ (fun h3 => ?_) (fun h3 => ?_)
    ·
      unfold b_X9_survey_51
      refine T_some ?_
      show (BoxC o ∧ (Fr [(72, 9999)] i_o o) ∧ (0 ≤ (x4 + 1) ∧ (x4 + 1) ≤ 64)) ∧ (64 - (x4 + 1)).toNat < (64 - x4).toNat
      exact ⟨⟨hB_o, fr_o, (by omega)⟩, by omega⟩
    ·
      refine T_qIn ⟨by omega, by omega⟩ ?_
      refine T_qNm (fun m4 e_m4 => ?_)
      refine T_qB (t_X3_bit x4) (fun p5 hc_p5 hp4 => ?_)
      refine T_qIn ⟨by omega, by omega⟩ ?_
      refine T_qNm (fun o8 e_o8 => ?_)
      have hB_o8 : BoxC o8 := by rw [e_o8]; exact Box.s2 hB_o
      have fr_o8 : Fr [(72, 9999)] i_o o8 := by rw [e_o8]; exact Fr.s2 fr_o rfl
      unfold b_X9_survey_51
      refine T_some ?_
      show (BoxC o8 ∧ (Fr [(72, 9999)] i_o o8) ∧ (0 ≤ (x4 + 1) ∧ (x4 + 1) ≤ 64)) ∧ (64 - (x4 + 1)).toNat < (64 - x4).toNat
      exact ⟨⟨hB_o8, fr_o8, (by omega)⟩, by omega⟩
  ·
    refine T_some ?_
    show BoxC o ∧ (Fr [(72, 9999)] i_o o)
    exact ⟨hB_o, fr_o⟩
set_option maxHeartbeats 4000000 in
theorem tl_X9_survey_2 (x2 : Int) (i_o : OO) (i_x3 : Int) (hB_i_o : BoxC i_o) (k0 : inR x2) (v0 : 0 ≤ i_x3 ∧ i_x3 ≤ 4) : T (loopW (fun s => l_X9_survey_2 x2 s.1 s.2) (i_o, i_x3)) (fun r => BoxC r ∧ (Fr [(72, 9999)] i_o r)) := by
  have fr_i_o : Fr [(72, 9999)] i_o i_o := Fr.rf
  refine T_loop (fun s => BoxC s.1 ∧ (Fr [(72, 9999)] i_o s.1) ∧ (0 ≤ s.2 ∧ s.2 ≤ 4)) (fun s => (4 - s.2).toNat) ⟨hB_i_o, fr_i_o, v0⟩ (fun s hs => ?_)
  obtain ⟨o, x3⟩ := s
  have hs : BoxC o ∧ (Fr [(72, 9999)] i_o o) ∧ (0 ≤ x3 ∧ x3 ≤ 4) := hs
  obtain ⟨hB_o, fr_o, w0⟩ := hs
  show T (l_X9_survey_2 x2 o x3) _
  unfold l_X9_survey_2
  refine T_qLt ⟨by omega, by omega⟩ ⟨by decide, by decide⟩ (fun h5 => ?_) (fun h5 => ?_)
  ·
    refine T_qIn ⟨by omega, by omega⟩ ?_
    refine T_qNm (fun o10 e_o10 => ?_)
    have hB_o10 : BoxC o10 := by rw [e_o10]; exact Box.s2 hB_o
    have fr_o10 : Fr [(72, 9999)] i_o o10 := by rw [e_o10]; exact Fr.s2 fr_o rfl
    unfold e_X9_survey_17
    refine T_qB (tl_X9_survey_17 x2 x3 o10 0 hB_o10 (by omega) (by omega) (by omega) (by omega)) (fun r6 hc_r6 hp7 => ?_)
    obtain ⟨o_8, q_o_8⟩ : ∃ q, q = r6 := ⟨_, rfl⟩
    subst q_o_8
    have hp7 : BoxC o_8 ∧ (Fr [(72, 9999)] o10 o_8) := hp7
    have hps_hp7 := hp7
    obtain ⟨hp7_0, hp7_1⟩ := hps_hp7
    obtain ⟨hB_o_8, fc_o_8⟩ := hp7
    have fr_o_8 : Fr [(72, 9999)] i_o o_8 := Fr.tr fr_o10 fc_o_8 rfl
    show T (b_X9_survey_57 o_8 x2 x3) _
    unfold b_X9_survey_57
    refine T_some ?_
    show (BoxC o_8 ∧ (Fr [(72, 9999)] i_o o_8) ∧ (0 ≤ (x3 + 1) ∧ (x3 + 1) ≤ 4)) ∧ (4 - (x3 + 1)).toNat < (4 - x3).toNat
    exact ⟨⟨hB_o_8, fr_o_8, (by omega)⟩, by omega⟩
  ·
    refine T_some ?_
    show BoxC o ∧ (Fr [(72, 9999)] i_o o)
    exact ⟨hB_o, fr_o⟩
set_option maxHeartbeats 4000000 in
theorem t_X9_survey (o : OO) (x2 : Int) (hB_o : BoxC o) (k0 : inR x2) : T (s_X9_survey o x2) (fun v => BoxC v ∧ (Fr [(72, 9999)] o v)) := by
  have fr_o : Fr [(72, 9999)] o o := Fr.rf
  unfold s_X9_survey
  unfold e_X9_survey_2
  refine T_qB (tl_X9_survey_2 x2 o 0 hB_o (by omega) (by omega)) (fun r9 hc_r9 hp10 => ?_)
  obtain ⟨o_11, q_o_11⟩ : ∃ q, q = r9 := ⟨_, rfl⟩
  subst q_o_11
  have hp10 : BoxC o_11 ∧ (Fr [(72, 9999)] o o_11) := hp10
  have hps_hp10 := hp10
  obtain ⟨hp10_0, hp10_1⟩ := hps_hp10
  obtain ⟨hB_o_11, fc_o_11⟩ := hp10
  have fr_o_11 : Fr [(72, 9999)] o o_11 := Fr.tr fr_o fc_o_11 rfl
  show T (b_X9_survey_63 o_11) _
  unfold b_X9_survey_63
  refine T_some ?_
  show BoxC o_11 ∧ (Fr [(72, 9999)] o o_11)
  exact ⟨hB_o_11, fr_o_11⟩
set_option maxHeartbeats 4000000 in
theorem tl_X9_connects_9 (o : OO) (x2 : Int) (z3 : Int64) (i_z5 : Int64) (i_x7 : Int) (hB_o : BoxC o) (k0 : 0 ≤ x2 ∧ x2 ≤ 63) (v0 : 0 ≤ i_x7 ∧ i_x7 ≤ 64) : T (loopW (fun s => l_X9_connects_9 o x2 z3 s.1 s.2) (i_z5, i_x7)) (Sum.elim (fun r => True) (fun _ => True)) := by
  refine T_loop (fun s => (0 ≤ s.2 ∧ s.2 ≤ 64)) (fun s => (64 - s.2).toNat) v0 (fun s hs => ?_)
  obtain ⟨z5, x7⟩ := s
  have hs : (0 ≤ x7 ∧ x7 ≤ 64) := hs
  have w0 := hs
  show T (l_X9_connects_9 o x2 z3 z5 x7) _
  unfold l_X9_connects_9
  refine T_qLt ⟨by omega, by omega⟩ ⟨by decide, by decide⟩ (fun h1 => ?_) (fun h1 => ?_)
  ·
    refine T_qNm (fun m3 e_m3 => ?_)
    refine T_qNm (fun m4 e_m4 => ?_)
    refine T_qNm (fun m5 e_m5 => ?_)
    refine T_qNm (fun m6 e_m6 => ?_)
    refine T_qNm (fun m7 e_m7 => ?_)
    refine T_qNm (fun m8 e_m8 => ?_)
    refine T_qJe (fun h2 => ?_) (fun h2 => ?_)
    ·
      refine T_some ?_
      show True
      exact trivial
    ·
      refine T_qB (t_X3_has m8 x2) (fun r9 hc_r9 hp3 => ?_)
      have hp3 : (0 ≤ r9 ∧ r9 ≤ 1) := hp3
      refine T_qEq ⟨by omega, by omega⟩ ⟨by decide, by decide⟩ (fun h4 => ?_) (fun h4 => ?_)
      ·
        refine T_some ?_
        show ((0 ≤ (x7 + 1) ∧ (x7 + 1) ≤ 64)) ∧ (64 - (x7 + 1)).toNat < (64 - x7).toNat
        exact ⟨(by omega), by omega⟩
      ·
        refine T_some ?_
        show True
        exact trivial
  ·
    refine T_some ?_
    show True
    exact trivial
set_option maxHeartbeats 4000000 in
theorem t_X9_connects (o : OO) (x1 : Int) (x2 : Int) (z3 : Int64) (hB_o : BoxC o) (k0 : 0 ≤ x1 ∧ x1 ≤ 63) (k1 : 0 ≤ x2 ∧ x2 ≤ 63) : T (s_X9_connects o x1 x2 z3) (fun v => (0 ≤ v ∧ v ≤ 1)) := by
  unfold s_X9_connects
  refine T_qB (t_X3_bit x1) (fun p11 hc_p11 hp5 => ?_)
  unfold e_X9_connects_9
  refine T_qB (tl_X9_connects_9 o x2 z3 p11 0 hB_o (by omega) (by omega)) (fun r6 hc_r6 hp7 => ?_)
  rcases r6 with r6 | r6
  ·
    obtain ⟨z8_8, q_z8_8⟩ : ∃ q, q = r6 := ⟨_, rfl⟩
    subst q_z8_8
    show T (b_X9_connects_97 o x2 z8_8) _
    unfold b_X9_connects_97
    refine T_qB (t_X3_has z8_8 x2) (fun r1 hc_r1 hp9 => ?_)
    have hp9 : (0 ≤ r1 ∧ r1 ≤ 1) := hp9
    refine T_qZ (by omega) ?_
    refine T_some ?_
    show (0 ≤ r1 ∧ r1 ≤ 1)
    exact (by omega)
  ·
    show T (b_X9_connects_114 o) _
    unfold b_X9_connects_114
    refine T_qZ (Or.inl rfl) ?_
    refine T_some ?_
    show (0 ≤ 0 ∧ 0 ≤ 1)
    exact (by omega)
set_option maxHeartbeats 4000000 in
theorem tl_J7_fill_53178__75_5 (x1 : Int) (x3 : Int) (i_o : OO) (i_x2 : Int) (hB_i_o : BoxC i_o) (k0 : -2147483648 ≤ x1 ∧ x1 ≤ 2147483647) (k1 : x3 = 64) (v0 : 0 ≤ i_x2 ∧ i_x2 ≤ 64) (v1 : FP i_o 75 i_x2 x1) : T (loopW (fun s => l_J7_fill_53178__75_5 x1 x3 s.1 s.2) (i_o, i_x2)) (fun r => BoxC r ∧ (Fr [(75, 9999)] i_o r) ∧ (FP r 75 64 x1)) := by
  have fr_i_o : Fr [(75, 9999)] i_o i_o := Fr.rf
  refine T_loop (fun s => BoxC s.1 ∧ (Fr [(75, 9999)] i_o s.1) ∧ (0 ≤ s.2 ∧ s.2 ≤ 64) ∧ (FP s.1 75 s.2 x1)) (fun s => (64 - s.2).toNat) ⟨hB_i_o, fr_i_o, v0, v1⟩ (fun s hs => ?_)
  obtain ⟨o, x2⟩ := s
  have hs : BoxC o ∧ (Fr [(75, 9999)] i_o o) ∧ (0 ≤ x2 ∧ x2 ≤ 64) ∧ (FP o 75 x2 x1) := hs
  obtain ⟨hB_o, fr_o, w0, w1⟩ := hs
  show T (l_J7_fill_53178__75_5 x1 x3 o x2) _
  unfold l_J7_fill_53178__75_5
  refine T_qLt ⟨by omega, by omega⟩ ⟨by omega, by omega⟩ (fun h1 => ?_) (fun h1 => ?_)
  ·
    refine T_qIn ⟨by omega, by omega⟩ ?_
    refine T_qNm (fun o2 e_o2 => ?_)
    have hB_o2 : BoxC o2 := by rw [e_o2]; exact Box.s1 hB_o (show -2147483648 ≤ x1 ∧ x1 ≤ 2147483647 from ⟨by omega, by omega⟩)
    have fr_o2 : Fr [(75, 9999)] i_o o2 := by rw [e_o2]; exact Fr.s1 fr_o rfl
    refine T_some ?_
    show (BoxC o2 ∧ (Fr [(75, 9999)] i_o o2) ∧ (0 ≤ (x2 + 1) ∧ (x2 + 1) ≤ 64) ∧ (FP o2 75 (x2 + 1) x1)) ∧ (64 - (x2 + 1)).toNat < (64 - x2).toNat
    exact ⟨⟨hB_o2, fr_o2, (by omega), (by first | assumption | exact FP_0 | (rw [e_o2]; exact FP_s w1 (by omega)) | (have q2 := w1; rwa [show x2 = 64 by omega] at q2))⟩, by omega⟩
  ·
    refine T_some ?_
    show BoxC o ∧ (Fr [(75, 9999)] i_o o) ∧ (FP o 75 64 x1)
    exact ⟨hB_o, fr_o, (by first | assumption | exact FP_0 | (rw [e_o]; exact FP_s w1 (by omega)) | (have q2 := w1; rwa [show x2 = 64 by omega] at q2))⟩
set_option maxHeartbeats 4000000 in
theorem t_J7_fill_53178__75 (o : OO) (x1 : Int) (hB_o : BoxC o) (k0 : -2147483648 ≤ x1 ∧ x1 ≤ 2147483647) : T (s_J7_fill_53178__75 o x1) (fun v => BoxC v ∧ (Fr [(75, 9999)] o v) ∧ (FP v 75 64 x1)) := by
  have fr_o : Fr [(75, 9999)] o o := Fr.rf
  unfold s_J7_fill_53178__75
  unfold e_J7_fill_53178__75_5
  refine T_qB (tl_J7_fill_53178__75_5 x1 64 o 0 hB_o (by omega) (by omega) (by omega) (by first | assumption | exact FP_0 | (rw [e_o]; exact FP_s w1 (by omega)) | (have q2 := w1; rwa [show x2 = 64 by omega] at q2))) (fun r2 hc_r2 hp3 => ?_)
  obtain ⟨o_4, q_o_4⟩ : ∃ q, q = r2 := ⟨_, rfl⟩
  subst q_o_4
  have hp3 : BoxC o_4 ∧ (Fr [(75, 9999)] o o_4) ∧ (FP o_4 75 64 x1) := hp3
  have hps_hp3 := hp3
  obtain ⟨hp3_0, hp3_1, hp3_2⟩ := hps_hp3
  obtain ⟨hB_o_4, fc_o_4, hp3⟩ := hp3
  have fr_o_4 : Fr [(75, 9999)] o o_4 := Fr.tr fr_o fc_o_4 rfl
  show T (b_J7_fill_53178__75_20 o_4) _
  unfold b_J7_fill_53178__75_20
  refine T_some ?_
  show BoxC o_4 ∧ (Fr [(75, 9999)] o o_4) ∧ (FP o_4 75 64 x1)
  exact ⟨hB_o_4, fr_o_4, (by first | assumption | exact FP_0 | (rw [e_o_4]; exact FP_s w1 (by omega)) | (have q2 := w1; rwa [show x2 = 64 by omega] at q2))⟩
set_option maxHeartbeats 4000000 in
theorem tl_J7_fill_53178__76_5 (x1 : Int) (x3 : Int) (i_o : OO) (i_x2 : Int) (hB_i_o : BoxC i_o) (k0 : -2147483648 ≤ x1 ∧ x1 ≤ 2147483647) (k1 : x3 = 256) (v0 : 0 ≤ i_x2 ∧ i_x2 ≤ 256) (v1 : FP i_o 76 i_x2 x1) : T (loopW (fun s => l_J7_fill_53178__76_5 x1 x3 s.1 s.2) (i_o, i_x2)) (fun r => BoxC r ∧ (Fr [(76, 9999)] i_o r) ∧ (FP r 76 256 x1)) := by
  have fr_i_o : Fr [(76, 9999)] i_o i_o := Fr.rf
  refine T_loop (fun s => BoxC s.1 ∧ (Fr [(76, 9999)] i_o s.1) ∧ (0 ≤ s.2 ∧ s.2 ≤ 256) ∧ (FP s.1 76 s.2 x1)) (fun s => (256 - s.2).toNat) ⟨hB_i_o, fr_i_o, v0, v1⟩ (fun s hs => ?_)
  obtain ⟨o, x2⟩ := s
  have hs : BoxC o ∧ (Fr [(76, 9999)] i_o o) ∧ (0 ≤ x2 ∧ x2 ≤ 256) ∧ (FP o 76 x2 x1) := hs
  obtain ⟨hB_o, fr_o, w0, w1⟩ := hs
  show T (l_J7_fill_53178__76_5 x1 x3 o x2) _
  unfold l_J7_fill_53178__76_5
  refine T_qLt ⟨by omega, by omega⟩ ⟨by omega, by omega⟩ (fun h1 => ?_) (fun h1 => ?_)
  ·
    refine T_qIn ⟨by omega, by omega⟩ ?_
    refine T_qNm (fun o2 e_o2 => ?_)
    have hB_o2 : BoxC o2 := by rw [e_o2]; exact Box.s1 hB_o (show -2147483648 ≤ x1 ∧ x1 ≤ 2147483647 from ⟨by omega, by omega⟩)
    have fr_o2 : Fr [(76, 9999)] i_o o2 := by rw [e_o2]; exact Fr.s1 fr_o rfl
    refine T_some ?_
    show (BoxC o2 ∧ (Fr [(76, 9999)] i_o o2) ∧ (0 ≤ (x2 + 1) ∧ (x2 + 1) ≤ 256) ∧ (FP o2 76 (x2 + 1) x1)) ∧ (256 - (x2 + 1)).toNat < (256 - x2).toNat
    exact ⟨⟨hB_o2, fr_o2, (by omega), (by first | assumption | exact FP_0 | (rw [e_o2]; exact FP_s w1 (by omega)) | (have q2 := w1; rwa [show x2 = 256 by omega] at q2))⟩, by omega⟩
  ·
    refine T_some ?_
    show BoxC o ∧ (Fr [(76, 9999)] i_o o) ∧ (FP o 76 256 x1)
    exact ⟨hB_o, fr_o, (by first | assumption | exact FP_0 | (rw [e_o]; exact FP_s w1 (by omega)) | (have q2 := w1; rwa [show x2 = 256 by omega] at q2))⟩
set_option maxHeartbeats 4000000 in
theorem t_J7_fill_53178__76 (o : OO) (x1 : Int) (hB_o : BoxC o) (k0 : -2147483648 ≤ x1 ∧ x1 ≤ 2147483647) : T (s_J7_fill_53178__76 o x1) (fun v => BoxC v ∧ (Fr [(76, 9999)] o v) ∧ (FP v 76 256 x1)) := by
  have fr_o : Fr [(76, 9999)] o o := Fr.rf
  unfold s_J7_fill_53178__76
  unfold e_J7_fill_53178__76_5
  refine T_qB (tl_J7_fill_53178__76_5 x1 256 o 0 hB_o (by omega) (by omega) (by omega) (by first | assumption | exact FP_0 | (rw [e_o]; exact FP_s w1 (by omega)) | (have q2 := w1; rwa [show x2 = 256 by omega] at q2))) (fun r2 hc_r2 hp3 => ?_)
  obtain ⟨o_4, q_o_4⟩ : ∃ q, q = r2 := ⟨_, rfl⟩
  subst q_o_4
  have hp3 : BoxC o_4 ∧ (Fr [(76, 9999)] o o_4) ∧ (FP o_4 76 256 x1) := hp3
  have hps_hp3 := hp3
  obtain ⟨hp3_0, hp3_1, hp3_2⟩ := hps_hp3
  obtain ⟨hB_o_4, fc_o_4, hp3⟩ := hp3
  have fr_o_4 : Fr [(76, 9999)] o o_4 := Fr.tr fr_o fc_o_4 rfl
  show T (b_J7_fill_53178__76_20 o_4) _
  unfold b_J7_fill_53178__76_20
  refine T_some ?_
  show BoxC o_4 ∧ (Fr [(76, 9999)] o o_4) ∧ (FP o_4 76 256 x1)
  exact ⟨hB_o_4, fr_o_4, (by first | assumption | exact FP_0 | (rw [e_o_4]; exact FP_s w1 (by omega)) | (have q2 := w1; rwa [show x2 = 256 by omega] at q2))⟩
set_option maxHeartbeats 4000000 in
theorem tl_J7_fill_53178__73_5 (x1 : Int) (x3 : Int) (i_o : OO) (i_x2 : Int) (hB_i_o : BoxC i_o) (k0 : x1 = -9 ∨ (0 ≤ x1 ∧ x1 ≤ 127)) (k1 : x3 = 128) (v0 : 0 ≤ i_x2 ∧ i_x2 ≤ 128) (v1 : FP i_o 73 i_x2 x1) : T (loopW (fun s => l_J7_fill_53178__73_5 x1 x3 s.1 s.2) (i_o, i_x2)) (fun r => BoxC r ∧ (Fr [(73, 9999)] i_o r) ∧ (FP r 73 128 x1)) := by
  have fr_i_o : Fr [(73, 9999)] i_o i_o := Fr.rf
  refine T_loop (fun s => BoxC s.1 ∧ (Fr [(73, 9999)] i_o s.1) ∧ (0 ≤ s.2 ∧ s.2 ≤ 128) ∧ (FP s.1 73 s.2 x1)) (fun s => (128 - s.2).toNat) ⟨hB_i_o, fr_i_o, v0, v1⟩ (fun s hs => ?_)
  obtain ⟨o, x2⟩ := s
  have hs : BoxC o ∧ (Fr [(73, 9999)] i_o o) ∧ (0 ≤ x2 ∧ x2 ≤ 128) ∧ (FP o 73 x2 x1) := hs
  obtain ⟨hB_o, fr_o, w0, w1⟩ := hs
  show T (l_J7_fill_53178__73_5 x1 x3 o x2) _
  unfold l_J7_fill_53178__73_5
  refine T_qLt ⟨by omega, by omega⟩ ⟨by omega, by omega⟩ (fun h1 => ?_) (fun h1 => ?_)
  ·
    refine T_qIn ⟨by omega, by omega⟩ ?_
    refine T_qNm (fun o2 e_o2 => ?_)
    have hB_o2 : BoxC o2 := by rw [e_o2]; exact Box.s1 hB_o (show x1 = -9 ∨ (0 ≤ x1 ∧ x1 ≤ 127) from (by omega))
    have fr_o2 : Fr [(73, 9999)] i_o o2 := by rw [e_o2]; exact Fr.s1 fr_o rfl
    refine T_some ?_
    show (BoxC o2 ∧ (Fr [(73, 9999)] i_o o2) ∧ (0 ≤ (x2 + 1) ∧ (x2 + 1) ≤ 128) ∧ (FP o2 73 (x2 + 1) x1)) ∧ (128 - (x2 + 1)).toNat < (128 - x2).toNat
    exact ⟨⟨hB_o2, fr_o2, (by omega), (by first | assumption | exact FP_0 | (rw [e_o2]; exact FP_s w1 (by omega)) | (have q2 := w1; rwa [show x2 = 128 by omega] at q2))⟩, by omega⟩
  ·
    refine T_some ?_
    show BoxC o ∧ (Fr [(73, 9999)] i_o o) ∧ (FP o 73 128 x1)
    exact ⟨hB_o, fr_o, (by first | assumption | exact FP_0 | (rw [e_o]; exact FP_s w1 (by omega)) | (have q2 := w1; rwa [show x2 = 128 by omega] at q2))⟩
set_option maxHeartbeats 4000000 in
theorem t_J7_fill_53178__73 (o : OO) (x1 : Int) (hB_o : BoxC o) (k0 : x1 = -9 ∨ (0 ≤ x1 ∧ x1 ≤ 127)) : T (s_J7_fill_53178__73 o x1) (fun v => BoxC v ∧ (Fr [(73, 9999)] o v) ∧ (FP v 73 128 x1)) := by
  have fr_o : Fr [(73, 9999)] o o := Fr.rf
  unfold s_J7_fill_53178__73
  unfold e_J7_fill_53178__73_5
  refine T_qB (tl_J7_fill_53178__73_5 x1 128 o 0 hB_o (by omega) (by omega) (by omega) (by first | assumption | exact FP_0 | (rw [e_o]; exact FP_s w1 (by omega)) | (have q2 := w1; rwa [show x2 = 128 by omega] at q2))) (fun r2 hc_r2 hp3 => ?_)
  obtain ⟨o_4, q_o_4⟩ : ∃ q, q = r2 := ⟨_, rfl⟩
  subst q_o_4
  have hp3 : BoxC o_4 ∧ (Fr [(73, 9999)] o o_4) ∧ (FP o_4 73 128 x1) := hp3
  have hps_hp3 := hp3
  obtain ⟨hp3_0, hp3_1, hp3_2⟩ := hps_hp3
  obtain ⟨hB_o_4, fc_o_4, hp3⟩ := hp3
  have fr_o_4 : Fr [(73, 9999)] o o_4 := Fr.tr fr_o fc_o_4 rfl
  show T (b_J7_fill_53178__73_20 o_4) _
  unfold b_J7_fill_53178__73_20
  refine T_some ?_
  show BoxC o_4 ∧ (Fr [(73, 9999)] o o_4) ∧ (FP o_4 73 128 x1)
  exact ⟨hB_o_4, fr_o_4, (by first | assumption | exact FP_0 | (rw [e_o_4]; exact FP_s w1 (by omega)) | (have q2 := w1; rwa [show x2 = 128 by omega] at q2))⟩
theorem t_X9_visit (o : OO) (x1 : Int) (x2 : Int) (hB_o : BoxC o) (k0 : 0 ≤ x1 ∧ x1 ≤ 127) (k1 : 0 ≤ x2 ∧ x2 ≤ 127) : T (s_X9_visit o x1 x2) (fun v => BoxC v ∧ (Fr [(71, 5), (73, 9999), (74, 9999)] o v)) := by sorry
theorem t_X9_leave (o : OO) (x1 : Int) (hB_o : BoxC o) (k0 : 0 ≤ x1 ∧ x1 ≤ 63) : T (s_X9_leave o x1) (fun v => BoxC v ∧ (Fr [(71, 5), (73, 9999), (74, 9999)] o v)) := by sorry
set_option maxHeartbeats 4000000 in
theorem t_X3_back (x0 : Int) (k0 : 0 ≤ x0 ∧ x0 ≤ 3) : T (s_X3_back x0) (fun v => (v = 3 - x0)) := by
  unfold s_X3_back
  refine T_some ?_
  show ((3 - x0) = 3 - x0)
  exact (by omega)
theorem t_X9_enter (o : OO) (x1 : Int) (x2 : Int) (hB_o : BoxC o) (k0 : 0 ≤ x1 ∧ x1 ≤ 63) (k1 : 1 ≤ x2 ∧ x2 ≤ 1000) : T (s_X9_enter o x1 x2) (fun v => BoxC v ∧ (Fr [(71, 5), (73, 9999), (74, 9999)] o v)) := by sorry
theorem t_X9_search (o : OO) (x1 : Int) (x2 : Int) (z3 : Int64) (hB_o : BoxC o) (k0 : 0 ≤ x1 ∧ x1 ≤ 63) (k1 : 0 ≤ x2 ∧ x2 ≤ 63) : T (s_X9_search o x1 x2 z3) (fun v => BoxC v.2 ∧ (Fr [(71, 5), (73, 9999), (74, 9999)] o v.2) ∧ (0 ≤ v.1 ∧ v.1 ≤ 1)) := by sorry
set_option maxHeartbeats 4000000 in
theorem t_X3_wayTo (x0 : Int) (x1 : Int) (k0 : 0 ≤ x0 ∧ x0 ≤ 63) (k1 : 0 ≤ x1 ∧ x1 ≤ 63) : T (s_X3_wayTo x0 x1) (fun v => (0 ≤ v ∧ v ≤ 3)) := by
  unfold s_X3_wayTo
  refine T_qEq ⟨by omega, by omega⟩ ⟨by omega, by omega⟩ (fun h1 => ?_) (fun h1 => ?_)
  ·
    refine T_some ?_
    show (0 ≤ 0 ∧ 0 ≤ 3)
    exact (by omega)
  ·
    refine T_qEq ⟨by omega, by omega⟩ ⟨by omega, by omega⟩ (fun h2 => ?_) (fun h2 => ?_)
    ·
      refine T_some ?_
      show (0 ≤ 1 ∧ 1 ≤ 3)
      exact (by omega)
    ·
      refine T_qEq ⟨by omega, by omega⟩ ⟨by omega, by omega⟩ (fun h3 => ?_) (fun h3 => ?_)
      ·
        unfold b_X3_wayTo_31
        refine T_some ?_
        show (0 ≤ 2 ∧ 2 ≤ 3)
        exact (by omega)
      ·
        unfold b_X3_wayTo_31
        refine T_some ?_
        show (0 ≤ 3 ∧ 3 ≤ 3)
        exact (by omega)
theorem t_X9_push (o : OO) (x1 : Int) (x2 : Int) (hB_o : BoxC o) (k0 : 0 ≤ x1 ∧ x1 ≤ 63) (k1 : 0 ≤ x2 ∧ x2 ≤ 63) : T (s_X9_push o x1 x2) (fun v => BoxC v ∧ (Fr [(75, 9999), (76, 9999)] o v)) := by sorry
theorem t_X9_nearestCut (o : OO) (x1 : Int) (x2 : Int) (z3 : Int64) (hB_o : BoxC o) (k0 : 0 ≤ x1 ∧ x1 ≤ 63) (k1 : 0 ≤ x2 ∧ x2 ≤ 63) : T (s_X9_nearestCut o x1 x2 z3) (fun v => BoxC v.2 ∧ (Fr [(71, 5), (73, 9999), (74, 9999), (75, 9999), (76, 9999)] o v.2)) := by sorry
set_option maxHeartbeats 4000000 in
theorem t_X11_stop (o : OO) (x1 : Int) (x2 : Int) (hB_o : BoxC o) (k0 : inR x1) (k1 : inR x2) : T (s_X11_stop o x1 x2) (fun v => BoxC v.2 ∧ (Fr [(0, 16), (0, 17), (71, 5), (72, 9999), (73, 9999), (74, 9999), (75, 9999), (76, 9999), (77, 9999)] o v.2)) := by
  have fr_o : Fr [(0, 16), (0, 17), (71, 5), (72, 9999), (73, 9999), (74, 9999), (75, 9999), (76, 9999), (77, 9999)] o o := Fr.rf
  unfold s_X11_stop
  refine T_qB (t_X3_isCell x1 (by omega)) (fun r1 hc_r1 hp1 => ?_)
  have hp1 : ((r1 = 1 ∧ (0 ≤ x1 ∧ x1 < 64)) ∨ (r1 = 0 ∧ ¬ (0 ≤ x1 ∧ x1 < 64))) := hp1
  refine T_qEq ⟨by omega, by omega⟩ ⟨by decide, by decide⟩ (fun h2 => ?_) (fun h2 => ?_)
  ·
    unfold b_X11_stop_19
    refine T_some ?_
    show BoxC o ∧ (Fr [(0, 16), (0, 17), (71, 5), (72, 9999), (73, 9999), (74, 9999), (75, 9999), (76, 9999), (77, 9999)] o o)
    exact ⟨hB_o, fr_o⟩
  ·
    refine T_qB (t_X3_isCell x2 (by omega)) (fun r3 hc_r3 hp3 => ?_)
    have hp3 : ((r3 = 1 ∧ (0 ≤ x2 ∧ x2 < 64)) ∨ (r3 = 0 ∧ ¬ (0 ≤ x2 ∧ x2 < 64))) := hp3
    refine T_qEq ⟨by omega, by omega⟩ ⟨by decide, by decide⟩ (fun h4 => ?_) (fun h4 => ?_)
    ·
      unfold b_X11_stop_19
      refine T_some ?_
      show BoxC o ∧ (Fr [(0, 16), (0, 17), (71, 5), (72, 9999), (73, 9999), (74, 9999), (75, 9999), (76, 9999), (77, 9999)] o o)
      exact ⟨hB_o, fr_o⟩
    ·
      refine T_qEq ⟨by omega, by omega⟩ ⟨by omega, by omega⟩ (fun h5 => ?_) (fun h5 => ?_)
      ·
        unfold b_X11_stop_19
        refine T_some ?_
        show BoxC o ∧ (Fr [(0, 16), (0, 17), (71, 5), (72, 9999), (73, 9999), (74, 9999), (75, 9999), (76, 9999), (77, 9999)] o o)
        exact ⟨hB_o, fr_o⟩
      ·
        refine T_qB (t_X3_isWater o x1 hB_o (by omega)) (fun r5 hc_r5 hp6 => ?_)
        have hp6 : ((r5 = 1 ∧ (o.1 8 x1.toNat = 4)) ∨ (r5 = 0 ∧ ¬ (o.1 8 x1.toNat = 4))) := hp6
        refine T_qEq ⟨by omega, by omega⟩ ⟨by decide, by decide⟩ (fun h7 => ?_) (fun h7 => ?_)
        ·
          refine T_qB (t_X3_isWater o x2 hB_o (by omega)) (fun r7 hc_r7 hp8 => ?_)
          have hp8 : ((r7 = 1 ∧ (o.1 8 x2.toNat = 4)) ∨ (r7 = 0 ∧ ¬ (o.1 8 x2.toNat = 4))) := hp8
          refine T_qEq ⟨by omega, by omega⟩ ⟨by decide, by decide⟩ (fun h9 => ?_) (fun h9 => ?_)
          ·
            refine T_qB (t_X11_inForce o 0 hB_o (by omega)) (fun r9 hc_r9 hp10 => ?_)
            have hp10 : (0 ≤ r9 ∧ r9 ≤ 9999) := hp10
            refine T_qB (t_X9_survey o r9 hB_o (by omega)) (fun o13 hc_o13 hp11 => ?_)
            have hp11 : BoxC o13 ∧ (Fr [(72, 9999)] o o13) := hp11
            obtain ⟨hB_o13, fc_o13⟩ := hp11
            have fr_o13 : Fr [(0, 16), (0, 17), (71, 5), (72, 9999), (73, 9999), (74, 9999), (75, 9999), (76, 9999), (77, 9999)] o o13 := Fr.tr fr_o fc_o13 rfl
            refine T_qB (t_X9_connects o13 x1 x2 (0 : Int64) hB_o13 (by omega) (by omega)) (fun r14 hc_r14 hp12 => ?_)
            have hp12 : (0 ≤ r14 ∧ r14 ≤ 1) := hp12
            refine T_qEq ⟨by omega, by omega⟩ ⟨by decide, by decide⟩ (fun h13 => ?_) (fun h13 => ?_)
            ·
              refine T_qB2 (t_X11_found o13 1 hB_o13 (by omega)) (fun r31 o33 hc_r31 hp14 => ?_)
              have hp14 : BoxC o33 ∧ (Fr [(0, 17), (77, 9999)] o13 o33) ∧ (r31 = -3) := hp14
              obtain ⟨hB_o33, fc_o33, hp14⟩ := hp14
              have fr_o33 : Fr [(0, 16), (0, 17), (71, 5), (72, 9999), (73, 9999), (74, 9999), (75, 9999), (76, 9999), (77, 9999)] o o33 := Fr.tr fr_o13 fc_o33 rfl
              refine T_some ?_
              show BoxC o33 ∧ (Fr [(0, 16), (0, 17), (71, 5), (72, 9999), (73, 9999), (74, 9999), (75, 9999), (76, 9999), (77, 9999)] o o33)
              exact ⟨hB_o33, fr_o33⟩
            ·
              refine T_qB (t_X1_standingCells o13 hB_o13) (fun p16 hc_p16 hp15 => ?_)
              refine T_qB (t_X3_bit x1) (fun p18 hc_p18 hp16 => ?_)
              refine T_qB (t_X3_bit x2) (fun p20 hc_p20 hp17 => ?_)
              refine T_qNm (fun m22 e_m22 => ?_)
              refine T_qB (t_X9_connects o13 x1 x2 m22 hB_o13 (by omega) (by omega)) (fun r23 hc_r23 hp18 => ?_)
              have hp18 : (0 ≤ r23 ∧ r23 ≤ 1) := hp18
              refine T_qEq ⟨by omega, by omega⟩ ⟨by decide, by decide⟩ (fun h19 => ?_) (fun h19 => ?_)
              ·
                refine T_qB2 (t_X9_nearestCut o13 x1 x2 m22 hB_o13 (by omega) (by omega)) (fun p25 o27 hc_p25 hp20 => ?_)
                have hp20 : BoxC o27 ∧ (Fr [(71, 5), (73, 9999), (74, 9999), (75, 9999), (76, 9999)] o13 o27) := hp20
                obtain ⟨hB_o27, fc_o27⟩ := hp20
                have fr_o27 : Fr [(0, 16), (0, 17), (71, 5), (72, 9999), (73, 9999), (74, 9999), (75, 9999), (76, 9999), (77, 9999)] o o27 := Fr.tr fr_o13 fc_o27 rfl
                refine T_qNm (fun o28 e_o28 => ?_)
                have hB_o28 : BoxC o28 := by rw [e_o28]; exact Box.s2 hB_o27
                have fr_o28 : Fr [(0, 16), (0, 17), (71, 5), (72, 9999), (73, 9999), (74, 9999), (75, 9999), (76, 9999), (77, 9999)] o o28 := by rw [e_o28]; exact Fr.s2 fr_o27 rfl
                refine T_qB (t_J13_bitCount_95d88 (o28.2 0 16)) (fun r29 hc_r29 hp21 => ?_)
                have hp21 : (inR r29) := hp21
                refine T_some ?_
                show BoxC o28 ∧ (Fr [(0, 16), (0, 17), (71, 5), (72, 9999), (73, 9999), (74, 9999), (75, 9999), (76, 9999), (77, 9999)] o o28)
                exact ⟨hB_o28, fr_o28⟩
              ·
                refine T_some ?_
                show BoxC o13 ∧ (Fr [(0, 16), (0, 17), (71, 5), (72, 9999), (73, 9999), (74, 9999), (75, 9999), (76, 9999), (77, 9999)] o o13)
                exact ⟨hB_o13, fr_o13⟩
          ·
            unfold b_X11_stop_43
            refine T_some ?_
            show BoxC o ∧ (Fr [(0, 16), (0, 17), (71, 5), (72, 9999), (73, 9999), (74, 9999), (75, 9999), (76, 9999), (77, 9999)] o o)
            exact ⟨hB_o, fr_o⟩
        ·
          unfold b_X11_stop_43
          refine T_some ?_
          show BoxC o ∧ (Fr [(0, 16), (0, 17), (71, 5), (72, 9999), (73, 9999), (74, 9999), (75, 9999), (76, 9999), (77, 9999)] o o)
          exact ⟨hB_o, fr_o⟩
set_option maxHeartbeats 4000000 in
theorem tl_X1_worthBy_6 (o : OO) (x1 : Int) (x2 : Int) (i_x3 : Int) (i_x4 : Int) (hB_o : BoxC o) (k0 : inR x1) (k1 : inR x2) (v0 : 0 ≤ i_x4 ∧ i_x4 ≤ o.1 10 13) (v1 : -9 ≤ i_x3 ∧ i_x3 ≤ 100000) (v2 : i_x3 = -9 ∨ 0 ≤ i_x3) : T (loopW (fun s => l_X1_worthBy_6 o x1 x2 s.1 s.2) (i_x3, i_x4)) (fun r => (-9 ≤ r ∧ r ≤ 100000) ∧ (r = -9 ∨ 0 ≤ r)) := by
  refine T_loop (fun s => (0 ≤ s.2 ∧ s.2 ≤ o.1 10 13) ∧ (-9 ≤ s.1 ∧ s.1 ≤ 100000) ∧ (s.1 = -9 ∨ 0 ≤ s.1)) (fun s => (o.1 10 13 - s.2).toNat) ⟨v0, v1, v2⟩ (fun s hs => ?_)
  obtain ⟨x3, x4⟩ := s
  have hs : (0 ≤ x4 ∧ x4 ≤ o.1 10 13) ∧ (-9 ≤ x3 ∧ x3 ≤ 100000) ∧ (x3 = -9 ∨ 0 ≤ x3) := hs
  obtain ⟨w0, w1, w2⟩ := hs
  have g10_13_o := bC_10_13 hB_o
  show T (l_X1_worthBy_6 o x1 x2 x3 x4) _
  unfold l_X1_worthBy_6
  refine T_qLt ⟨by omega, by omega⟩ ⟨by omega, by omega⟩ (fun h1 => ?_) (fun h1 => ?_)
  ·
    refine T_qIn ⟨by omega, by omega⟩ ?_
    refine T_qNm (fun n2 e_n2 => ?_)
    have b_n2 : 0 ≤ n2 ∧ n2 ≤ 999 := by rw [e_n2]; exact bC_20 hB_o _
    refine T_qLt ⟨by omega, by omega⟩ ⟨by omega, by omega⟩ (fun h2 => ?_) (fun h2 => ?_)
    ·
      refine T_some ?_
      show (-9 ≤ x3 ∧ x3 ≤ 100000) ∧ (x3 = -9 ∨ 0 ≤ x3)
      exact ⟨(by omega), (by omega)⟩
    ·
      refine T_qIn ⟨by omega, by omega⟩ ?_
      refine T_qNm (fun n4 e_n4 => ?_)
      have b_n4 : 0 ≤ n4 ∧ n4 ≤ 31 := by rw [e_n4]; exact bC_19 hB_o _
      refine T_qEq ⟨by omega, by omega⟩ ⟨by omega, by omega⟩ (fun h3 => ?_) (fun h3 => ?_)
      ·
        refine T_qIn ⟨by omega, by omega⟩ ?_
        refine T_qNm (fun n6 e_n6 => ?_)
        have b_n6 : 0 ≤ n6 ∧ n6 ≤ 100000 := by rw [e_n6]; exact bC_21 hB_o _
        unfold b_X1_worthBy_45
        refine T_some ?_
        show ((0 ≤ (x4 + 1) ∧ (x4 + 1) ≤ o.1 10 13) ∧ (-9 ≤ n6 ∧ n6 ≤ 100000) ∧ (n6 = -9 ∨ 0 ≤ n6)) ∧ (o.1 10 13 - (x4 + 1)).toNat < (o.1 10 13 - x4).toNat
        exact ⟨⟨(by omega), (by omega), (by omega)⟩, by omega⟩
      ·
        unfold b_X1_worthBy_45
        refine T_some ?_
        show ((0 ≤ (x4 + 1) ∧ (x4 + 1) ≤ o.1 10 13) ∧ (-9 ≤ x3 ∧ x3 ≤ 100000) ∧ (x3 = -9 ∨ 0 ≤ x3)) ∧ (o.1 10 13 - (x4 + 1)).toNat < (o.1 10 13 - x4).toNat
        exact ⟨⟨(by omega), (by omega), (by omega)⟩, by omega⟩
  ·
    refine T_some ?_
    show (-9 ≤ x3 ∧ x3 ≤ 100000) ∧ (x3 = -9 ∨ 0 ≤ x3)
    exact ⟨(by omega), (by omega)⟩
set_option maxHeartbeats 4000000 in
theorem t_X1_worthBy (o : OO) (x1 : Int) (x2 : Int) (hB_o : BoxC o) (k0 : inR x1) (k1 : inR x2) : T (s_X1_worthBy o x1 x2) (fun v => (-9 ≤ v ∧ v ≤ 100000) ∧ (v = -9 ∨ 0 ≤ v)) := by
  have g10_13_o := bC_10_13 hB_o
  unfold s_X1_worthBy
  unfold e_X1_worthBy_6
  refine T_qB (tl_X1_worthBy_6 o x1 x2 (-9) 0 hB_o (by omega) (by omega) (by omega) (by omega) (by omega)) (fun r4 hc_r4 hp5 => ?_)
  obtain ⟨x3_6, q_x3_6⟩ : ∃ q, q = r4 := ⟨_, rfl⟩
  subst q_x3_6
  have hp5 : (-9 ≤ x3_6 ∧ x3_6 ≤ 100000) ∧ (x3_6 = -9 ∨ 0 ≤ x3_6) := hp5
  have hps_hp5 := hp5
  obtain ⟨hp5_0, hp5_1⟩ := hps_hp5
  show T (b_X1_worthBy_51 o x3_6) _
  unfold b_X1_worthBy_51
  refine T_some ?_
  show (-9 ≤ x3_6 ∧ x3_6 ≤ 100000) ∧ (x3_6 = -9 ∨ 0 ≤ x3_6)
  exact ⟨(by omega), (by omega)⟩
set_option maxHeartbeats 4000000 in
theorem tl_X1_firstWorth_2 (o : OO) (x1 : Int) (i_x2 : Int) (hB_o : BoxC o) (k0 : 0 ≤ x1 ∧ x1 ≤ 31) (v0 : 0 ≤ i_x2 ∧ i_x2 ≤ o.1 10 13) (v1 : NF o x1 i_x2) : T (loopW (fun s => l_X1_firstWorth_2 o x1 s) i_x2) (Sum.elim (fun r => (0 ≤ r ∧ r < o.1 10 13)) (fun _ => (NF o x1 (o.1 10 13)))) := by
  refine T_loop (fun s => (0 ≤ s ∧ s ≤ o.1 10 13) ∧ (NF o x1 s)) (fun s => (o.1 10 13 - s).toNat) ⟨v0, v1⟩ (fun s hs => ?_)
  obtain ⟨x2, q_x2⟩ : ∃ q, q = s := ⟨_, rfl⟩
  subst q_x2
  have hs : (0 ≤ x2 ∧ x2 ≤ o.1 10 13) ∧ (NF o x1 x2) := hs
  obtain ⟨w0, w1⟩ := hs
  have g10_13_o := bC_10_13 hB_o
  have g10_12_o := bC_10_12 hB_o
  show T (l_X1_firstWorth_2 o x1 x2) _
  unfold l_X1_firstWorth_2
  refine T_qLt ⟨by omega, by omega⟩ ⟨by omega, by omega⟩ (fun h1 => ?_) (fun h1 => ?_)
  ·
    refine T_qIn ⟨by omega, by omega⟩ ?_
    refine T_qNm (fun n4 e_n4 => ?_)
    have b_n4 : 0 ≤ n4 ∧ n4 ≤ 31 := by rw [e_n4]; exact bC_19 hB_o _
    refine T_qEq ⟨by omega, by omega⟩ ⟨by omega, by omega⟩ (fun h2 => ?_) (fun h2 => ?_)
    ·
      refine T_some ?_
      show (0 ≤ x2 ∧ x2 < o.1 10 13)
      exact (by omega)
    ·
      refine T_some ?_
      show ((0 ≤ (x2 + 1) ∧ (x2 + 1) ≤ o.1 10 13) ∧ (NF o x1 (x2 + 1))) ∧ (o.1 10 13 - (x2 + 1)).toNat < (o.1 10 13 - x2).toNat
      exact ⟨⟨(by omega), (by first | exact NF_0 | exact NF_s w1 (by omega) (by omega) | (intro k hk; exact w1 k (by omega)))⟩, by omega⟩
  ·
    refine T_some ?_
    show (NF o x1 (o.1 10 13))
    exact (by first | exact NF_0 | exact NF_s w1 (by omega) (by omega) | (intro k hk; exact w1 k (by omega)))
set_option maxHeartbeats 4000000 in
theorem t_X1_firstWorth (o : OO) (x1 : Int) (hB_o : BoxC o) (k0 : 0 ≤ x1) (k1 : x1 < o.1 10 12) (k2 : HTC o) : T (s_X1_firstWorth o x1) (fun v => (0 ≤ v ∧ v ≤ 100000)) := by
  have g10_13_o := bC_10_13 hB_o
  have g10_12_o := bC_10_12 hB_o
  unfold s_X1_firstWorth
  unfold e_X1_firstWorth_2
  refine T_qB (tl_X1_firstWorth_2 o x1 0 hB_o (by omega) (by omega) (by first | exact NF_0 | exact NF_s w1 (by omega) (by omega) | (intro k hk; exact w1 k (by omega)))) (fun r3 hc_r3 hp4 => ?_)
  rcases r3 with r3 | r3
  ·
    obtain ⟨x2_5, q_x2_5⟩ : ∃ q, q = r3 := ⟨_, rfl⟩
    subst q_x2_5
    have hp4 : (0 ≤ x2_5 ∧ x2_5 < o.1 10 13) := hp4
    show T (b_X1_firstWorth_20 o x2_5) _
    unfold b_X1_firstWorth_20
    refine T_qIn ⟨by omega, by omega⟩ ?_
    refine T_qNm (fun n2 e_n2 => ?_)
    have b_n2 : 0 ≤ n2 ∧ n2 ≤ 100000 := by rw [e_n2]; exact bC_21 hB_o _
    refine T_some ?_
    show (0 ≤ n2 ∧ n2 ≤ 100000)
    exact (by omega)
  ·
    have hp4 : (NF o x1 (o.1 10 13)) := hp4
    show T (b_X1_firstWorth_33 o) _
    have hw9 : NF o x1 (o.1 10 13) := hp4
    unfold b_X1_firstWorth_33
    refine T_some ?_
    show (0 ≤ (-9) ∧ (-9) ≤ 100000)
    exact (by exfalso; obtain ⟨k, q1, q2⟩ := k2 x1 k0 k1; exact hw9 k q1 q2)
set_option maxHeartbeats 4000000 in
theorem tl_X5_turnOut_5 (x1 : Int) (i_o : OO) (i_z2 : Int64) (i_x4 : Int) (hB_i_o : BoxC i_o) (k0 : inR x1) (v0 : 0 ≤ i_x4 ∧ i_x4 ≤ i_o.1 23 4) : T (loopW (fun s => l_X5_turnOut_5 x1 s.1 s.2.1 s.2.2) (i_o, i_z2, i_x4)) (fun r => BoxC r.1 ∧ (Fr [(24, 9999)] i_o r.1)) := by
  have fr_i_o : Fr [(24, 9999)] i_o i_o := Fr.rf
  refine T_loop (fun s => BoxC s.1 ∧ (Fr [(24, 9999)] i_o s.1) ∧ (0 ≤ s.2.2 ∧ s.2.2 ≤ s.1.1 23 4)) (fun s => (s.1.1 23 4 - s.2.2).toNat) ⟨hB_i_o, fr_i_o, v0⟩ (fun s hs => ?_)
  obtain ⟨o, z2, x4⟩ := s
  have hs : BoxC o ∧ (Fr [(24, 9999)] i_o o) ∧ (0 ≤ x4 ∧ x4 ≤ o.1 23 4) := hs
  obtain ⟨hB_o, fr_o, w0⟩ := hs
  have g23_4_i := bC_23_4 hB_i_o
  have g23_4_o : o.1 23 4 = i_o.1 23 4 := fr_o.1 23 4 rfl
  show T (l_X5_turnOut_5 x1 o z2 x4) _
  unfold l_X5_turnOut_5
  refine T_qLt ⟨by omega, by omega⟩ ⟨by omega, by omega⟩ (fun h1 => ?_) (fun h1 => ?_)
  ·
    refine T_qIn ⟨by omega, by omega⟩ ?_
    refine T_qNm (fun n2 e_n2 => ?_)
    have b_n2 : n2 = -9 ∨ (0 ≤ n2 ∧ n2 ≤ 31) := by rw [e_n2]; exact bC_24 hB_o _
    refine T_qEq ⟨by omega, by omega⟩ ⟨by omega, by omega⟩ (fun h2 => ?_) (fun h2 => ?_)
    ·
      refine T_qIn ⟨by omega, by omega⟩ ?_
      refine T_qNm (fun o4 e_o4 => ?_)
      have hB_o4 : BoxC o4 := by rw [e_o4]; exact Box.s1 hB_o (show (-9) = -9 ∨ (0 ≤ (-9) ∧ (-9) ≤ 31) from (by omega))
      have fr_o4 : Fr [(24, 9999)] i_o o4 := by rw [e_o4]; exact Fr.s1 fr_o rfl
      have g23_4_o4 : o4.1 23 4 = o.1 23 4 := by rw [e_o4]; rfl
      refine T_qNm (fun m5 e_m5 => ?_)
      unfold b_X5_turnOut_44
      refine T_some ?_
      show (BoxC o4 ∧ (Fr [(24, 9999)] i_o o4) ∧ (0 ≤ (x4 + 1) ∧ (x4 + 1) ≤ o4.1 23 4)) ∧ (o4.1 23 4 - (x4 + 1)).toNat < (o.1 23 4 - x4).toNat
      exact ⟨⟨hB_o4, fr_o4, (by omega)⟩, by omega⟩
    ·
      unfold b_X5_turnOut_44
      refine T_some ?_
      show (BoxC o ∧ (Fr [(24, 9999)] i_o o) ∧ (0 ≤ (x4 + 1) ∧ (x4 + 1) ≤ o.1 23 4)) ∧ (o.1 23 4 - (x4 + 1)).toNat < (o.1 23 4 - x4).toNat
      exact ⟨⟨hB_o, fr_o, (by omega)⟩, by omega⟩
  ·
    refine T_some ?_
    show BoxC o ∧ (Fr [(24, 9999)] i_o o)
    exact ⟨hB_o, fr_o⟩
set_option maxHeartbeats 4000000 in
theorem t_X5_turnOut (o : OO) (x1 : Int) (hB_o : BoxC o) (k0 : inR x1) : T (s_X5_turnOut o x1) (fun v => BoxC v.2 ∧ (Fr [(24, 9999)] o v.2)) := by
  have fr_o : Fr [(24, 9999)] o o := Fr.rf
  have g23_4_o := bC_23_4 hB_o
  unfold s_X5_turnOut
  refine T_qNm (fun m6 e_m6 => ?_)
  unfold e_X5_turnOut_5
  refine T_qB (tl_X5_turnOut_5 x1 o m6 0 hB_o (by omega) (by omega)) (fun r3 hc_r3 hp4 => ?_)
  obtain ⟨o_5, z2_6⟩ := r3
  have hp4 : BoxC o_5 ∧ (Fr [(24, 9999)] o o_5) := hp4
  have hps_hp4 := hp4
  obtain ⟨hp4_0, hp4_1⟩ := hps_hp4
  obtain ⟨hB_o_5, fc_o_5⟩ := hp4
  have fr_o_5 : Fr [(24, 9999)] o o_5 := Fr.tr fr_o fc_o_5 rfl
  have g23_4_o_5 : o_5.1 23 4 = o.1 23 4 := fc_o_5.1 23 4 rfl
  show T (b_X5_turnOut_50 o_5 z2_6) _
  unfold b_X5_turnOut_50
  refine T_some ?_
  show BoxC o_5 ∧ (Fr [(24, 9999)] o o_5)
  exact ⟨hB_o_5, fr_o_5⟩
set_option maxHeartbeats 4000000 in
theorem t_X4_setTaking (o : OO) (x1 : Int) (x2 : Int) (z3 : Int64) (hB_o : BoxC o) (k0 : 0 ≤ x1 ∧ x1 ≤ 23) (k1 : 0 ≤ x2 ∧ x2 ≤ 10000000) : T (s_X4_setTaking o x1 x2 z3) (fun v => BoxC v ∧ (Fr [(41, 9999), (45, 9999)] o v)) := by
  have fr_o : Fr [(41, 9999), (45, 9999)] o o := Fr.rf
  unfold s_X4_setTaking
  refine T_qIn ⟨by omega, by omega⟩ ?_
  refine T_qNm (fun o2 e_o2 => ?_)
  have hB_o2 : BoxC o2 := by rw [e_o2]; exact Box.s1 hB_o (show 0 ≤ x2 ∧ x2 ≤ 10000000 from ⟨by omega, by omega⟩)
  have fr_o2 : Fr [(41, 9999), (45, 9999)] o o2 := by rw [e_o2]; exact Fr.s1 fr_o rfl
  refine T_qIn ⟨by omega, by omega⟩ ?_
  refine T_qNm (fun o4 e_o4 => ?_)
  have hB_o4 : BoxC o4 := by rw [e_o4]; exact Box.s2 hB_o2
  have fr_o4 : Fr [(41, 9999), (45, 9999)] o o4 := by rw [e_o4]; exact Fr.s2 fr_o2 rfl
  refine T_some ?_
  show BoxC o4 ∧ (Fr [(41, 9999), (45, 9999)] o o4)
  exact ⟨hB_o4, fr_o4⟩
set_option maxHeartbeats 4000000 in
theorem t_X1_remove (o : OO) (x1 : Int) (hB_o : BoxC o) (k0 : 0 ≤ x1 ∧ x1 ≤ 31) : T (s_X1_remove o x1) (fun v => BoxC v ∧ (Fr [(14, 9999), (17, 9999), (18, 9999)] o v)) := by
  have fr_o : Fr [(14, 9999), (17, 9999), (18, 9999)] o o := Fr.rf
  unfold s_X1_remove
  refine T_qIn ⟨by omega, by omega⟩ ?_
  refine T_qZ (Or.inr rfl) ?_
  refine T_qNm (fun o3 e_o3 => ?_)
  have hB_o3 : BoxC o3 := by rw [e_o3]; exact Box.s1 hB_o (show 0 ≤ 1 ∧ 1 ≤ 1 from ⟨by omega, by omega⟩)
  have fr_o3 : Fr [(14, 9999), (17, 9999), (18, 9999)] o o3 := by rw [e_o3]; exact Fr.s1 fr_o rfl
  refine T_qIn ⟨by omega, by omega⟩ ?_
  refine T_qNm (fun o5 e_o5 => ?_)
  have hB_o5 : BoxC o5 := by rw [e_o5]; exact Box.s1 hB_o3 (show 0 ≤ 0 ∧ 0 ≤ 40 from ⟨by omega, by omega⟩)
  have fr_o5 : Fr [(14, 9999), (17, 9999), (18, 9999)] o o5 := by rw [e_o5]; exact Fr.s1 fr_o3 rfl
  refine T_qIn ⟨by omega, by omega⟩ ?_
  refine T_qNm (fun n7 e_n7 => ?_)
  have b_n7 : 0 ≤ n7 ∧ n7 ≤ 63 := by rw [e_n7]; exact bC_11 hB_o5 _
  refine T_qIn ⟨by omega, by omega⟩ ?_
  refine T_qNm (fun o9 e_o9 => ?_)
  have hB_o9 : BoxC o9 := by rw [e_o9]; exact Box.s1 hB_o5 (show (-9) = -9 ∨ (0 ≤ (-9) ∧ (-9) ≤ 31) from (by omega))
  have fr_o9 : Fr [(14, 9999), (17, 9999), (18, 9999)] o o9 := by rw [e_o9]; exact Fr.s1 fr_o5 rfl
  refine T_some ?_
  show BoxC o9 ∧ (Fr [(14, 9999), (17, 9999), (18, 9999)] o o9)
  exact ⟨hB_o9, fr_o9⟩
set_option maxHeartbeats 4000000 in
theorem t_X11_take (o : OO) (x1 : Int) (x2 : Int) (hB_o : BoxC o) (k0 : inR x1) (k1 : inR x2) (k2 : HTC o) : T (s_X11_take o x1 x2) (fun v => BoxC v.2 ∧ (Fr [(0, 14), (0, 17), (14, 9999), (17, 9999), (18, 9999), (24, 9999), (32, 13), (33, 9999), (34, 9999), (35, 9999), (40, 9999), (41, 9999), (45, 9999), (77, 9999)] o v.2)) := by
  have fr_o : Fr [(0, 14), (0, 17), (14, 9999), (17, 9999), (18, 9999), (24, 9999), (32, 13), (33, 9999), (34, 9999), (35, 9999), (40, 9999), (41, 9999), (45, 9999), (77, 9999)] o o := Fr.rf
  have g0_13_o := bC_0_13 hB_o
  have g10_12_o := bC_10_12 hB_o
  have g32_13_o := bC_32_13 hB_o
  unfold s_X11_take
  refine T_qB (t_X1_exists o x1 hB_o (by omega)) (fun r20 hc_r20 hp1 => ?_)
  have hp1 : ((r20 = 1 ∧ (0 ≤ x1 ∧ x1 < o.1 10 12)) ∨ (r20 = 0 ∧ ¬ (0 ≤ x1 ∧ x1 < o.1 10 12))) := hp1
  refine T_qEq ⟨by omega, by omega⟩ ⟨by decide, by decide⟩ (fun h2 => ?_) (fun h2 => ?_)
  ·
    unfold b_X11_take_22
    refine T_some ?_
    show BoxC o ∧ (Fr [(0, 14), (0, 17), (14, 9999), (17, 9999), (18, 9999), (24, 9999), (32, 13), (33, 9999), (34, 9999), (35, 9999), (40, 9999), (41, 9999), (45, 9999), (77, 9999)] o o)
    exact ⟨hB_o, fr_o⟩
  ·
    refine T_qB (t_X4_exists o x2 hB_o (by omega)) (fun r22 hc_r22 hp3 => ?_)
    have hp3 : ((r22 = 1 ∧ (0 ≤ x2 ∧ x2 < o.1 32 13)) ∨ (r22 = 0 ∧ ¬ (0 ≤ x2 ∧ x2 < o.1 32 13))) := hp3
    refine T_qEq ⟨by omega, by omega⟩ ⟨by decide, by decide⟩ (fun h4 => ?_) (fun h4 => ?_)
    ·
      unfold b_X11_take_22
      refine T_some ?_
      show BoxC o ∧ (Fr [(0, 14), (0, 17), (14, 9999), (17, 9999), (18, 9999), (24, 9999), (32, 13), (33, 9999), (34, 9999), (35, 9999), (40, 9999), (41, 9999), (45, 9999), (77, 9999)] o o)
      exact ⟨hB_o, fr_o⟩
    ·
      refine T_qB (t_X4_number o hB_o) (fun r24 hc_r24 hp5 => ?_)
      have hp5 : (r24 = o.1 32 13) := hp5
      refine T_qLt ⟨by omega, by omega⟩ ⟨by decide, by decide⟩ (fun h6 => ?_) (fun h6 => ?_)
      ·
        refine T_qB (t_X4_isOf o x2 1 hB_o (by omega) (by omega)) (fun r26 hc_r26 hp7 => ?_)
        have hp7 : (0 ≤ r26 ∧ r26 ≤ 1) := hp7
        refine T_qEq ⟨by omega, by omega⟩ ⟨by decide, by decide⟩ (fun h8 => ?_) (fun h8 => ?_)
        ·
          refine T_qB2 (t_X11_found o 3 hB_o (by omega)) (fun r42 o44 hc_r42 hp9 => ?_)
          have hp9 : BoxC o44 ∧ (Fr [(0, 17), (77, 9999)] o o44) ∧ (r42 = -3) := hp9
          obtain ⟨hB_o44, fc_o44, hp9⟩ := hp9
          have fr_o44 : Fr [(0, 14), (0, 17), (14, 9999), (17, 9999), (18, 9999), (24, 9999), (32, 13), (33, 9999), (34, 9999), (35, 9999), (40, 9999), (41, 9999), (45, 9999), (77, 9999)] o o44 := Fr.tr fr_o fc_o44 rfl
          have g0_13_o44 : o44.1 0 13 = o.1 0 13 := fc_o44.1 0 13 rfl
          have g10_12_o44 : o44.1 10 12 = o.1 10 12 := fc_o44.1 10 12 rfl
          have g32_13_o44 : o44.1 32 13 = o.1 32 13 := fc_o44.1 32 13 rfl
          refine T_some ?_
          show BoxC o44 ∧ (Fr [(0, 14), (0, 17), (14, 9999), (17, 9999), (18, 9999), (24, 9999), (32, 13), (33, 9999), (34, 9999), (35, 9999), (40, 9999), (41, 9999), (45, 9999), (77, 9999)] o o44)
          exact ⟨hB_o44, fr_o44⟩
        ·
          refine T_qB (t_X4_shownOn o x2 hB_o (by omega)) (fun r28 hc_r28 hp10 => ?_)
          have hp10 : (-9 ≤ r28 ∧ r28 ≤ 999) := hp10
          refine T_qEq ⟨by omega, by omega⟩ ⟨by decide, by decide⟩ (fun h11 => ?_) (fun h11 => ?_)
          ·
            unfold b_X11_take_105
            refine T_some ?_
            show BoxC o ∧ (Fr [(0, 14), (0, 17), (14, 9999), (17, 9999), (18, 9999), (24, 9999), (32, 13), (33, 9999), (34, 9999), (35, 9999), (40, 9999), (41, 9999), (45, 9999), (77, 9999)] o o)
            exact ⟨hB_o, fr_o⟩
          ·
            refine T_qB (t_X1_isTaken o x1 hB_o (by omega)) (fun r30 hc_r30 hp12 => ?_)
            have hp12 : (0 ≤ r30 ∧ r30 ≤ 1) ∧ (r30 = o.1 17 x1.toNat) := hp12
            have hps_hp12 := hp12
            obtain ⟨hp12_0, hp12_1⟩ := hps_hp12
            refine T_qEq ⟨by omega, by omega⟩ ⟨by decide, by decide⟩ (fun h13 => ?_) (fun h13 => ?_)
            ·
              refine T_qB (t_X4_cells o x2 hB_o (by omega)) (fun p32 hc_p32 hp14 => ?_)
              refine T_qB (t_X1_cellOfOne o x1 hB_o (by omega)) (fun r34 hc_r34 hp15 => ?_)
              have hp15 : (0 ≤ r34 ∧ r34 ≤ 63) ∧ (r34 = o.1 11 x1.toNat) := hp15
              have hps_hp15 := hp15
              obtain ⟨hp15_0, hp15_1⟩ := hps_hp15
              refine T_qB (t_X3_has p32 r34) (fun r36 hc_r36 hp16 => ?_)
              have hp16 : (0 ≤ r36 ∧ r36 ≤ 1) := hp16
              refine T_qEq ⟨by omega, by omega⟩ ⟨by decide, by decide⟩ (fun h17 => ?_) (fun h17 => ?_)
              ·
                unfold b_X11_take_105
                refine T_some ?_
                show BoxC o ∧ (Fr [(0, 14), (0, 17), (14, 9999), (17, 9999), (18, 9999), (24, 9999), (32, 13), (33, 9999), (34, 9999), (35, 9999), (40, 9999), (41, 9999), (45, 9999), (77, 9999)] o o)
                exact ⟨hB_o, fr_o⟩
              ·
                refine T_qB (t_X1_worthBy o x1 (r28 - 1) hB_o (by omega) (by omega)) (fun r38 hc_r38 hp18 => ?_)
                have hp18 : (-9 ≤ r38 ∧ r38 ≤ 100000) ∧ (r38 = -9 ∨ 0 ≤ r38) := hp18
                have hps_hp18 := hp18
                obtain ⟨hp18_0, hp18_1⟩ := hps_hp18
                refine T_qEq ⟨by omega, by omega⟩ ⟨by decide, by decide⟩ (fun h19 => ?_) (fun h19 => ?_)
                ·
                  refine T_qB (t_X1_firstWorth o x1 hB_o (by omega) (by omega) k2) (fun r40 hc_r40 hp20 => ?_)
                  have hp20 : (0 ≤ r40 ∧ r40 ≤ 100000) := hp20
                  unfold b_X11_take_138
                  refine T_qB (t_X11_inForce o 2 hB_o (by omega)) (fun r1 hc_r1 hp21 => ?_)
                  have hp21 : (0 ≤ r1 ∧ r1 ≤ 9999) := hp21
                  have hm9 := mul_rng (a := r40) (b := r1) (A := 100000) (B := 9999) (by omega) (by omega) (by omega) (by omega)
                  refine T_qDv ⟨⟨by omega, by omega⟩, ⟨by decide, by decide⟩, by decide⟩ ?_
                  have jd22 : jq (r40 * r1) 100 = (r40 * r1) / 100 := jq_nn (by omega)
                  refine T_qNm (fun n4 e_n4 => ?_)
                  refine T_qB2 (t_X4_add o 3 (o.1 0 13) x2 hB_o (by omega) (by omega) (by omega) (by omega)) (fun r5 o7 hc_r5 hp23 => ?_)
                  have hp23 : BoxC o7 ∧ (Fr [(32, 13), (33, 9999), (34, 9999), (35, 9999), (40, 9999)] o o7) ∧ (r5 = o.1 32 13) ∧ (o7.1 32 13 = o.1 32 13 + 1) := hp23
                  obtain ⟨hB_o7, fc_o7, hp23⟩ := hp23
                  have fr_o7 : Fr [(0, 14), (0, 17), (14, 9999), (17, 9999), (18, 9999), (24, 9999), (32, 13), (33, 9999), (34, 9999), (35, 9999), (40, 9999), (41, 9999), (45, 9999), (77, 9999)] o o7 := Fr.tr fr_o fc_o7 rfl
                  have g0_13_o7 : o7.1 0 13 = o.1 0 13 := fc_o7.1 0 13 rfl
                  have g10_12_o7 : o7.1 10 12 = o.1 10 12 := fc_o7.1 10 12 rfl
                  have g32_13_o7 := bC_32_13 hB_o7
                  refine T_qB2 (t_X5_turnOut o7 x1 hB_o7 (by omega)) (fun p8 o10 hc_p8 hp24 => ?_)
                  have hp24 : BoxC o10 ∧ (Fr [(24, 9999)] o7 o10) := hp24
                  obtain ⟨hB_o10, fc_o10⟩ := hp24
                  have fr_o10 : Fr [(0, 14), (0, 17), (14, 9999), (17, 9999), (18, 9999), (24, 9999), (32, 13), (33, 9999), (34, 9999), (35, 9999), (40, 9999), (41, 9999), (45, 9999), (77, 9999)] o o10 := Fr.tr fr_o7 fc_o10 rfl
                  have g0_13_o10 : o10.1 0 13 = o7.1 0 13 := fc_o10.1 0 13 rfl
                  have g10_12_o10 : o10.1 10 12 = o7.1 10 12 := fc_o10.1 10 12 rfl
                  have g32_13_o10 : o10.1 32 13 = o7.1 32 13 := fc_o10.1 32 13 rfl
                  refine T_qB (t_X4_setTaking o10 r5 n4 p8 hB_o10 (by omega) (by omega)) (fun o13 hc_o13 hp25 => ?_)
                  have hp25 : BoxC o13 ∧ (Fr [(41, 9999), (45, 9999)] o10 o13) := hp25
                  obtain ⟨hB_o13, fc_o13⟩ := hp25
                  have fr_o13 : Fr [(0, 14), (0, 17), (14, 9999), (17, 9999), (18, 9999), (24, 9999), (32, 13), (33, 9999), (34, 9999), (35, 9999), (40, 9999), (41, 9999), (45, 9999), (77, 9999)] o o13 := Fr.tr fr_o10 fc_o13 rfl
                  have g0_13_o13 : o13.1 0 13 = o10.1 0 13 := fc_o13.1 0 13 rfl
                  have g10_12_o13 : o13.1 10 12 = o10.1 10 12 := fc_o13.1 10 12 rfl
                  have g32_13_o13 : o13.1 32 13 = o10.1 32 13 := fc_o13.1 32 13 rfl
                  refine T_qB (t_X1_remove o13 x1 hB_o13 (by omega)) (fun o16 hc_o16 hp26 => ?_)
                  have hp26 : BoxC o16 ∧ (Fr [(14, 9999), (17, 9999), (18, 9999)] o13 o16) := hp26
                  obtain ⟨hB_o16, fc_o16⟩ := hp26
                  have fr_o16 : Fr [(0, 14), (0, 17), (14, 9999), (17, 9999), (18, 9999), (24, 9999), (32, 13), (33, 9999), (34, 9999), (35, 9999), (40, 9999), (41, 9999), (45, 9999), (77, 9999)] o o16 := Fr.tr fr_o13 fc_o16 rfl
                  have g0_13_o16 : o16.1 0 13 = o13.1 0 13 := fc_o16.1 0 13 rfl
                  have g10_12_o16 : o16.1 10 12 = o13.1 10 12 := fc_o16.1 10 12 rfl
                  have g32_13_o16 : o16.1 32 13 = o13.1 32 13 := fc_o16.1 32 13 rfl
                  refine T_qB2 (t_X11_tell o16 n4 hB_o16) (fun r17 o19 hc_r17 hp27 => ?_)
                  have hp27 : BoxC o19 ∧ (Fr [(0, 14)] o16 o19) ∧ (r17 = 1) := hp27
                  obtain ⟨hB_o19, fc_o19, hp27⟩ := hp27
                  have fr_o19 : Fr [(0, 14), (0, 17), (14, 9999), (17, 9999), (18, 9999), (24, 9999), (32, 13), (33, 9999), (34, 9999), (35, 9999), (40, 9999), (41, 9999), (45, 9999), (77, 9999)] o o19 := Fr.tr fr_o16 fc_o19 rfl
                  have g0_13_o19 : o19.1 0 13 = o16.1 0 13 := fc_o19.1 0 13 rfl
                  have g10_12_o19 : o19.1 10 12 = o16.1 10 12 := fc_o19.1 10 12 rfl
                  have g32_13_o19 : o19.1 32 13 = o16.1 32 13 := fc_o19.1 32 13 rfl
                  refine T_some ?_
                  show BoxC o19 ∧ (Fr [(0, 14), (0, 17), (14, 9999), (17, 9999), (18, 9999), (24, 9999), (32, 13), (33, 9999), (34, 9999), (35, 9999), (40, 9999), (41, 9999), (45, 9999), (77, 9999)] o o19)
                  exact ⟨hB_o19, fr_o19⟩
                ·
                  unfold b_X11_take_138
                  refine T_qB (t_X11_inForce o 2 hB_o (by omega)) (fun r1 hc_r1 hp28 => ?_)
                  have hp28 : (0 ≤ r1 ∧ r1 ≤ 9999) := hp28
                  have hm9 := mul_rng (a := r38) (b := r1) (A := 100000) (B := 9999) (by omega) (by omega) (by omega) (by omega)
                  refine T_qDv ⟨⟨by omega, by omega⟩, ⟨by decide, by decide⟩, by decide⟩ ?_
                  have jd29 : jq (r38 * r1) 100 = (r38 * r1) / 100 := jq_nn (by omega)
                  refine T_qNm (fun n4 e_n4 => ?_)
                  refine T_qB2 (t_X4_add o 3 (o.1 0 13) x2 hB_o (by omega) (by omega) (by omega) (by omega)) (fun r5 o7 hc_r5 hp30 => ?_)
                  have hp30 : BoxC o7 ∧ (Fr [(32, 13), (33, 9999), (34, 9999), (35, 9999), (40, 9999)] o o7) ∧ (r5 = o.1 32 13) ∧ (o7.1 32 13 = o.1 32 13 + 1) := hp30
                  obtain ⟨hB_o7, fc_o7, hp30⟩ := hp30
                  have fr_o7 : Fr [(0, 14), (0, 17), (14, 9999), (17, 9999), (18, 9999), (24, 9999), (32, 13), (33, 9999), (34, 9999), (35, 9999), (40, 9999), (41, 9999), (45, 9999), (77, 9999)] o o7 := Fr.tr fr_o fc_o7 rfl
                  have g0_13_o7 : o7.1 0 13 = o.1 0 13 := fc_o7.1 0 13 rfl
                  have g10_12_o7 : o7.1 10 12 = o.1 10 12 := fc_o7.1 10 12 rfl
                  have g32_13_o7 := bC_32_13 hB_o7
                  refine T_qB2 (t_X5_turnOut o7 x1 hB_o7 (by omega)) (fun p8 o10 hc_p8 hp31 => ?_)
                  have hp31 : BoxC o10 ∧ (Fr [(24, 9999)] o7 o10) := hp31
                  obtain ⟨hB_o10, fc_o10⟩ := hp31
                  have fr_o10 : Fr [(0, 14), (0, 17), (14, 9999), (17, 9999), (18, 9999), (24, 9999), (32, 13), (33, 9999), (34, 9999), (35, 9999), (40, 9999), (41, 9999), (45, 9999), (77, 9999)] o o10 := Fr.tr fr_o7 fc_o10 rfl
                  have g0_13_o10 : o10.1 0 13 = o7.1 0 13 := fc_o10.1 0 13 rfl
                  have g10_12_o10 : o10.1 10 12 = o7.1 10 12 := fc_o10.1 10 12 rfl
                  have g32_13_o10 : o10.1 32 13 = o7.1 32 13 := fc_o10.1 32 13 rfl
                  refine T_qB (t_X4_setTaking o10 r5 n4 p8 hB_o10 (by omega) (by omega)) (fun o13 hc_o13 hp32 => ?_)
                  have hp32 : BoxC o13 ∧ (Fr [(41, 9999), (45, 9999)] o10 o13) := hp32
                  obtain ⟨hB_o13, fc_o13⟩ := hp32
                  have fr_o13 : Fr [(0, 14), (0, 17), (14, 9999), (17, 9999), (18, 9999), (24, 9999), (32, 13), (33, 9999), (34, 9999), (35, 9999), (40, 9999), (41, 9999), (45, 9999), (77, 9999)] o o13 := Fr.tr fr_o10 fc_o13 rfl
                  have g0_13_o13 : o13.1 0 13 = o10.1 0 13 := fc_o13.1 0 13 rfl
                  have g10_12_o13 : o13.1 10 12 = o10.1 10 12 := fc_o13.1 10 12 rfl
                  have g32_13_o13 : o13.1 32 13 = o10.1 32 13 := fc_o13.1 32 13 rfl
                  refine T_qB (t_X1_remove o13 x1 hB_o13 (by omega)) (fun o16 hc_o16 hp33 => ?_)
                  have hp33 : BoxC o16 ∧ (Fr [(14, 9999), (17, 9999), (18, 9999)] o13 o16) := hp33
                  obtain ⟨hB_o16, fc_o16⟩ := hp33
                  have fr_o16 : Fr [(0, 14), (0, 17), (14, 9999), (17, 9999), (18, 9999), (24, 9999), (32, 13), (33, 9999), (34, 9999), (35, 9999), (40, 9999), (41, 9999), (45, 9999), (77, 9999)] o o16 := Fr.tr fr_o13 fc_o16 rfl
                  have g0_13_o16 : o16.1 0 13 = o13.1 0 13 := fc_o16.1 0 13 rfl
                  have g10_12_o16 : o16.1 10 12 = o13.1 10 12 := fc_o16.1 10 12 rfl
                  have g32_13_o16 : o16.1 32 13 = o13.1 32 13 := fc_o16.1 32 13 rfl
                  refine T_qB2 (t_X11_tell o16 n4 hB_o16) (fun r17 o19 hc_r17 hp34 => ?_)
                  have hp34 : BoxC o19 ∧ (Fr [(0, 14)] o16 o19) ∧ (r17 = 1) := hp34
                  obtain ⟨hB_o19, fc_o19, hp34⟩ := hp34
                  have fr_o19 : Fr [(0, 14), (0, 17), (14, 9999), (17, 9999), (18, 9999), (24, 9999), (32, 13), (33, 9999), (34, 9999), (35, 9999), (40, 9999), (41, 9999), (45, 9999), (77, 9999)] o o19 := Fr.tr fr_o16 fc_o19 rfl
                  have g0_13_o19 : o19.1 0 13 = o16.1 0 13 := fc_o19.1 0 13 rfl
                  have g10_12_o19 : o19.1 10 12 = o16.1 10 12 := fc_o19.1 10 12 rfl
                  have g32_13_o19 : o19.1 32 13 = o16.1 32 13 := fc_o19.1 32 13 rfl
                  refine T_some ?_
                  show BoxC o19 ∧ (Fr [(0, 14), (0, 17), (14, 9999), (17, 9999), (18, 9999), (24, 9999), (32, 13), (33, 9999), (34, 9999), (35, 9999), (40, 9999), (41, 9999), (45, 9999), (77, 9999)] o o19)
                  exact ⟨hB_o19, fr_o19⟩
            ·
              unfold b_X11_take_105
              refine T_some ?_
              show BoxC o ∧ (Fr [(0, 14), (0, 17), (14, 9999), (17, 9999), (18, 9999), (24, 9999), (32, 13), (33, 9999), (34, 9999), (35, 9999), (40, 9999), (41, 9999), (45, 9999), (77, 9999)] o o)
              exact ⟨hB_o, fr_o⟩
      ·
        refine T_some ?_
        show BoxC o ∧ (Fr [(0, 14), (0, 17), (14, 9999), (17, 9999), (18, 9999), (24, 9999), (32, 13), (33, 9999), (34, 9999), (35, 9999), (40, 9999), (41, 9999), (45, 9999), (77, 9999)] o o)
        exact ⟨hB_o, fr_o⟩
set_option maxHeartbeats 4000000 in
theorem t_X8_remove (o : OO) (x1 : Int) (hB_o : BoxC o) (k0 : 0 ≤ x1 ∧ x1 ≤ 5) : T (s_X8_remove o x1) (fun v => BoxC v ∧ (Fr [(2, 9999)] o v)) := by
  have fr_o : Fr [(2, 9999)] o o := Fr.rf
  unfold s_X8_remove
  refine T_qIn ⟨by omega, by omega⟩ ?_
  refine T_qNm (fun o2 e_o2 => ?_)
  have hB_o2 : BoxC o2 := by rw [e_o2]; exact Box.s1 hB_o (show -1 ≤ (-1) ∧ (-1) ≤ 40 from ⟨by omega, by omega⟩)
  have fr_o2 : Fr [(2, 9999)] o o2 := by rw [e_o2]; exact Fr.s1 fr_o rfl
  refine T_some ?_
  show BoxC o2 ∧ (Fr [(2, 9999)] o o2)
  exact ⟨hB_o2, fr_o2⟩
set_option maxHeartbeats 4000000 in
theorem t_X11_tear (o : OO) (x1 : Int) (hB_o : BoxC o) (k0 : inR x1) : T (s_X11_tear o x1) (fun v => BoxC v.2 ∧ (Fr [(0, 17), (2, 9999), (77, 9999)] o v.2)) := by
  have fr_o : Fr [(0, 17), (2, 9999), (77, 9999)] o o := Fr.rf
  unfold s_X11_tear
  refine T_qB (t_X8_exists o x1 hB_o (by omega)) (fun r1 hc_r1 hp1 => ?_)
  have hp1 : ((r1 = 1 ∧ (0 ≤ x1 ∧ x1 < 6)) ∨ (r1 = 0 ∧ ¬ (0 ≤ x1 ∧ x1 < 6))) := hp1
  refine T_qEq ⟨by omega, by omega⟩ ⟨by decide, by decide⟩ (fun h2 => ?_) (fun h2 => ?_)
  ·
    refine T_some ?_
    show BoxC o ∧ (Fr [(0, 17), (2, 9999), (77, 9999)] o o)
    exact ⟨hB_o, fr_o⟩
  ·
    refine T_qB (t_X8_isThere o x1 hB_o (by omega)) (fun r3 hc_r3 hp3 => ?_)
    have hp3 : ((r3 = 1 ∧ (¬ o.1 2 x1.toNat = -1)) ∨ (r3 = 0 ∧ ¬ (¬ o.1 2 x1.toNat = -1))) := hp3
    refine T_qEq ⟨by omega, by omega⟩ ⟨by decide, by decide⟩ (fun h4 => ?_) (fun h4 => ?_)
    ·
      refine T_qB2 (t_X11_found o 1 hB_o (by omega)) (fun r8 o10 hc_r8 hp5 => ?_)
      have hp5 : BoxC o10 ∧ (Fr [(0, 17), (77, 9999)] o o10) ∧ (r8 = -3) := hp5
      obtain ⟨hB_o10, fc_o10, hp5⟩ := hp5
      have fr_o10 : Fr [(0, 17), (2, 9999), (77, 9999)] o o10 := Fr.tr fr_o fc_o10 rfl
      refine T_some ?_
      show BoxC o10 ∧ (Fr [(0, 17), (2, 9999), (77, 9999)] o o10)
      exact ⟨hB_o10, fr_o10⟩
    ·
      refine T_qB (t_X8_remove o x1 hB_o (by omega)) (fun o7 hc_o7 hp6 => ?_)
      have hp6 : BoxC o7 ∧ (Fr [(2, 9999)] o o7) := hp6
      obtain ⟨hB_o7, fc_o7⟩ := hp6
      have fr_o7 : Fr [(0, 17), (2, 9999), (77, 9999)] o o7 := Fr.tr fr_o fc_o7 rfl
      refine T_some ?_
      show BoxC o7 ∧ (Fr [(0, 17), (2, 9999), (77, 9999)] o o7)
      exact ⟨hB_o7, fr_o7⟩
set_option maxHeartbeats 4000000 in
theorem tl_J7_fill_fda19__6_10 (x2 : Int) (x3 : Int) (i_o : OO) (i_x4 : Int) (hB_i_o : BoxC i_o) (k0 : 0 ≤ x2 ∧ x2 ≤ 240) (k1 : -2147483648 ≤ x3 ∧ x3 ≤ 2147483647) (v0 : 0 ≤ i_x4 ∧ i_x4 ≤ 240) : T (loopW (fun s => l_J7_fill_fda19__6_10 x2 x3 s.1 s.2) (i_o, i_x4)) (fun r => BoxC r ∧ (Fr [(6, 9999)] i_o r)) := by
  have fr_i_o : Fr [(6, 9999)] i_o i_o := Fr.rf
  refine T_loop (fun s => BoxC s.1 ∧ (Fr [(6, 9999)] i_o s.1) ∧ (0 ≤ s.2 ∧ s.2 ≤ 240)) (fun s => (240 - s.2).toNat) ⟨hB_i_o, fr_i_o, v0⟩ (fun s hs => ?_)
  obtain ⟨o, x4⟩ := s
  have hs : BoxC o ∧ (Fr [(6, 9999)] i_o o) ∧ (0 ≤ x4 ∧ x4 ≤ 240) := hs
  obtain ⟨hB_o, fr_o, w0⟩ := hs
  show T (l_J7_fill_fda19__6_10 x2 x3 o x4) _
  unfold l_J7_fill_fda19__6_10
  refine T_qLt ⟨by omega, by omega⟩ ⟨by omega, by omega⟩ (fun h1 => ?_) (fun h1 => ?_)
  ·
    refine T_qIn ⟨by omega, by omega⟩ ?_
    refine T_qNm (fun o2 e_o2 => ?_)
    have hB_o2 : BoxC o2 := by rw [e_o2]; exact Box.s1 hB_o (show -2147483648 ≤ x3 ∧ x3 ≤ 2147483647 from ⟨by omega, by omega⟩)
    have fr_o2 : Fr [(6, 9999)] i_o o2 := by rw [e_o2]; exact Fr.s1 fr_o rfl
    refine T_some ?_
    show (BoxC o2 ∧ (Fr [(6, 9999)] i_o o2) ∧ (0 ≤ (x4 + 1) ∧ (x4 + 1) ≤ 240)) ∧ (240 - (x4 + 1)).toNat < (240 - x4).toNat
    exact ⟨⟨hB_o2, fr_o2, (by omega)⟩, by omega⟩
  ·
    refine T_some ?_
    show BoxC o ∧ (Fr [(6, 9999)] i_o o)
    exact ⟨hB_o, fr_o⟩
set_option maxHeartbeats 4000000 in
theorem t_J7_fill_fda19__6 (o : OO) (x1 : Int) (x2 : Int) (x3 : Int) (hB_o : BoxC o) (k0 : 0 ≤ x1 ∧ x1 ≤ x2) (k1 : x2 ≤ 240) (k2 : -2147483648 ≤ x3 ∧ x3 ≤ 2147483647) : T (s_J7_fill_fda19__6 o x1 x2 x3) (fun v => BoxC v ∧ (Fr [(6, 9999)] o v)) := by
  have fr_o : Fr [(6, 9999)] o o := Fr.rf
  unfold s_J7_fill_fda19__6
  refine T_qB (t_J7_rangeCheck_23922 240 x1 x2 (by omega) (by omega) (by omega)) (fun u2 hc_u2 hp3 => ?_)
  unfold e_J7_fill_fda19__6_10
  refine T_qB (tl_J7_fill_fda19__6_10 x2 x3 o x1 hB_o (by omega) (by omega) (by omega)) (fun r4 hc_r4 hp5 => ?_)
  obtain ⟨o_6, q_o_6⟩ : ∃ q, q = r4 := ⟨_, rfl⟩
  subst q_o_6
  have hp5 : BoxC o_6 ∧ (Fr [(6, 9999)] o o_6) := hp5
  have hps_hp5 := hp5
  obtain ⟨hp5_0, hp5_1⟩ := hps_hp5
  obtain ⟨hB_o_6, fc_o_6⟩ := hp5
  have fr_o_6 : Fr [(6, 9999)] o o_6 := Fr.tr fr_o fc_o_6 rfl
  show T (b_J7_fill_fda19__6_27 o_6) _
  unfold b_J7_fill_fda19__6_27
  refine T_some ?_
  show BoxC o_6 ∧ (Fr [(6, 9999)] o o_6)
  exact ⟨hB_o_6, fr_o_6⟩
set_option maxHeartbeats 4000000 in
theorem t_X8_layOut__4 (o : OO) (x1 : Int) (x2 : Int) (hB_o : BoxC o) (k0 : 0 ≤ x1 ∧ x1 ≤ 5) (k1 : 0 ≤ x2 ∧ x2 ≤ 40) : T (s_X8_layOut__4 o x1 x2) (fun v => BoxC v ∧ (Fr [(5, 9999), (6, 9999)] o v)) := by
  have fr_o : Fr [(5, 9999), (6, 9999)] o o := Fr.rf
  have g4_1_o := bC_4_1 hB_o
  unfold s_X8_layOut__4
  refine T_qIn ⟨by omega, by omega⟩ ?_
  refine T_qNm (fun o2 e_o2 => ?_)
  have hB_o2 : BoxC o2 := by rw [e_o2]; exact Box.s1 hB_o (show -1 ≤ x2 ∧ x2 ≤ 40 from ⟨by omega, by omega⟩)
  have fr_o2 : Fr [(5, 9999), (6, 9999)] o o2 := by rw [e_o2]; exact Fr.s1 fr_o rfl
  have g4_1_o2 : o2.1 4 1 = o.1 4 1 := by rw [e_o2]; rfl
  refine T_qB (t_J7_fill_fda19__6 o2 (x1 * 40) ((x1 * 40) + x2) (o2.1 4 1) hB_o2 (by omega) (by omega) (by omega)) (fun o5 hc_o5 hp1 => ?_)
  have hp1 : BoxC o5 ∧ (Fr [(6, 9999)] o2 o5) := hp1
  obtain ⟨hB_o5, fc_o5⟩ := hp1
  have fr_o5 : Fr [(5, 9999), (6, 9999)] o o5 := Fr.tr fr_o2 fc_o5 rfl
  have g4_1_o5 : o5.1 4 1 = o2.1 4 1 := fc_o5.1 4 1 rfl
  refine T_some ?_
  show BoxC o5 ∧ (Fr [(5, 9999), (6, 9999)] o o5)
  exact ⟨hB_o5, fr_o5⟩
set_option maxHeartbeats 4000000 in
theorem t_X11_text (o : OO) (x1 : Int) (x2 : Int) (hB_o : BoxC o) (k0 : inR x1) (k1 : inR x2) : T (s_X11_text o x1 x2) (fun v => BoxC v.2 ∧ (Fr [(0, 17), (5, 9999), (6, 9999), (77, 9999)] o v.2)) := by
  have fr_o : Fr [(0, 17), (5, 9999), (6, 9999), (77, 9999)] o o := Fr.rf
  unfold s_X11_text
  refine T_qB (t_X8_exists__4 o x1 hB_o (by omega)) (fun r1 hc_r1 hp1 => ?_)
  have hp1 : ((r1 = 1 ∧ (0 ≤ x1 ∧ x1 < 4)) ∨ (r1 = 0 ∧ ¬ (0 ≤ x1 ∧ x1 < 4))) := hp1
  refine T_qEq ⟨by omega, by omega⟩ ⟨by decide, by decide⟩ (fun h2 => ?_) (fun h2 => ?_)
  ·
    unfold b_X11_text_17
    refine T_some ?_
    show BoxC o ∧ (Fr [(0, 17), (5, 9999), (6, 9999), (77, 9999)] o o)
    exact ⟨hB_o, fr_o⟩
  ·
    refine T_qLt ⟨by decide, by decide⟩ ⟨by omega, by omega⟩ (fun h3 => ?_) (fun h3 => ?_)
    ·
      unfold b_X11_text_17
      refine T_some ?_
      show BoxC o ∧ (Fr [(0, 17), (5, 9999), (6, 9999), (77, 9999)] o o)
      exact ⟨hB_o, fr_o⟩
    ·
      refine T_qLt ⟨by omega, by omega⟩ ⟨by decide, by decide⟩ (fun h4 => ?_) (fun h4 => ?_)
      ·
        refine T_qB2 (t_X11_found o 5 hB_o (by omega)) (fun r6 o8 hc_r6 hp5 => ?_)
        have hp5 : BoxC o8 ∧ (Fr [(0, 17), (77, 9999)] o o8) ∧ (r6 = -3) := hp5
        obtain ⟨hB_o8, fc_o8, hp5⟩ := hp5
        have fr_o8 : Fr [(0, 17), (5, 9999), (6, 9999), (77, 9999)] o o8 := Fr.tr fr_o fc_o8 rfl
        refine T_some ?_
        show BoxC o8 ∧ (Fr [(0, 17), (5, 9999), (6, 9999), (77, 9999)] o o8)
        exact ⟨hB_o8, fr_o8⟩
      ·
        refine T_qB (t_X8_layOut__4 o x1 x2 hB_o (by omega) (by omega)) (fun o5 hc_o5 hp6 => ?_)
        have hp6 : BoxC o5 ∧ (Fr [(5, 9999), (6, 9999)] o o5) := hp6
        obtain ⟨hB_o5, fc_o5⟩ := hp6
        have fr_o5 : Fr [(0, 17), (5, 9999), (6, 9999), (77, 9999)] o o5 := Fr.tr fr_o fc_o5 rfl
        refine T_some ?_
        show BoxC o5 ∧ (Fr [(0, 17), (5, 9999), (6, 9999), (77, 9999)] o o5)
        exact ⟨hB_o5, fr_o5⟩
set_option maxHeartbeats 4000000 in
theorem t_X11_told (o : OO) (x1 : Int) (x2 : Int) (hB_o : BoxC o) (k0 : inR x1) (k1 : inR x2) : T (s_X11_told o x1 x2) (fun v => BoxC v.2 ∧ (Fr [(0, 14)] o v.2)) := by
  have fr_o : Fr [(0, 14)] o o := Fr.rf
  have g32_13_o := bC_32_13 hB_o
  unfold s_X11_told
  refine T_qB (t_X4_exists o x1 hB_o (by omega)) (fun r1 hc_r1 hp1 => ?_)
  have hp1 : ((r1 = 1 ∧ (0 ≤ x1 ∧ x1 < o.1 32 13)) ∨ (r1 = 0 ∧ ¬ (0 ≤ x1 ∧ x1 < o.1 32 13))) := hp1
  refine T_qEq ⟨by omega, by omega⟩ ⟨by decide, by decide⟩ (fun h2 => ?_) (fun h2 => ?_)
  ·
    unfold b_X11_told_20
    refine T_some ?_
    show BoxC o ∧ (Fr [(0, 14)] o o)
    exact ⟨hB_o, fr_o⟩
  ·
    refine T_qLt ⟨by omega, by omega⟩ ⟨by decide, by decide⟩ (fun h3 => ?_) (fun h3 => ?_)
    ·
      unfold b_X11_told_20
      refine T_some ?_
      show BoxC o ∧ (Fr [(0, 14)] o o)
      exact ⟨hB_o, fr_o⟩
    ·
      refine T_qLt ⟨by decide, by decide⟩ ⟨by omega, by omega⟩ (fun h4 => ?_) (fun h4 => ?_)
      ·
        unfold b_X11_told_20
        refine T_some ?_
        show BoxC o ∧ (Fr [(0, 14)] o o)
        exact ⟨hB_o, fr_o⟩
      ·
        refine T_qB (t_X4_trait o x1 x2 hB_o (by omega) (by omega)) (fun r3 hc_r3 hp5 => ?_)
        have hp5 : (inR r3) := hp5
        refine T_qB2 (t_X11_tell o r3 hB_o) (fun r5 o7 hc_r5 hp6 => ?_)
        have hp6 : BoxC o7 ∧ (Fr [(0, 14)] o o7) ∧ (r5 = 1) := hp6
        obtain ⟨hB_o7, fc_o7, hp6⟩ := hp6
        have fr_o7 : Fr [(0, 14)] o o7 := Fr.tr fr_o fc_o7 rfl
        have g32_13_o7 : o7.1 32 13 = o.1 32 13 := fc_o7.1 32 13 rfl
        refine T_some ?_
        show BoxC o7 ∧ (Fr [(0, 14)] o o7)
        exact ⟨hB_o7, fr_o7⟩
