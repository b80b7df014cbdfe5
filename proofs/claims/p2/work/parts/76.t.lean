set_option maxRecDepth 20000 in
set_option maxHeartbeats 4000000 in
theorem t_X11_park (o : OO) (x1 : Int) (hB_o : BoxC o) (k0 : inR x1) : T (s_X11_park o x1) (fun v => BoxC v.2 ∧ (Fr [(0, 14), (0, 17), (77, 9999)] o v.2)) := by
  have fr_o : Fr [(0, 14), (0, 17), (77, 9999)] o o := Fr.rf
  have g32_13_o := bC_32_13 hB_o
  unfold s_X11_park
  refine T_qB (t_X4_exists o x1 hB_o (by omega)) (fun r1 hc_r1 hp1 => ?_)
  have hp1 : ((r1 = 1 ∧ (0 ≤ x1 ∧ x1 < o.1 32 13)) ∨ (r1 = 0 ∧ ¬ (0 ≤ x1 ∧ x1 < o.1 32 13))) := hp1
  refine T_qEq ⟨by omega, by omega⟩ ⟨by decide, by decide⟩ (fun h2 => ?_) (fun h2 => ?_)
  ·
    refine T_some ?_
    show BoxC o ∧ (Fr [(0, 14), (0, 17), (77, 9999)] o o)
    exact ⟨hB_o, fr_o⟩
  ·
    refine T_qB (t_X4_isOf o x1 1 hB_o (by omega) (by omega)) (fun r3 hc_r3 hp3 => ?_)
    have hp3 : (0 ≤ r3 ∧ r3 ≤ 1) := hp3
    refine T_qEq ⟨by omega, by omega⟩ ⟨by decide, by decide⟩ (fun h4 => ?_) (fun h4 => ?_)
    ·
      refine T_qB2 (t_X11_found o 3 hB_o (by omega)) (fun r14 o16 hc_r14 hp5 => ?_)
      have hp5 : BoxC o16 ∧ (Fr [(0, 17), (77, 9999)] o o16) ∧ (r14 = -3) := hp5
      obtain ⟨hB_o16, fc_o16, hp5⟩ := hp5
      have fr_o16 : Fr [(0, 14), (0, 17), (77, 9999)] o o16 := Fr.tr fr_o fc_o16 rfl
      have g32_13_o16 : o16.1 32 13 = o.1 32 13 := fc_o16.1 32 13 rfl
      refine T_some ?_
      show BoxC o16 ∧ (Fr [(0, 14), (0, 17), (77, 9999)] o o16)
      exact ⟨hB_o16, fr_o16⟩
    ·
      refine T_qB (t_X4_cells o x1 hB_o (by omega)) (fun p5 hc_p5 hp6 => ?_)
      refine T_qB (t_X3_parksIn o p5 hB_o) (fun r7 hc_r7 hp7 => ?_)
      have hp7 : (0 ≤ r7 ∧ r7 ≤ 64) := hp7
      refine T_qB2 (t_X11_tell o r7 hB_o) (fun r9 o11 hc_r9 hp8 => ?_)
      have hp8 : BoxC o11 ∧ (Fr [(0, 14)] o o11) ∧ (r9 = 1) := hp8
      obtain ⟨hB_o11, fc_o11, hp8⟩ := hp8
      have fr_o11 : Fr [(0, 14), (0, 17), (77, 9999)] o o11 := Fr.tr fr_o fc_o11 rfl
      have g32_13_o11 : o11.1 32 13 = o.1 32 13 := fc_o11.1 32 13 rfl
      refine T_qB (t_X11_inForce o11 6 hB_o11 (by omega)) (fun r12 hc_r12 hp9 => ?_)
      have hp9 : (0 ≤ r12 ∧ r12 ≤ 9999) := hp9
      refine T_qLt ⟨by omega, by omega⟩ ⟨by omega, by omega⟩ (fun h10 => ?_) (fun h10 => ?_)
      ·
        unfold b_X11_park_68
        refine T_some ?_
        show BoxC o11 ∧ (Fr [(0, 14), (0, 17), (77, 9999)] o o11)
        exact ⟨hB_o11, fr_o11⟩
      ·
        unfold b_X11_park_68
        refine T_some ?_
        show BoxC o11 ∧ (Fr [(0, 14), (0, 17), (77, 9999)] o o11)
        exact ⟨hB_o11, fr_o11⟩
set_option maxRecDepth 20000 in
set_option maxHeartbeats 4000000 in
theorem t_X5_add (o : OO) (x1 : Int) (x2 : Int) (x3 : Int) (hB_o : BoxC o) (k0 : x1 = -9 ∨ (0 ≤ x1 ∧ x1 ≤ 63)) (k1 : 0 ≤ x2 ∧ x2 ≤ 1) (k2 : 0 ≤ x3 ∧ x3 ≤ 9) (k3 : o.1 23 4 ≤ 39) : T (s_X5_add o x1 x2 x3) (fun v => BoxC v.2 ∧ (Fr [(23, 4), (24, 9999), (25, 9999), (26, 9999), (27, 9999)] o v.2) ∧ (v.1 = o.1 23 4) ∧ (v.2.1 23 4 = o.1 23 4 + 1)) := by
  have fr_o : Fr [(23, 4), (24, 9999), (25, 9999), (26, 9999), (27, 9999)] o o := Fr.rf
  have g23_4_o := bC_23_4 hB_o
  unfold s_X5_add
  refine T_qNm (fun o1 e_o1 => ?_)
  have hB_o1 : BoxC o1 := by rw [e_o1]; exact Box.s1 hB_o (show 0 ≤ ((o.1 23 4) + 1) ∧ ((o.1 23 4) + 1) ≤ 40 from ⟨by omega, by omega⟩)
  have fr_o1 : Fr [(23, 4), (24, 9999), (25, 9999), (26, 9999), (27, 9999)] o o1 := by rw [e_o1]; exact Fr.s1 fr_o rfl
  have g23_4_o1 : o1.1 23 4 = ((o.1 23 4) + 1) := by rw [e_o1]; rfl
  refine T_qIn ⟨by omega, by omega⟩ ?_
  refine T_qNm (fun o3 e_o3 => ?_)
  have hB_o3 : BoxC o3 := by rw [e_o3]; exact Box.s1 hB_o1 (show (-9) = -9 ∨ (0 ≤ (-9) ∧ (-9) ≤ 31) from (by omega))
  have fr_o3 : Fr [(23, 4), (24, 9999), (25, 9999), (26, 9999), (27, 9999)] o o3 := by rw [e_o3]; exact Fr.s1 fr_o1 rfl
  have g23_4_o3 : o3.1 23 4 = o1.1 23 4 := by rw [e_o3]; rfl
  refine T_qIn ⟨by omega, by omega⟩ ?_
  refine T_qNm (fun o5 e_o5 => ?_)
  have hB_o5 : BoxC o5 := by rw [e_o5]; exact Box.s1 hB_o3 (show x1 = -9 ∨ (0 ≤ x1 ∧ x1 ≤ 63) from (by omega))
  have fr_o5 : Fr [(23, 4), (24, 9999), (25, 9999), (26, 9999), (27, 9999)] o o5 := by rw [e_o5]; exact Fr.s1 fr_o3 rfl
  have g23_4_o5 : o5.1 23 4 = o3.1 23 4 := by rw [e_o5]; rfl
  refine T_qIn ⟨by omega, by omega⟩ ?_
  refine T_qZ (by omega) ?_
  refine T_qNm (fun o8 e_o8 => ?_)
  have hB_o8 : BoxC o8 := by rw [e_o8]; exact Box.s1 hB_o5 (show 0 ≤ x2 ∧ x2 ≤ 1 from ⟨by omega, by omega⟩)
  have fr_o8 : Fr [(23, 4), (24, 9999), (25, 9999), (26, 9999), (27, 9999)] o o8 := by rw [e_o8]; exact Fr.s1 fr_o5 rfl
  have g23_4_o8 : o8.1 23 4 = o5.1 23 4 := by rw [e_o8]; rfl
  refine T_qIn ⟨by omega, by omega⟩ ?_
  refine T_qNm (fun o10 e_o10 => ?_)
  have hB_o10 : BoxC o10 := by rw [e_o10]; exact Box.s1 hB_o8 (show 0 ≤ x3 ∧ x3 ≤ 9 from ⟨by omega, by omega⟩)
  have fr_o10 : Fr [(23, 4), (24, 9999), (25, 9999), (26, 9999), (27, 9999)] o o10 := by rw [e_o10]; exact Fr.s1 fr_o8 rfl
  have g23_4_o10 : o10.1 23 4 = o8.1 23 4 := by rw [e_o10]; rfl
  refine T_some ?_
  show BoxC o10 ∧ (Fr [(23, 4), (24, 9999), (25, 9999), (26, 9999), (27, 9999)] o o10) ∧ ((o.1 23 4) = o.1 23 4) ∧ (o10.1 23 4 = o.1 23 4 + 1)
  exact ⟨hB_o10, fr_o10, (by omega), (by omega)⟩
set_option maxRecDepth 20000 in
set_option maxHeartbeats 4000000 in
theorem t_X11_person (o : OO) (x1 : Int) (x2 : Int) (x3 : Int) (x4 : Int) (hB_o : BoxC o) (k0 : inR x1) (k1 : inR x2) (k2 : 0 ≤ x3 ∧ x3 ≤ 1) (k3 : inR x4) : T (s_X11_person o x1 x2 x3 x4) (fun v => BoxC v.2 ∧ (Fr [(14, 9999), (23, 4), (24, 9999), (25, 9999), (26, 9999), (27, 9999)] o v.2)) := by
  have fr_o : Fr [(14, 9999), (23, 4), (24, 9999), (25, 9999), (26, 9999), (27, 9999)] o o := Fr.rf
  have g10_12_o := bC_10_12 hB_o
  have g23_4_o := bC_23_4 hB_o
  unfold s_X11_person
  refine T_qEq ⟨by omega, by omega⟩ ⟨by decide, by decide⟩ (fun h1 => ?_) (fun h1 => ?_)
  ·
    unfold b_X11_person_19
    refine T_qEq ⟨by omega, by omega⟩ ⟨by decide, by decide⟩ (fun h2 => ?_) (fun h2 => ?_)
    ·
      unfold b_X11_person_34
      refine T_qLt ⟨by omega, by omega⟩ ⟨by decide, by decide⟩ (fun h3 => ?_) (fun h3 => ?_)
      ·
        unfold b_X11_person_46
        refine T_some ?_
        show BoxC o ∧ (Fr [(14, 9999), (23, 4), (24, 9999), (25, 9999), (26, 9999), (27, 9999)] o o)
        exact ⟨hB_o, fr_o⟩
      ·
        refine T_qLt ⟨by decide, by decide⟩ ⟨by omega, by omega⟩ (fun h4 => ?_) (fun h4 => ?_)
        ·
          unfold b_X11_person_46
          refine T_some ?_
          show BoxC o ∧ (Fr [(14, 9999), (23, 4), (24, 9999), (25, 9999), (26, 9999), (27, 9999)] o o)
          exact ⟨hB_o, fr_o⟩
        ·
          refine T_qB (t_X5_number o hB_o) (fun r7 hc_r7 hp5 => ?_)
          have hp5 : (r7 = o.1 23 4) := hp5
          refine T_qLt ⟨by omega, by omega⟩ ⟨by decide, by decide⟩ (fun h6 => ?_) (fun h6 => ?_)
          ·
            refine T_qEq ⟨by omega, by omega⟩ ⟨by decide, by decide⟩ (fun h7 => ?_) (fun h7 => ?_)
            ·
              unfold b_X11_person_84
              refine T_qB2 (t_X5_add o x2 x3 x4 hB_o (by omega) (by omega) (by omega) (by omega)) (fun r1 o3 hc_r1 hp8 => ?_)
              have hp8 : BoxC o3 ∧ (Fr [(23, 4), (24, 9999), (25, 9999), (26, 9999), (27, 9999)] o o3) ∧ (r1 = o.1 23 4) ∧ (o3.1 23 4 = o.1 23 4 + 1) := hp8
              obtain ⟨hB_o3, fc_o3, hp8⟩ := hp8
              have fr_o3 : Fr [(14, 9999), (23, 4), (24, 9999), (25, 9999), (26, 9999), (27, 9999)] o o3 := Fr.tr fr_o fc_o3 rfl
              have g10_12_o3 : o3.1 10 12 = o.1 10 12 := fc_o3.1 10 12 rfl
              have g23_4_o3 := bC_23_4 hB_o3
              have hq8 := fc_o3.1 14 x1.toNat rfl
              refine T_qEq ⟨by omega, by omega⟩ ⟨by decide, by decide⟩ (fun h9 => ?_) (fun h9 => ?_)
              ·
                unfold b_X11_person_110
                refine T_some ?_
                show BoxC o3 ∧ (Fr [(14, 9999), (23, 4), (24, 9999), (25, 9999), (26, 9999), (27, 9999)] o o3)
                exact ⟨hB_o3, fr_o3⟩
              ·
                refine T_qB (t_X11_settle o3 r1 x1 hB_o3 (by omega) (by omega) (by omega)) (fun o6 hc_o6 hp10 => ?_)
                have hp10 : BoxC o6 ∧ (Fr [(14, 9999), (24, 9999)] o3 o6) := hp10
                obtain ⟨hB_o6, fc_o6⟩ := hp10
                have fr_o6 : Fr [(14, 9999), (23, 4), (24, 9999), (25, 9999), (26, 9999), (27, 9999)] o o6 := Fr.tr fr_o3 fc_o6 rfl
                have g10_12_o6 : o6.1 10 12 = o3.1 10 12 := fc_o6.1 10 12 rfl
                have g23_4_o6 : o6.1 23 4 = o3.1 23 4 := fc_o6.1 23 4 rfl
                unfold b_X11_person_110
                refine T_some ?_
                show BoxC o6 ∧ (Fr [(14, 9999), (23, 4), (24, 9999), (25, 9999), (26, 9999), (27, 9999)] o o6)
                exact ⟨hB_o6, fr_o6⟩
            ·
              refine T_qB (t_X1_roomsLeft o x1 hB_o (by omega)) (fun r9 hc_r9 hp11 => ?_)
              have hp11 : (-40 ≤ r9 ∧ r9 ≤ 20) ∧ (r9 ≤ 0 ∨ o.1 14 x1.toNat ≤ 19) := hp11
              have hps_hp11 := hp11
              obtain ⟨hp11_0, hp11_1⟩ := hps_hp11
              refine T_qLt ⟨by omega, by omega⟩ ⟨by decide, by decide⟩ (fun h12 => ?_) (fun h12 => ?_)
              ·
                refine T_some ?_
                show BoxC o ∧ (Fr [(14, 9999), (23, 4), (24, 9999), (25, 9999), (26, 9999), (27, 9999)] o o)
                exact ⟨hB_o, fr_o⟩
              ·
                unfold b_X11_person_84
                refine T_qB2 (t_X5_add o x2 x3 x4 hB_o (by omega) (by omega) (by omega) (by omega)) (fun r1 o3 hc_r1 hp13 => ?_)
                have hp13 : BoxC o3 ∧ (Fr [(23, 4), (24, 9999), (25, 9999), (26, 9999), (27, 9999)] o o3) ∧ (r1 = o.1 23 4) ∧ (o3.1 23 4 = o.1 23 4 + 1) := hp13
                obtain ⟨hB_o3, fc_o3, hp13⟩ := hp13
                have fr_o3 : Fr [(14, 9999), (23, 4), (24, 9999), (25, 9999), (26, 9999), (27, 9999)] o o3 := Fr.tr fr_o fc_o3 rfl
                have g10_12_o3 : o3.1 10 12 = o.1 10 12 := fc_o3.1 10 12 rfl
                have g23_4_o3 := bC_23_4 hB_o3
                have hq8 := fc_o3.1 14 x1.toNat rfl
                refine T_qEq ⟨by omega, by omega⟩ ⟨by decide, by decide⟩ (fun h14 => ?_) (fun h14 => ?_)
                ·
                  unfold b_X11_person_110
                  refine T_some ?_
                  show BoxC o3 ∧ (Fr [(14, 9999), (23, 4), (24, 9999), (25, 9999), (26, 9999), (27, 9999)] o o3)
                  exact ⟨hB_o3, fr_o3⟩
                ·
                  refine T_qB (t_X11_settle o3 r1 x1 hB_o3 (by omega) (by omega) (by omega)) (fun o6 hc_o6 hp15 => ?_)
                  have hp15 : BoxC o6 ∧ (Fr [(14, 9999), (24, 9999)] o3 o6) := hp15
                  obtain ⟨hB_o6, fc_o6⟩ := hp15
                  have fr_o6 : Fr [(14, 9999), (23, 4), (24, 9999), (25, 9999), (26, 9999), (27, 9999)] o o6 := Fr.tr fr_o3 fc_o6 rfl
                  have g10_12_o6 : o6.1 10 12 = o3.1 10 12 := fc_o6.1 10 12 rfl
                  have g23_4_o6 : o6.1 23 4 = o3.1 23 4 := fc_o6.1 23 4 rfl
                  unfold b_X11_person_110
                  refine T_some ?_
                  show BoxC o6 ∧ (Fr [(14, 9999), (23, 4), (24, 9999), (25, 9999), (26, 9999), (27, 9999)] o o6)
                  exact ⟨hB_o6, fr_o6⟩
          ·
            refine T_some ?_
            show BoxC o ∧ (Fr [(14, 9999), (23, 4), (24, 9999), (25, 9999), (26, 9999), (27, 9999)] o o)
            exact ⟨hB_o, fr_o⟩
    ·
      refine T_qB (t_X3_isCell x2 (by omega)) (fun r11 hc_r11 hp16 => ?_)
      have hp16 : ((r11 = 1 ∧ (0 ≤ x2 ∧ x2 < 64)) ∨ (r11 = 0 ∧ ¬ (0 ≤ x2 ∧ x2 < 64))) := hp16
      refine T_qEq ⟨by omega, by omega⟩ ⟨by decide, by decide⟩ (fun h17 => ?_) (fun h17 => ?_)
      ·
        refine T_some ?_
        show BoxC o ∧ (Fr [(14, 9999), (23, 4), (24, 9999), (25, 9999), (26, 9999), (27, 9999)] o o)
        exact ⟨hB_o, fr_o⟩
      ·
        unfold b_X11_person_34
        refine T_qLt ⟨by omega, by omega⟩ ⟨by decide, by decide⟩ (fun h18 => ?_) (fun h18 => ?_)
        ·
          unfold b_X11_person_46
          refine T_some ?_
          show BoxC o ∧ (Fr [(14, 9999), (23, 4), (24, 9999), (25, 9999), (26, 9999), (27, 9999)] o o)
          exact ⟨hB_o, fr_o⟩
        ·
          refine T_qLt ⟨by decide, by decide⟩ ⟨by omega, by omega⟩ (fun h19 => ?_) (fun h19 => ?_)
          ·
            unfold b_X11_person_46
            refine T_some ?_
            show BoxC o ∧ (Fr [(14, 9999), (23, 4), (24, 9999), (25, 9999), (26, 9999), (27, 9999)] o o)
            exact ⟨hB_o, fr_o⟩
          ·
            refine T_qB (t_X5_number o hB_o) (fun r7 hc_r7 hp20 => ?_)
            have hp20 : (r7 = o.1 23 4) := hp20
            refine T_qLt ⟨by omega, by omega⟩ ⟨by decide, by decide⟩ (fun h21 => ?_) (fun h21 => ?_)
            ·
              refine T_qEq ⟨by omega, by omega⟩ ⟨by decide, by decide⟩ (fun h22 => ?_) (fun h22 => ?_)
              ·
                unfold b_X11_person_84
                refine T_qB2 (t_X5_add o x2 x3 x4 hB_o (by omega) (by omega) (by omega) (by omega)) (fun r1 o3 hc_r1 hp23 => ?_)
                have hp23 : BoxC o3 ∧ (Fr [(23, 4), (24, 9999), (25, 9999), (26, 9999), (27, 9999)] o o3) ∧ (r1 = o.1 23 4) ∧ (o3.1 23 4 = o.1 23 4 + 1) := hp23
                obtain ⟨hB_o3, fc_o3, hp23⟩ := hp23
                have fr_o3 : Fr [(14, 9999), (23, 4), (24, 9999), (25, 9999), (26, 9999), (27, 9999)] o o3 := Fr.tr fr_o fc_o3 rfl
                have g10_12_o3 : o3.1 10 12 = o.1 10 12 := fc_o3.1 10 12 rfl
                have g23_4_o3 := bC_23_4 hB_o3
                have hq8 := fc_o3.1 14 x1.toNat rfl
                refine T_qEq ⟨by omega, by omega⟩ ⟨by decide, by decide⟩ (fun h24 => ?_) (fun h24 => ?_)
                ·
                  unfold b_X11_person_110
                  refine T_some ?_
                  show BoxC o3 ∧ (Fr [(14, 9999), (23, 4), (24, 9999), (25, 9999), (26, 9999), (27, 9999)] o o3)
                  exact ⟨hB_o3, fr_o3⟩
                ·
                  refine T_qB (t_X11_settle o3 r1 x1 hB_o3 (by omega) (by omega) (by omega)) (fun o6 hc_o6 hp25 => ?_)
                  have hp25 : BoxC o6 ∧ (Fr [(14, 9999), (24, 9999)] o3 o6) := hp25
                  obtain ⟨hB_o6, fc_o6⟩ := hp25
                  have fr_o6 : Fr [(14, 9999), (23, 4), (24, 9999), (25, 9999), (26, 9999), (27, 9999)] o o6 := Fr.tr fr_o3 fc_o6 rfl
                  have g10_12_o6 : o6.1 10 12 = o3.1 10 12 := fc_o6.1 10 12 rfl
                  have g23_4_o6 : o6.1 23 4 = o3.1 23 4 := fc_o6.1 23 4 rfl
                  unfold b_X11_person_110
                  refine T_some ?_
                  show BoxC o6 ∧ (Fr [(14, 9999), (23, 4), (24, 9999), (25, 9999), (26, 9999), (27, 9999)] o o6)
                  exact ⟨hB_o6, fr_o6⟩
              ·
                refine T_qB (t_X1_roomsLeft o x1 hB_o (by omega)) (fun r9 hc_r9 hp26 => ?_)
                have hp26 : (-40 ≤ r9 ∧ r9 ≤ 20) ∧ (r9 ≤ 0 ∨ o.1 14 x1.toNat ≤ 19) := hp26
                have hps_hp26 := hp26
                obtain ⟨hp26_0, hp26_1⟩ := hps_hp26
                refine T_qLt ⟨by omega, by omega⟩ ⟨by decide, by decide⟩ (fun h27 => ?_) (fun h27 => ?_)
                ·
                  refine T_some ?_
                  show BoxC o ∧ (Fr [(14, 9999), (23, 4), (24, 9999), (25, 9999), (26, 9999), (27, 9999)] o o)
                  exact ⟨hB_o, fr_o⟩
                ·
                  unfold b_X11_person_84
                  refine T_qB2 (t_X5_add o x2 x3 x4 hB_o (by omega) (by omega) (by omega) (by omega)) (fun r1 o3 hc_r1 hp28 => ?_)
                  have hp28 : BoxC o3 ∧ (Fr [(23, 4), (24, 9999), (25, 9999), (26, 9999), (27, 9999)] o o3) ∧ (r1 = o.1 23 4) ∧ (o3.1 23 4 = o.1 23 4 + 1) := hp28
                  obtain ⟨hB_o3, fc_o3, hp28⟩ := hp28
                  have fr_o3 : Fr [(14, 9999), (23, 4), (24, 9999), (25, 9999), (26, 9999), (27, 9999)] o o3 := Fr.tr fr_o fc_o3 rfl
                  have g10_12_o3 : o3.1 10 12 = o.1 10 12 := fc_o3.1 10 12 rfl
                  have g23_4_o3 := bC_23_4 hB_o3
                  have hq8 := fc_o3.1 14 x1.toNat rfl
                  refine T_qEq ⟨by omega, by omega⟩ ⟨by decide, by decide⟩ (fun h29 => ?_) (fun h29 => ?_)
                  ·
                    unfold b_X11_person_110
                    refine T_some ?_
                    show BoxC o3 ∧ (Fr [(14, 9999), (23, 4), (24, 9999), (25, 9999), (26, 9999), (27, 9999)] o o3)
                    exact ⟨hB_o3, fr_o3⟩
                  ·
                    refine T_qB (t_X11_settle o3 r1 x1 hB_o3 (by omega) (by omega) (by omega)) (fun o6 hc_o6 hp30 => ?_)
                    have hp30 : BoxC o6 ∧ (Fr [(14, 9999), (24, 9999)] o3 o6) := hp30
                    obtain ⟨hB_o6, fc_o6⟩ := hp30
                    have fr_o6 : Fr [(14, 9999), (23, 4), (24, 9999), (25, 9999), (26, 9999), (27, 9999)] o o6 := Fr.tr fr_o3 fc_o6 rfl
                    have g10_12_o6 : o6.1 10 12 = o3.1 10 12 := fc_o6.1 10 12 rfl
                    have g23_4_o6 : o6.1 23 4 = o3.1 23 4 := fc_o6.1 23 4 rfl
                    unfold b_X11_person_110
                    refine T_some ?_
                    show BoxC o6 ∧ (Fr [(14, 9999), (23, 4), (24, 9999), (25, 9999), (26, 9999), (27, 9999)] o o6)
                    exact ⟨hB_o6, fr_o6⟩
            ·
              refine T_some ?_
              show BoxC o ∧ (Fr [(14, 9999), (23, 4), (24, 9999), (25, 9999), (26, 9999), (27, 9999)] o o)
              exact ⟨hB_o, fr_o⟩
  ·
    refine T_qB (t_X1_exists o x1 hB_o (by omega)) (fun r13 hc_r13 hp31 => ?_)
    have hp31 : ((r13 = 1 ∧ (0 ≤ x1 ∧ x1 < o.1 10 12)) ∨ (r13 = 0 ∧ ¬ (0 ≤ x1 ∧ x1 < o.1 10 12))) := hp31
    refine T_qEq ⟨by omega, by omega⟩ ⟨by decide, by decide⟩ (fun h32 => ?_) (fun h32 => ?_)
    ·
      refine T_some ?_
      show BoxC o ∧ (Fr [(14, 9999), (23, 4), (24, 9999), (25, 9999), (26, 9999), (27, 9999)] o o)
      exact ⟨hB_o, fr_o⟩
    ·
      unfold b_X11_person_19
      refine T_qEq ⟨by omega, by omega⟩ ⟨by decide, by decide⟩ (fun h33 => ?_) (fun h33 => ?_)
      ·
        unfold b_X11_person_34
        refine T_qLt ⟨by omega, by omega⟩ ⟨by decide, by decide⟩ (fun h34 => ?_) (fun h34 => ?_)
        ·
          unfold b_X11_person_46
          refine T_some ?_
          show BoxC o ∧ (Fr [(14, 9999), (23, 4), (24, 9999), (25, 9999), (26, 9999), (27, 9999)] o o)
          exact ⟨hB_o, fr_o⟩
        ·
          refine T_qLt ⟨by decide, by decide⟩ ⟨by omega, by omega⟩ (fun h35 => ?_) (fun h35 => ?_)
          ·
            unfold b_X11_person_46
            refine T_some ?_
            show BoxC o ∧ (Fr [(14, 9999), (23, 4), (24, 9999), (25, 9999), (26, 9999), (27, 9999)] o o)
            exact ⟨hB_o, fr_o⟩
          ·
            refine T_qB (t_X5_number o hB_o) (fun r7 hc_r7 hp36 => ?_)
            have hp36 : (r7 = o.1 23 4) := hp36
            refine T_qLt ⟨by omega, by omega⟩ ⟨by decide, by decide⟩ (fun h37 => ?_) (fun h37 => ?_)
            ·
              refine T_qEq ⟨by omega, by omega⟩ ⟨by decide, by decide⟩ (fun h38 => ?_) (fun h38 => ?_)
              ·
                unfold b_X11_person_84
                refine T_qB2 (t_X5_add o x2 x3 x4 hB_o (by omega) (by omega) (by omega) (by omega)) (fun r1 o3 hc_r1 hp39 => ?_)
                have hp39 : BoxC o3 ∧ (Fr [(23, 4), (24, 9999), (25, 9999), (26, 9999), (27, 9999)] o o3) ∧ (r1 = o.1 23 4) ∧ (o3.1 23 4 = o.1 23 4 + 1) := hp39
                obtain ⟨hB_o3, fc_o3, hp39⟩ := hp39
                have fr_o3 : Fr [(14, 9999), (23, 4), (24, 9999), (25, 9999), (26, 9999), (27, 9999)] o o3 := Fr.tr fr_o fc_o3 rfl
                have g10_12_o3 : o3.1 10 12 = o.1 10 12 := fc_o3.1 10 12 rfl
                have g23_4_o3 := bC_23_4 hB_o3
                have hq8 := fc_o3.1 14 x1.toNat rfl
                refine T_qEq ⟨by omega, by omega⟩ ⟨by decide, by decide⟩ (fun h40 => ?_) (fun h40 => ?_)
                ·
                  unfold b_X11_person_110
                  refine T_some ?_
                  show BoxC o3 ∧ (Fr [(14, 9999), (23, 4), (24, 9999), (25, 9999), (26, 9999), (27, 9999)] o o3)
                  exact ⟨hB_o3, fr_o3⟩
                ·
                  refine T_qB (t_X11_settle o3 r1 x1 hB_o3 (by omega) (by omega) (by omega)) (fun o6 hc_o6 hp41 => ?_)
                  have hp41 : BoxC o6 ∧ (Fr [(14, 9999), (24, 9999)] o3 o6) := hp41
                  obtain ⟨hB_o6, fc_o6⟩ := hp41
                  have fr_o6 : Fr [(14, 9999), (23, 4), (24, 9999), (25, 9999), (26, 9999), (27, 9999)] o o6 := Fr.tr fr_o3 fc_o6 rfl
                  have g10_12_o6 : o6.1 10 12 = o3.1 10 12 := fc_o6.1 10 12 rfl
                  have g23_4_o6 : o6.1 23 4 = o3.1 23 4 := fc_o6.1 23 4 rfl
                  unfold b_X11_person_110
                  refine T_some ?_
                  show BoxC o6 ∧ (Fr [(14, 9999), (23, 4), (24, 9999), (25, 9999), (26, 9999), (27, 9999)] o o6)
                  exact ⟨hB_o6, fr_o6⟩
              ·
                refine T_qB (t_X1_roomsLeft o x1 hB_o (by omega)) (fun r9 hc_r9 hp42 => ?_)
                have hp42 : (-40 ≤ r9 ∧ r9 ≤ 20) ∧ (r9 ≤ 0 ∨ o.1 14 x1.toNat ≤ 19) := hp42
                have hps_hp42 := hp42
                obtain ⟨hp42_0, hp42_1⟩ := hps_hp42
                refine T_qLt ⟨by omega, by omega⟩ ⟨by decide, by decide⟩ (fun h43 => ?_) (fun h43 => ?_)
                ·
                  refine T_some ?_
                  show BoxC o ∧ (Fr [(14, 9999), (23, 4), (24, 9999), (25, 9999), (26, 9999), (27, 9999)] o o)
                  exact ⟨hB_o, fr_o⟩
                ·
                  unfold b_X11_person_84
                  refine T_qB2 (t_X5_add o x2 x3 x4 hB_o (by omega) (by omega) (by omega) (by omega)) (fun r1 o3 hc_r1 hp44 => ?_)
                  have hp44 : BoxC o3 ∧ (Fr [(23, 4), (24, 9999), (25, 9999), (26, 9999), (27, 9999)] o o3) ∧ (r1 = o.1 23 4) ∧ (o3.1 23 4 = o.1 23 4 + 1) := hp44
                  obtain ⟨hB_o3, fc_o3, hp44⟩ := hp44
                  have fr_o3 : Fr [(14, 9999), (23, 4), (24, 9999), (25, 9999), (26, 9999), (27, 9999)] o o3 := Fr.tr fr_o fc_o3 rfl
                  have g10_12_o3 : o3.1 10 12 = o.1 10 12 := fc_o3.1 10 12 rfl
                  have g23_4_o3 := bC_23_4 hB_o3
                  have hq8 := fc_o3.1 14 x1.toNat rfl
                  refine T_qEq ⟨by omega, by omega⟩ ⟨by decide, by decide⟩ (fun h45 => ?_) (fun h45 => ?_)
                  ·
                    unfold b_X11_person_110
                    refine T_some ?_
                    show BoxC o3 ∧ (Fr [(14, 9999), (23, 4), (24, 9999), (25, 9999), (26, 9999), (27, 9999)] o o3)
                    exact ⟨hB_o3, fr_o3⟩
                  ·
                    refine T_qB (t_X11_settle o3 r1 x1 hB_o3 (by omega) (by omega) (by omega)) (fun o6 hc_o6 hp46 => ?_)
                    have hp46 : BoxC o6 ∧ (Fr [(14, 9999), (24, 9999)] o3 o6) := hp46
                    obtain ⟨hB_o6, fc_o6⟩ := hp46
                    have fr_o6 : Fr [(14, 9999), (23, 4), (24, 9999), (25, 9999), (26, 9999), (27, 9999)] o o6 := Fr.tr fr_o3 fc_o6 rfl
                    have g10_12_o6 : o6.1 10 12 = o3.1 10 12 := fc_o6.1 10 12 rfl
                    have g23_4_o6 : o6.1 23 4 = o3.1 23 4 := fc_o6.1 23 4 rfl
                    unfold b_X11_person_110
                    refine T_some ?_
                    show BoxC o6 ∧ (Fr [(14, 9999), (23, 4), (24, 9999), (25, 9999), (26, 9999), (27, 9999)] o o6)
                    exact ⟨hB_o6, fr_o6⟩
            ·
              refine T_some ?_
              show BoxC o ∧ (Fr [(14, 9999), (23, 4), (24, 9999), (25, 9999), (26, 9999), (27, 9999)] o o)
              exact ⟨hB_o, fr_o⟩
      ·
        refine T_qB (t_X3_isCell x2 (by omega)) (fun r11 hc_r11 hp47 => ?_)
        have hp47 : ((r11 = 1 ∧ (0 ≤ x2 ∧ x2 < 64)) ∨ (r11 = 0 ∧ ¬ (0 ≤ x2 ∧ x2 < 64))) := hp47
        refine T_qEq ⟨by omega, by omega⟩ ⟨by decide, by decide⟩ (fun h48 => ?_) (fun h48 => ?_)
        ·
          refine T_some ?_
          show BoxC o ∧ (Fr [(14, 9999), (23, 4), (24, 9999), (25, 9999), (26, 9999), (27, 9999)] o o)
          exact ⟨hB_o, fr_o⟩
        ·
          unfold b_X11_person_34
          refine T_qLt ⟨by omega, by omega⟩ ⟨by decide, by decide⟩ (fun h49 => ?_) (fun h49 => ?_)
          ·
            unfold b_X11_person_46
            refine T_some ?_
            show BoxC o ∧ (Fr [(14, 9999), (23, 4), (24, 9999), (25, 9999), (26, 9999), (27, 9999)] o o)
            exact ⟨hB_o, fr_o⟩
          ·
            refine T_qLt ⟨by decide, by decide⟩ ⟨by omega, by omega⟩ (fun h50 => ?_) (fun h50 => ?_)
            ·
              unfold b_X11_person_46
              refine T_some ?_
              show BoxC o ∧ (Fr [(14, 9999), (23, 4), (24, 9999), (25, 9999), (26, 9999), (27, 9999)] o o)
              exact ⟨hB_o, fr_o⟩
            ·
              refine T_qB (t_X5_number o hB_o) (fun r7 hc_r7 hp51 => ?_)
              have hp51 : (r7 = o.1 23 4) := hp51
              refine T_qLt ⟨by omega, by omega⟩ ⟨by decide, by decide⟩ (fun h52 => ?_) (fun h52 => ?_)
              ·
                refine T_qEq ⟨by omega, by omega⟩ ⟨by decide, by decide⟩ (fun h53 => ?_) (fun h53 => ?_)
                ·
                  unfold b_X11_person_84
                  refine T_qB2 (t_X5_add o x2 x3 x4 hB_o (by omega) (by omega) (by omega) (by omega)) (fun r1 o3 hc_r1 hp54 => ?_)
                  have hp54 : BoxC o3 ∧ (Fr [(23, 4), (24, 9999), (25, 9999), (26, 9999), (27, 9999)] o o3) ∧ (r1 = o.1 23 4) ∧ (o3.1 23 4 = o.1 23 4 + 1) := hp54
                  obtain ⟨hB_o3, fc_o3, hp54⟩ := hp54
                  have fr_o3 : Fr [(14, 9999), (23, 4), (24, 9999), (25, 9999), (26, 9999), (27, 9999)] o o3 := Fr.tr fr_o fc_o3 rfl
                  have g10_12_o3 : o3.1 10 12 = o.1 10 12 := fc_o3.1 10 12 rfl
                  have g23_4_o3 := bC_23_4 hB_o3
                  have hq8 := fc_o3.1 14 x1.toNat rfl
                  refine T_qEq ⟨by omega, by omega⟩ ⟨by decide, by decide⟩ (fun h55 => ?_) (fun h55 => ?_)
                  ·
                    unfold b_X11_person_110
                    refine T_some ?_
                    show BoxC o3 ∧ (Fr [(14, 9999), (23, 4), (24, 9999), (25, 9999), (26, 9999), (27, 9999)] o o3)
                    exact ⟨hB_o3, fr_o3⟩
                  ·
                    refine T_qB (t_X11_settle o3 r1 x1 hB_o3 (by omega) (by omega) (by omega)) (fun o6 hc_o6 hp56 => ?_)
                    have hp56 : BoxC o6 ∧ (Fr [(14, 9999), (24, 9999)] o3 o6) := hp56
                    obtain ⟨hB_o6, fc_o6⟩ := hp56
                    have fr_o6 : Fr [(14, 9999), (23, 4), (24, 9999), (25, 9999), (26, 9999), (27, 9999)] o o6 := Fr.tr fr_o3 fc_o6 rfl
                    have g10_12_o6 : o6.1 10 12 = o3.1 10 12 := fc_o6.1 10 12 rfl
                    have g23_4_o6 : o6.1 23 4 = o3.1 23 4 := fc_o6.1 23 4 rfl
                    unfold b_X11_person_110
                    refine T_some ?_
                    show BoxC o6 ∧ (Fr [(14, 9999), (23, 4), (24, 9999), (25, 9999), (26, 9999), (27, 9999)] o o6)
                    exact ⟨hB_o6, fr_o6⟩
                ·
                  refine T_qB (t_X1_roomsLeft o x1 hB_o (by omega)) (fun r9 hc_r9 hp57 => ?_)
                  have hp57 : (-40 ≤ r9 ∧ r9 ≤ 20) ∧ (r9 ≤ 0 ∨ o.1 14 x1.toNat ≤ 19) := hp57
                  have hps_hp57 := hp57
                  obtain ⟨hp57_0, hp57_1⟩ := hps_hp57
                  refine T_qLt ⟨by omega, by omega⟩ ⟨by decide, by decide⟩ (fun h58 => ?_) (fun h58 => ?_)
                  ·
                    refine T_some ?_
                    show BoxC o ∧ (Fr [(14, 9999), (23, 4), (24, 9999), (25, 9999), (26, 9999), (27, 9999)] o o)
                    exact ⟨hB_o, fr_o⟩
                  ·
                    unfold b_X11_person_84
                    refine T_qB2 (t_X5_add o x2 x3 x4 hB_o (by omega) (by omega) (by omega) (by omega)) (fun r1 o3 hc_r1 hp59 => ?_)
                    have hp59 : BoxC o3 ∧ (Fr [(23, 4), (24, 9999), (25, 9999), (26, 9999), (27, 9999)] o o3) ∧ (r1 = o.1 23 4) ∧ (o3.1 23 4 = o.1 23 4 + 1) := hp59
                    obtain ⟨hB_o3, fc_o3, hp59⟩ := hp59
                    have fr_o3 : Fr [(14, 9999), (23, 4), (24, 9999), (25, 9999), (26, 9999), (27, 9999)] o o3 := Fr.tr fr_o fc_o3 rfl
                    have g10_12_o3 : o3.1 10 12 = o.1 10 12 := fc_o3.1 10 12 rfl
                    have g23_4_o3 := bC_23_4 hB_o3
                    have hq8 := fc_o3.1 14 x1.toNat rfl
                    refine T_qEq ⟨by omega, by omega⟩ ⟨by decide, by decide⟩ (fun h60 => ?_) (fun h60 => ?_)
                    ·
                      unfold b_X11_person_110
                      refine T_some ?_
                      show BoxC o3 ∧ (Fr [(14, 9999), (23, 4), (24, 9999), (25, 9999), (26, 9999), (27, 9999)] o o3)
                      exact ⟨hB_o3, fr_o3⟩
                    ·
                      refine T_qB (t_X11_settle o3 r1 x1 hB_o3 (by omega) (by omega) (by omega)) (fun o6 hc_o6 hp61 => ?_)
                      have hp61 : BoxC o6 ∧ (Fr [(14, 9999), (24, 9999)] o3 o6) := hp61
                      obtain ⟨hB_o6, fc_o6⟩ := hp61
                      have fr_o6 : Fr [(14, 9999), (23, 4), (24, 9999), (25, 9999), (26, 9999), (27, 9999)] o o6 := Fr.tr fr_o3 fc_o6 rfl
                      have g10_12_o6 : o6.1 10 12 = o3.1 10 12 := fc_o6.1 10 12 rfl
                      have g23_4_o6 : o6.1 23 4 = o3.1 23 4 := fc_o6.1 23 4 rfl
                      unfold b_X11_person_110
                      refine T_some ?_
                      show BoxC o6 ∧ (Fr [(14, 9999), (23, 4), (24, 9999), (25, 9999), (26, 9999), (27, 9999)] o o6)
                      exact ⟨hB_o6, fr_o6⟩
              ·
                refine T_some ?_
                show BoxC o ∧ (Fr [(14, 9999), (23, 4), (24, 9999), (25, 9999), (26, 9999), (27, 9999)] o o)
                exact ⟨hB_o, fr_o⟩
set_option maxRecDepth 20000 in
set_option maxHeartbeats 4000000 in
theorem t_X8_exchange__4 (o : OO) (x1 : Int) (x2 : Int) (x3 : Int) (hB_o : BoxC o) (k0 : 0 ≤ x1 * 40 + x2 ∧ x1 * 40 + x2 < 240) (k1 : inR x3) : T (s_X8_exchange__4 o x1 x2 x3) (fun v => BoxC v.2 ∧ (Fr [(6, 9999)] o v.2) ∧ (inR v.1)) := by
  have fr_o : Fr [(6, 9999)] o o := Fr.rf
  unfold s_X8_exchange__4
  refine T_qIn ⟨by omega, by omega⟩ ?_
  refine T_qNm (fun n2 e_n2 => ?_)
  have b_n2 : -2147483648 ≤ n2 ∧ n2 ≤ 2147483647 := by rw [e_n2]; exact bC_6 hB_o _
  refine T_qIn ⟨by omega, by omega⟩ ?_
  refine T_qNm (fun o4 e_o4 => ?_)
  have hB_o4 : BoxC o4 := by rw [e_o4]; exact Box.s1 hB_o (show -2147483648 ≤ x3 ∧ x3 ≤ 2147483647 from ⟨by omega, by omega⟩)
  have fr_o4 : Fr [(6, 9999)] o o4 := by rw [e_o4]; exact Fr.s1 fr_o rfl
  refine T_some ?_
  show BoxC o4 ∧ (Fr [(6, 9999)] o o4) ∧ (inR n2)
  exact ⟨hB_o4, fr_o4, (by omega)⟩
set_option maxRecDepth 20000 in
set_option maxHeartbeats 4000000 in
theorem t_X11_put (o : OO) (x1 : Int) (x2 : Int) (x3 : Int) (hB_o : BoxC o) (k0 : inR x1) (k1 : inR x2) (k2 : inR x3) : T (s_X11_put o x1 x2 x3) (fun v => BoxC v.2 ∧ (Fr [(0, 17), (6, 9999), (77, 9999)] o v.2)) := by
  have fr_o : Fr [(0, 17), (6, 9999), (77, 9999)] o o := Fr.rf
  have hjb := jb_rng x3
  unfold s_X11_put
  refine T_qB (t_X8_exists__4 o x1 hB_o (by omega)) (fun r1 hc_r1 hp1 => ?_)
  have hp1 : ((r1 = 1 ∧ (0 ≤ x1 ∧ x1 < 4)) ∨ (r1 = 0 ∧ ¬ (0 ≤ x1 ∧ x1 < 4))) := hp1
  refine T_qEq ⟨by omega, by omega⟩ ⟨by decide, by decide⟩ (fun h2 => ?_) (fun h2 => ?_)
  ·
    refine T_some ?_
    show BoxC o ∧ (Fr [(0, 17), (6, 9999), (77, 9999)] o o)
    exact ⟨hB_o, fr_o⟩
  ·
    refine T_qB (t_X8_isThere__4 o x1 hB_o (by omega)) (fun r3 hc_r3 hp3 => ?_)
    have hp3 : ((r3 = 1 ∧ (¬ o.1 5 x1.toNat = -1)) ∨ (r3 = 0 ∧ ¬ (¬ o.1 5 x1.toNat = -1))) := hp3
    refine T_qEq ⟨by omega, by omega⟩ ⟨by decide, by decide⟩ (fun h4 => ?_) (fun h4 => ?_)
    ·
      refine T_qB2 (t_X11_found o 1 hB_o (by omega)) (fun r13 o15 hc_r13 hp5 => ?_)
      have hp5 : BoxC o15 ∧ (Fr [(0, 17), (77, 9999)] o o15) ∧ (r13 = -3) := hp5
      obtain ⟨hB_o15, fc_o15, hp5⟩ := hp5
      have fr_o15 : Fr [(0, 17), (6, 9999), (77, 9999)] o o15 := Fr.tr fr_o fc_o15 rfl
      refine T_some ?_
      show BoxC o15 ∧ (Fr [(0, 17), (6, 9999), (77, 9999)] o o15)
      exact ⟨hB_o15, fr_o15⟩
    ·
      refine T_qB (t_X8_holds o x1 x2 hB_o (by omega) (by omega)) (fun r5 hc_r5 hp6 => ?_)
      have hp6 : ((r5 = 1 ∧ 0 ≤ x2 ∧ x2 < o.1 5 x1.toNat ∧ o.1 5 x1.toNat ≤ 40) ∨ (r5 = 0 ∧ ¬ (0 ≤ x2 ∧ x2 < o.1 5 x1.toNat))) := hp6
      refine T_qEq ⟨by omega, by omega⟩ ⟨by decide, by decide⟩ (fun h7 => ?_) (fun h7 => ?_)
      ·
        refine T_qB2 (t_X11_found o 2 hB_o (by omega)) (fun r10 o12 hc_r10 hp8 => ?_)
        have hp8 : BoxC o12 ∧ (Fr [(0, 17), (77, 9999)] o o12) ∧ (r10 = -3) := hp8
        obtain ⟨hB_o12, fc_o12, hp8⟩ := hp8
        have fr_o12 : Fr [(0, 17), (6, 9999), (77, 9999)] o o12 := Fr.tr fr_o fc_o12 rfl
        refine T_some ?_
        show BoxC o12 ∧ (Fr [(0, 17), (6, 9999), (77, 9999)] o o12)
        exact ⟨hB_o12, fr_o12⟩
      ·
        refine T_qB2 (t_X8_exchange__4 o x1 x2 (jb x3) hB_o (by omega) (by omega)) (fun r7 o9 hc_r7 hp9 => ?_)
        have hp9 : BoxC o9 ∧ (Fr [(6, 9999)] o o9) ∧ (inR r7) := hp9
        obtain ⟨hB_o9, fc_o9, hp9⟩ := hp9
        have fr_o9 : Fr [(0, 17), (6, 9999), (77, 9999)] o o9 := Fr.tr fr_o fc_o9 rfl
        refine T_some ?_
        show BoxC o9 ∧ (Fr [(0, 17), (6, 9999), (77, 9999)] o o9)
        exact ⟨hB_o9, fr_o9⟩
set_option maxRecDepth 20000 in
set_option maxHeartbeats 4000000 in
theorem t_X4_routeOf (o : OO) (x1 : Int) (x2 : Int) (hB_o : BoxC o) (k0 : 0 ≤ x1 ∧ x1 ≤ 23) (k1 : 0 ≤ x2 ∧ x2 ≤ 63) : T (s_X4_routeOf o x1 x2) (fun v => BoxC v ∧ (Fr [(36, 9999), (37, 9999), (38, 9999)] o v)) := by
  have fr_o : Fr [(36, 9999), (37, 9999), (38, 9999)] o o := Fr.rf
  unfold s_X4_routeOf
  refine T_qIn ⟨by omega, by omega⟩ ?_
  refine T_qNm (fun o2 e_o2 => ?_)
  have hB_o2 : BoxC o2 := by rw [e_o2]; exact Box.s1 hB_o (show 0 ≤ 1 ∧ 1 ≤ 64 from ⟨by omega, by omega⟩)
  have fr_o2 : Fr [(36, 9999), (37, 9999), (38, 9999)] o o2 := by rw [e_o2]; exact Fr.s1 fr_o rfl
  refine T_qIn ⟨by omega, by omega⟩ ?_
  refine T_qNm (fun o4 e_o4 => ?_)
  have hB_o4 : BoxC o4 := by rw [e_o4]; exact Box.s1 hB_o2 (show 0 ≤ x2 ∧ x2 ≤ 63 from ⟨by omega, by omega⟩)
  have fr_o4 : Fr [(36, 9999), (37, 9999), (38, 9999)] o o4 := by rw [e_o4]; exact Fr.s1 fr_o2 rfl
  refine T_qB (t_X3_bit x2) (fun p5 hc_p5 hp1 => ?_)
  refine T_qIn ⟨by omega, by omega⟩ ?_
  refine T_qNm (fun o8 e_o8 => ?_)
  have hB_o8 : BoxC o8 := by rw [e_o8]; exact Box.s2 hB_o4
  have fr_o8 : Fr [(36, 9999), (37, 9999), (38, 9999)] o o8 := by rw [e_o8]; exact Fr.s2 fr_o4 rfl
  refine T_some ?_
  show BoxC o8 ∧ (Fr [(36, 9999), (37, 9999), (38, 9999)] o o8)
  exact ⟨hB_o8, fr_o8⟩
set_option maxRecDepth 20000 in
set_option maxHeartbeats 4000000 in
theorem t_X11_ramp (o : OO) (x1 : Int) (x2 : Int) (hB_o : BoxC o) (k0 : inR x1) (k1 : inR x2) : T (s_X11_ramp o x1 x2) (fun v => BoxC v.2 ∧ (Fr [(0, 17), (32, 13), (33, 9999), (34, 9999), (35, 9999), (36, 9999), (37, 9999), (38, 9999), (40, 9999), (77, 9999)] o v.2)) := by
  have fr_o : Fr [(0, 17), (32, 13), (33, 9999), (34, 9999), (35, 9999), (36, 9999), (37, 9999), (38, 9999), (40, 9999), (77, 9999)] o o := Fr.rf
  have g0_13_o := bC_0_13 hB_o
  have g32_13_o := bC_32_13 hB_o
  unfold s_X11_ramp
  refine T_qB (t_X4_exists o x1 hB_o (by omega)) (fun r9 hc_r9 hp1 => ?_)
  have hp1 : ((r9 = 1 ∧ (0 ≤ x1 ∧ x1 < o.1 32 13)) ∨ (r9 = 0 ∧ ¬ (0 ≤ x1 ∧ x1 < o.1 32 13))) := hp1
  refine T_qEq ⟨by omega, by omega⟩ ⟨by decide, by decide⟩ (fun h2 => ?_) (fun h2 => ?_)
  ·
    unfold b_X11_ramp_18
    refine T_some ?_
    show BoxC o ∧ (Fr [(0, 17), (32, 13), (33, 9999), (34, 9999), (35, 9999), (36, 9999), (37, 9999), (38, 9999), (40, 9999), (77, 9999)] o o)
    exact ⟨hB_o, fr_o⟩
  ·
    refine T_qB (t_X3_isCell x2 (by omega)) (fun r11 hc_r11 hp3 => ?_)
    have hp3 : ((r11 = 1 ∧ (0 ≤ x2 ∧ x2 < 64)) ∨ (r11 = 0 ∧ ¬ (0 ≤ x2 ∧ x2 < 64))) := hp3
    refine T_qEq ⟨by omega, by omega⟩ ⟨by decide, by decide⟩ (fun h4 => ?_) (fun h4 => ?_)
    ·
      unfold b_X11_ramp_18
      refine T_some ?_
      show BoxC o ∧ (Fr [(0, 17), (32, 13), (33, 9999), (34, 9999), (35, 9999), (36, 9999), (37, 9999), (38, 9999), (40, 9999), (77, 9999)] o o)
      exact ⟨hB_o, fr_o⟩
    ·
      refine T_qB (t_X4_number o hB_o) (fun r13 hc_r13 hp5 => ?_)
      have hp5 : (r13 = o.1 32 13) := hp5
      refine T_qLt ⟨by omega, by omega⟩ ⟨by decide, by decide⟩ (fun h6 => ?_) (fun h6 => ?_)
      ·
        refine T_qB (t_X4_isOf o x1 1 hB_o (by omega) (by omega)) (fun r15 hc_r15 hp7 => ?_)
        have hp7 : (0 ≤ r15 ∧ r15 ≤ 1) := hp7
        refine T_qEq ⟨by omega, by omega⟩ ⟨by decide, by decide⟩ (fun h8 => ?_) (fun h8 => ?_)
        ·
          refine T_qB2 (t_X11_found o 3 hB_o (by omega)) (fun r25 o27 hc_r25 hp9 => ?_)
          have hp9 : BoxC o27 ∧ (Fr [(0, 17), (77, 9999)] o o27) ∧ (r25 = -3) := hp9
          obtain ⟨hB_o27, fc_o27, hp9⟩ := hp9
          have fr_o27 : Fr [(0, 17), (32, 13), (33, 9999), (34, 9999), (35, 9999), (36, 9999), (37, 9999), (38, 9999), (40, 9999), (77, 9999)] o o27 := Fr.tr fr_o fc_o27 rfl
          have g0_13_o27 : o27.1 0 13 = o.1 0 13 := fc_o27.1 0 13 rfl
          have g32_13_o27 : o27.1 32 13 = o.1 32 13 := fc_o27.1 32 13 rfl
          refine T_some ?_
          show BoxC o27 ∧ (Fr [(0, 17), (32, 13), (33, 9999), (34, 9999), (35, 9999), (36, 9999), (37, 9999), (38, 9999), (40, 9999), (77, 9999)] o o27)
          exact ⟨hB_o27, fr_o27⟩
        ·
          refine T_qB (t_X4_cells o x1 hB_o (by omega)) (fun p17 hc_p17 hp10 => ?_)
          refine T_qB (t_X3_spread p17) (fun p19 hc_p19 hp11 => ?_)
          refine T_qB (t_X3_has p19 x2) (fun r21 hc_r21 hp12 => ?_)
          have hp12 : (0 ≤ r21 ∧ r21 ≤ 1) := hp12
          refine T_qEq ⟨by omega, by omega⟩ ⟨by decide, by decide⟩ (fun h13 => ?_) (fun h13 => ?_)
          ·
            unfold b_X11_ramp_85
            unfold b_X11_ramp_86
            refine T_qB (t_X3_isWater o x2 hB_o (by omega)) (fun r1 hc_r1 hp14 => ?_)
            have hp14 : ((r1 = 1 ∧ (o.1 8 x2.toNat = 4)) ∨ (r1 = 0 ∧ ¬ (o.1 8 x2.toNat = 4))) := hp14
            refine T_qEq ⟨by omega, by omega⟩ ⟨by decide, by decide⟩ (fun h15 => ?_) (fun h15 => ?_)
            ·
              refine T_qEq ⟨by decide, by decide⟩ ⟨by decide, by decide⟩ (fun h16 => ?_) (fun h16 => ?_)
              ·
                unfold b_X11_ramp_104
                refine T_some ?_
                show BoxC o ∧ (Fr [(0, 17), (32, 13), (33, 9999), (34, 9999), (35, 9999), (36, 9999), (37, 9999), (38, 9999), (40, 9999), (77, 9999)] o o)
                exact ⟨hB_o, fr_o⟩
              ·
                refine T_qB2 (t_X4_add o 2 (o.1 0 13) x1 hB_o (by omega) (by omega) (by omega) (by omega)) (fun r3 o5 hc_r3 hp17 => ?_)
                have hp17 : BoxC o5 ∧ (Fr [(32, 13), (33, 9999), (34, 9999), (35, 9999), (40, 9999)] o o5) ∧ (r3 = o.1 32 13) ∧ (o5.1 32 13 = o.1 32 13 + 1) := hp17
                obtain ⟨hB_o5, fc_o5, hp17⟩ := hp17
                have fr_o5 : Fr [(0, 17), (32, 13), (33, 9999), (34, 9999), (35, 9999), (36, 9999), (37, 9999), (38, 9999), (40, 9999), (77, 9999)] o o5 := Fr.tr fr_o fc_o5 rfl
                have g0_13_o5 : o5.1 0 13 = o.1 0 13 := fc_o5.1 0 13 rfl
                have g32_13_o5 := bC_32_13 hB_o5
                refine T_qB (t_X4_routeOf o5 r3 x2 hB_o5 (by omega) (by omega)) (fun o8 hc_o8 hp18 => ?_)
                have hp18 : BoxC o8 ∧ (Fr [(36, 9999), (37, 9999), (38, 9999)] o5 o8) := hp18
                obtain ⟨hB_o8, fc_o8⟩ := hp18
                have fr_o8 : Fr [(0, 17), (32, 13), (33, 9999), (34, 9999), (35, 9999), (36, 9999), (37, 9999), (38, 9999), (40, 9999), (77, 9999)] o o8 := Fr.tr fr_o5 fc_o8 rfl
                have g0_13_o8 : o8.1 0 13 = o5.1 0 13 := fc_o8.1 0 13 rfl
                have g32_13_o8 : o8.1 32 13 = o5.1 32 13 := fc_o8.1 32 13 rfl
                refine T_some ?_
                show BoxC o8 ∧ (Fr [(0, 17), (32, 13), (33, 9999), (34, 9999), (35, 9999), (36, 9999), (37, 9999), (38, 9999), (40, 9999), (77, 9999)] o o8)
                exact ⟨hB_o8, fr_o8⟩
            ·
              unfold b_X11_ramp_104
              refine T_some ?_
              show BoxC o ∧ (Fr [(0, 17), (32, 13), (33, 9999), (34, 9999), (35, 9999), (36, 9999), (37, 9999), (38, 9999), (40, 9999), (77, 9999)] o o)
              exact ⟨hB_o, fr_o⟩
          ·
            refine T_qB (t_X3_has p17 x2) (fun r23 hc_r23 hp19 => ?_)
            have hp19 : (0 ≤ r23 ∧ r23 ≤ 1) := hp19
            refine T_qEq ⟨by omega, by omega⟩ ⟨by decide, by decide⟩ (fun h20 => ?_) (fun h20 => ?_)
            ·
              unfold b_X11_ramp_86
              refine T_qB (t_X3_isWater o x2 hB_o (by omega)) (fun r1 hc_r1 hp21 => ?_)
              have hp21 : ((r1 = 1 ∧ (o.1 8 x2.toNat = 4)) ∨ (r1 = 0 ∧ ¬ (o.1 8 x2.toNat = 4))) := hp21
              refine T_qEq ⟨by omega, by omega⟩ ⟨by decide, by decide⟩ (fun h22 => ?_) (fun h22 => ?_)
              ·
                refine T_qEq ⟨by decide, by decide⟩ ⟨by decide, by decide⟩ (fun h23 => ?_) (fun h23 => ?_)
                ·
                  unfold b_X11_ramp_104
                  refine T_some ?_
                  show BoxC o ∧ (Fr [(0, 17), (32, 13), (33, 9999), (34, 9999), (35, 9999), (36, 9999), (37, 9999), (38, 9999), (40, 9999), (77, 9999)] o o)
                  exact ⟨hB_o, fr_o⟩
                ·
                  refine T_qB2 (t_X4_add o 2 (o.1 0 13) x1 hB_o (by omega) (by omega) (by omega) (by omega)) (fun r3 o5 hc_r3 hp24 => ?_)
                  have hp24 : BoxC o5 ∧ (Fr [(32, 13), (33, 9999), (34, 9999), (35, 9999), (40, 9999)] o o5) ∧ (r3 = o.1 32 13) ∧ (o5.1 32 13 = o.1 32 13 + 1) := hp24
                  obtain ⟨hB_o5, fc_o5, hp24⟩ := hp24
                  have fr_o5 : Fr [(0, 17), (32, 13), (33, 9999), (34, 9999), (35, 9999), (36, 9999), (37, 9999), (38, 9999), (40, 9999), (77, 9999)] o o5 := Fr.tr fr_o fc_o5 rfl
                  have g0_13_o5 : o5.1 0 13 = o.1 0 13 := fc_o5.1 0 13 rfl
                  have g32_13_o5 := bC_32_13 hB_o5
                  refine T_qB (t_X4_routeOf o5 r3 x2 hB_o5 (by omega) (by omega)) (fun o8 hc_o8 hp25 => ?_)
                  have hp25 : BoxC o8 ∧ (Fr [(36, 9999), (37, 9999), (38, 9999)] o5 o8) := hp25
                  obtain ⟨hB_o8, fc_o8⟩ := hp25
                  have fr_o8 : Fr [(0, 17), (32, 13), (33, 9999), (34, 9999), (35, 9999), (36, 9999), (37, 9999), (38, 9999), (40, 9999), (77, 9999)] o o8 := Fr.tr fr_o5 fc_o8 rfl
                  have g0_13_o8 : o8.1 0 13 = o5.1 0 13 := fc_o8.1 0 13 rfl
                  have g32_13_o8 : o8.1 32 13 = o5.1 32 13 := fc_o8.1 32 13 rfl
                  refine T_some ?_
                  show BoxC o8 ∧ (Fr [(0, 17), (32, 13), (33, 9999), (34, 9999), (35, 9999), (36, 9999), (37, 9999), (38, 9999), (40, 9999), (77, 9999)] o o8)
                  exact ⟨hB_o8, fr_o8⟩
              ·
                unfold b_X11_ramp_104
                refine T_some ?_
                show BoxC o ∧ (Fr [(0, 17), (32, 13), (33, 9999), (34, 9999), (35, 9999), (36, 9999), (37, 9999), (38, 9999), (40, 9999), (77, 9999)] o o)
                exact ⟨hB_o, fr_o⟩
            ·
              unfold b_X11_ramp_85
              unfold b_X11_ramp_86
              refine T_qB (t_X3_isWater o x2 hB_o (by omega)) (fun r1 hc_r1 hp26 => ?_)
              have hp26 : ((r1 = 1 ∧ (o.1 8 x2.toNat = 4)) ∨ (r1 = 0 ∧ ¬ (o.1 8 x2.toNat = 4))) := hp26
              refine T_qEq ⟨by omega, by omega⟩ ⟨by decide, by decide⟩ (fun h27 => ?_) (fun h27 => ?_)
              ·
                refine T_qEq ⟨by decide, by decide⟩ ⟨by decide, by decide⟩ (fun h28 => ?_) (fun h28 => ?_)
                ·
                  unfold b_X11_ramp_104
                  refine T_some ?_
                  show BoxC o ∧ (Fr [(0, 17), (32, 13), (33, 9999), (34, 9999), (35, 9999), (36, 9999), (37, 9999), (38, 9999), (40, 9999), (77, 9999)] o o)
                  exact ⟨hB_o, fr_o⟩
                ·
                  refine T_qB2 (t_X4_add o 2 (o.1 0 13) x1 hB_o (by omega) (by omega) (by omega) (by omega)) (fun r3 o5 hc_r3 hp29 => ?_)
                  have hp29 : BoxC o5 ∧ (Fr [(32, 13), (33, 9999), (34, 9999), (35, 9999), (40, 9999)] o o5) ∧ (r3 = o.1 32 13) ∧ (o5.1 32 13 = o.1 32 13 + 1) := hp29
                  obtain ⟨hB_o5, fc_o5, hp29⟩ := hp29
                  have fr_o5 : Fr [(0, 17), (32, 13), (33, 9999), (34, 9999), (35, 9999), (36, 9999), (37, 9999), (38, 9999), (40, 9999), (77, 9999)] o o5 := Fr.tr fr_o fc_o5 rfl
                  have g0_13_o5 : o5.1 0 13 = o.1 0 13 := fc_o5.1 0 13 rfl
                  have g32_13_o5 := bC_32_13 hB_o5
                  refine T_qB (t_X4_routeOf o5 r3 x2 hB_o5 (by omega) (by omega)) (fun o8 hc_o8 hp30 => ?_)
                  have hp30 : BoxC o8 ∧ (Fr [(36, 9999), (37, 9999), (38, 9999)] o5 o8) := hp30
                  obtain ⟨hB_o8, fc_o8⟩ := hp30
                  have fr_o8 : Fr [(0, 17), (32, 13), (33, 9999), (34, 9999), (35, 9999), (36, 9999), (37, 9999), (38, 9999), (40, 9999), (77, 9999)] o o8 := Fr.tr fr_o5 fc_o8 rfl
                  have g0_13_o8 : o8.1 0 13 = o5.1 0 13 := fc_o8.1 0 13 rfl
                  have g32_13_o8 : o8.1 32 13 = o5.1 32 13 := fc_o8.1 32 13 rfl
                  refine T_some ?_
                  show BoxC o8 ∧ (Fr [(0, 17), (32, 13), (33, 9999), (34, 9999), (35, 9999), (36, 9999), (37, 9999), (38, 9999), (40, 9999), (77, 9999)] o o8)
                  exact ⟨hB_o8, fr_o8⟩
              ·
                unfold b_X11_ramp_104
                refine T_some ?_
                show BoxC o ∧ (Fr [(0, 17), (32, 13), (33, 9999), (34, 9999), (35, 9999), (36, 9999), (37, 9999), (38, 9999), (40, 9999), (77, 9999)] o o)
                exact ⟨hB_o, fr_o⟩
      ·
        refine T_some ?_
        show BoxC o ∧ (Fr [(0, 17), (32, 13), (33, 9999), (34, 9999), (35, 9999), (36, 9999), (37, 9999), (38, 9999), (40, 9999), (77, 9999)] o o)
        exact ⟨hB_o, fr_o⟩
set_option maxRecDepth 20000 in
set_option maxHeartbeats 4000000 in
theorem t_J7_rangeCheck_23922 (x0 : Int) (x1 : Int) (x2 : Int) (k0 : 0 ≤ x1 ∧ x1 ≤ x2) (k1 : x2 ≤ x0) (k2 : x0 ≤ 10000) : T (s_J7_rangeCheck_23922 x0 x1 x2) (fun _ => True) := by
  unfold s_J7_rangeCheck_23922
  refine T_qLt ⟨by omega, by omega⟩ ⟨by omega, by omega⟩ (fun h1 => ?_) (fun h1 => ?_)
  ·
    exfalso
    omega
  ·
    refine T_qLt ⟨by omega, by omega⟩ ⟨by decide, by decide⟩ (fun h2 => ?_) (fun h2 => ?_)
    ·
      exfalso
      omega
    ·
      refine T_qLt ⟨by omega, by omega⟩ ⟨by omega, by omega⟩ (fun h3 => ?_) (fun h3 => ?_)
      ·
        exfalso
        omega
      ·
        refine T_some ?_
        show True
        exact trivial
set_option maxRecDepth 20000 in
set_option maxHeartbeats 4000000 in
theorem tl_J7_fill_fda19_10 (x2 : Int) (x3 : Int) (i_o : OO) (i_x4 : Int) (hB_i_o : BoxC i_o) (k0 : 0 ≤ x2 ∧ x2 ≤ 240) (k1 : -2147483648 ≤ x3 ∧ x3 ≤ 2147483647) (v0 : 0 ≤ i_x4 ∧ i_x4 ≤ 240) : T (loopW (fun s => l_J7_fill_fda19_10 x2 x3 s.1 s.2) (i_o, i_x4)) (fun r => BoxC r ∧ (Fr [(3, 9999)] i_o r)) := by
  have fr_i_o : Fr [(3, 9999)] i_o i_o := Fr.rf
  refine T_loop (fun s => BoxC s.1 ∧ (Fr [(3, 9999)] i_o s.1) ∧ (0 ≤ s.2 ∧ s.2 ≤ 240)) (fun s => (240 - s.2).toNat) ⟨hB_i_o, fr_i_o, v0⟩ (fun s hs => ?_)
  obtain ⟨o, x4⟩ := s
  have hs : BoxC o ∧ (Fr [(3, 9999)] i_o o) ∧ (0 ≤ x4 ∧ x4 ≤ 240) := hs
  obtain ⟨hB_o, fr_o, w0⟩ := hs
  show T (l_J7_fill_fda19_10 x2 x3 o x4) _
  unfold l_J7_fill_fda19_10
  refine T_qLt ⟨by omega, by omega⟩ ⟨by omega, by omega⟩ (fun h1 => ?_) (fun h1 => ?_)
  ·
    refine T_qIn ⟨by omega, by omega⟩ ?_
    refine T_qNm (fun o2 e_o2 => ?_)
    have hB_o2 : BoxC o2 := by rw [e_o2]; exact Box.s1 hB_o (show -2147483648 ≤ x3 ∧ x3 ≤ 2147483647 from ⟨by omega, by omega⟩)
    have fr_o2 : Fr [(3, 9999)] i_o o2 := by rw [e_o2]; exact Fr.s1 fr_o rfl
    refine T_some ?_
    show (BoxC o2 ∧ (Fr [(3, 9999)] i_o o2) ∧ (0 ≤ (x4 + 1) ∧ (x4 + 1) ≤ 240)) ∧ (240 - (x4 + 1)).toNat < (240 - x4).toNat
    exact ⟨⟨hB_o2, fr_o2, (by omega)⟩, by omega⟩
  ·
    refine T_some ?_
    show BoxC o ∧ (Fr [(3, 9999)] i_o o)
    exact ⟨hB_o, fr_o⟩
set_option maxRecDepth 20000 in
set_option maxHeartbeats 4000000 in
theorem t_J7_fill_fda19 (o : OO) (x1 : Int) (x2 : Int) (x3 : Int) (hB_o : BoxC o) (k0 : 0 ≤ x1 ∧ x1 ≤ x2) (k1 : x2 ≤ 240) (k2 : -2147483648 ≤ x3 ∧ x3 ≤ 2147483647) : T (s_J7_fill_fda19 o x1 x2 x3) (fun v => BoxC v ∧ (Fr [(3, 9999)] o v)) := by
  have fr_o : Fr [(3, 9999)] o o := Fr.rf
  unfold s_J7_fill_fda19
  refine T_qB (t_J7_rangeCheck_23922 240 x1 x2 (by omega) (by omega) (by omega)) (fun u2 hc_u2 hp3 => ?_)
  unfold e_J7_fill_fda19_10
  refine T_qB (tl_J7_fill_fda19_10 x2 x3 o x1 hB_o (by omega) (by omega) (by omega)) (fun r4 hc_r4 hp5 => ?_)
  obtain ⟨o_6, q_o_6⟩ : ∃ q, q = r4 := ⟨_, rfl⟩
  subst q_o_6
  have hp5 : BoxC o_6 ∧ (Fr [(3, 9999)] o o_6) := hp5
  have hps_hp5 := hp5
  obtain ⟨hp5_0, hp5_1⟩ := hps_hp5
  obtain ⟨hB_o_6, fc_o_6⟩ := hp5
  have fr_o_6 : Fr [(3, 9999)] o o_6 := Fr.tr fr_o fc_o_6 rfl
  show T (b_J7_fill_fda19_27 o_6) _
  unfold b_J7_fill_fda19_27
  refine T_some ?_
  show BoxC o_6 ∧ (Fr [(3, 9999)] o o_6)
  exact ⟨hB_o_6, fr_o_6⟩
set_option maxRecDepth 20000 in
set_option maxHeartbeats 4000000 in
theorem t_X8_layOut (o : OO) (x1 : Int) (x2 : Int) (hB_o : BoxC o) (k0 : 0 ≤ x1 ∧ x1 ≤ 5) (k1 : 0 ≤ x2 ∧ x2 ≤ 40) : T (s_X8_layOut o x1 x2) (fun v => BoxC v ∧ (Fr [(2, 9999), (3, 9999)] o v)) := by
  have fr_o : Fr [(2, 9999), (3, 9999)] o o := Fr.rf
  have g1_1_o := bC_1_1 hB_o
  unfold s_X8_layOut
  refine T_qIn ⟨by omega, by omega⟩ ?_
  refine T_qNm (fun o2 e_o2 => ?_)
  have hB_o2 : BoxC o2 := by rw [e_o2]; exact Box.s1 hB_o (show -1 ≤ x2 ∧ x2 ≤ 40 from ⟨by omega, by omega⟩)
  have fr_o2 : Fr [(2, 9999), (3, 9999)] o o2 := by rw [e_o2]; exact Fr.s1 fr_o rfl
  have g1_1_o2 : o2.1 1 1 = o.1 1 1 := by rw [e_o2]; rfl
  refine T_qB (t_J7_fill_fda19 o2 (x1 * 40) ((x1 * 40) + x2) (o2.1 1 1) hB_o2 (by omega) (by omega) (by omega)) (fun o5 hc_o5 hp1 => ?_)
  have hp1 : BoxC o5 ∧ (Fr [(3, 9999)] o2 o5) := hp1
  obtain ⟨hB_o5, fc_o5⟩ := hp1
  have fr_o5 : Fr [(2, 9999), (3, 9999)] o o5 := Fr.tr fr_o2 fc_o5 rfl
  have g1_1_o5 : o5.1 1 1 = o2.1 1 1 := fc_o5.1 1 1 rfl
  refine T_some ?_
  show BoxC o5 ∧ (Fr [(2, 9999), (3, 9999)] o o5)
  exact ⟨hB_o5, fr_o5⟩
set_option maxRecDepth 20000 in
set_option maxHeartbeats 4000000 in
theorem t_X11_row (o : OO) (x1 : Int) (x2 : Int) (hB_o : BoxC o) (k0 : inR x1) (k1 : inR x2) : T (s_X11_row o x1 x2) (fun v => BoxC v.2 ∧ (Fr [(0, 17), (2, 9999), (3, 9999), (77, 9999)] o v.2)) := by
  have fr_o : Fr [(0, 17), (2, 9999), (3, 9999), (77, 9999)] o o := Fr.rf
  unfold s_X11_row
  refine T_qB (t_X8_exists o x1 hB_o (by omega)) (fun r1 hc_r1 hp1 => ?_)
  have hp1 : ((r1 = 1 ∧ (0 ≤ x1 ∧ x1 < 6)) ∨ (r1 = 0 ∧ ¬ (0 ≤ x1 ∧ x1 < 6))) := hp1
  refine T_qEq ⟨by omega, by omega⟩ ⟨by decide, by decide⟩ (fun h2 => ?_) (fun h2 => ?_)
  ·
    unfold b_X11_row_17
    refine T_some ?_
    show BoxC o ∧ (Fr [(0, 17), (2, 9999), (3, 9999), (77, 9999)] o o)
    exact ⟨hB_o, fr_o⟩
  ·
    refine T_qLt ⟨by decide, by decide⟩ ⟨by omega, by omega⟩ (fun h3 => ?_) (fun h3 => ?_)
    ·
      unfold b_X11_row_17
      refine T_some ?_
      show BoxC o ∧ (Fr [(0, 17), (2, 9999), (3, 9999), (77, 9999)] o o)
      exact ⟨hB_o, fr_o⟩
    ·
      refine T_qLt ⟨by omega, by omega⟩ ⟨by decide, by decide⟩ (fun h4 => ?_) (fun h4 => ?_)
      ·
        refine T_qB2 (t_X11_found o 5 hB_o (by omega)) (fun r6 o8 hc_r6 hp5 => ?_)
        have hp5 : BoxC o8 ∧ (Fr [(0, 17), (77, 9999)] o o8) ∧ (r6 = -3) := hp5
        obtain ⟨hB_o8, fc_o8, hp5⟩ := hp5
        have fr_o8 : Fr [(0, 17), (2, 9999), (3, 9999), (77, 9999)] o o8 := Fr.tr fr_o fc_o8 rfl
        refine T_some ?_
        show BoxC o8 ∧ (Fr [(0, 17), (2, 9999), (3, 9999), (77, 9999)] o o8)
        exact ⟨hB_o8, fr_o8⟩
      ·
        refine T_qB (t_X8_layOut o x1 x2 hB_o (by omega) (by omega)) (fun o5 hc_o5 hp6 => ?_)
        have hp6 : BoxC o5 ∧ (Fr [(2, 9999), (3, 9999)] o o5) := hp6
        obtain ⟨hB_o5, fc_o5⟩ := hp6
        have fr_o5 : Fr [(0, 17), (2, 9999), (3, 9999), (77, 9999)] o o5 := Fr.tr fr_o fc_o5 rfl
        refine T_some ?_
        show BoxC o5 ∧ (Fr [(0, 17), (2, 9999), (3, 9999), (77, 9999)] o o5)
        exact ⟨hB_o5, fr_o5⟩
set_option maxRecDepth 20000 in
set_option maxHeartbeats 4000000 in
theorem tl_J7_fill_fda19__31_10 (x2 : Int) (x3 : Int) (i_o : OO) (i_x4 : Int) (hB_i_o : BoxC i_o) (k0 : 0 ≤ x2 ∧ x2 ≤ 128) (k1 : -1 ≤ x3 ∧ x3 ≤ 9999) (v0 : 0 ≤ i_x4 ∧ i_x4 ≤ 128) : T (loopW (fun s => l_J7_fill_fda19__31_10 x2 x3 s.1 s.2) (i_o, i_x4)) (fun r => BoxC r ∧ (Fr [(31, 9999)] i_o r)) := by
  have fr_i_o : Fr [(31, 9999)] i_o i_o := Fr.rf
  refine T_loop (fun s => BoxC s.1 ∧ (Fr [(31, 9999)] i_o s.1) ∧ (0 ≤ s.2 ∧ s.2 ≤ 128)) (fun s => (128 - s.2).toNat) ⟨hB_i_o, fr_i_o, v0⟩ (fun s hs => ?_)
  obtain ⟨o, x4⟩ := s
  have hs : BoxC o ∧ (Fr [(31, 9999)] i_o o) ∧ (0 ≤ x4 ∧ x4 ≤ 128) := hs
  obtain ⟨hB_o, fr_o, w0⟩ := hs
  show T (l_J7_fill_fda19__31_10 x2 x3 o x4) _
  unfold l_J7_fill_fda19__31_10
  refine T_qLt ⟨by omega, by omega⟩ ⟨by omega, by omega⟩ (fun h1 => ?_) (fun h1 => ?_)
  ·
    refine T_qIn ⟨by omega, by omega⟩ ?_
    refine T_qNm (fun o2 e_o2 => ?_)
    have hB_o2 : BoxC o2 := by rw [e_o2]; exact Box.s1 hB_o (show -1 ≤ x3 ∧ x3 ≤ 9999 from ⟨by omega, by omega⟩)
    have fr_o2 : Fr [(31, 9999)] i_o o2 := by rw [e_o2]; exact Fr.s1 fr_o rfl
    refine T_some ?_
    show (BoxC o2 ∧ (Fr [(31, 9999)] i_o o2) ∧ (0 ≤ (x4 + 1) ∧ (x4 + 1) ≤ 128)) ∧ (128 - (x4 + 1)).toNat < (128 - x4).toNat
    exact ⟨⟨hB_o2, fr_o2, (by omega)⟩, by omega⟩
  ·
    refine T_some ?_
    show BoxC o ∧ (Fr [(31, 9999)] i_o o)
    exact ⟨hB_o, fr_o⟩
set_option maxRecDepth 20000 in
set_option maxHeartbeats 4000000 in
theorem t_J7_fill_fda19__31 (o : OO) (x1 : Int) (x2 : Int) (x3 : Int) (hB_o : BoxC o) (k0 : 0 ≤ x1 ∧ x1 ≤ x2) (k1 : x2 ≤ 128) (k2 : -1 ≤ x3 ∧ x3 ≤ 9999) : T (s_J7_fill_fda19__31 o x1 x2 x3) (fun v => BoxC v ∧ (Fr [(31, 9999)] o v)) := by
  have fr_o : Fr [(31, 9999)] o o := Fr.rf
  unfold s_J7_fill_fda19__31
  refine T_qB (t_J7_rangeCheck_23922 128 x1 x2 (by omega) (by omega) (by omega)) (fun u2 hc_u2 hp3 => ?_)
  unfold e_J7_fill_fda19__31_10
  refine T_qB (tl_J7_fill_fda19__31_10 x2 x3 o x1 hB_o (by omega) (by omega) (by omega)) (fun r4 hc_r4 hp5 => ?_)
  obtain ⟨o_6, q_o_6⟩ : ∃ q, q = r4 := ⟨_, rfl⟩
  subst q_o_6
  have hp5 : BoxC o_6 ∧ (Fr [(31, 9999)] o o_6) := hp5
  have hps_hp5 := hp5
  obtain ⟨hp5_0, hp5_1⟩ := hps_hp5
  obtain ⟨hB_o_6, fc_o_6⟩ := hp5
  have fr_o_6 : Fr [(31, 9999)] o o_6 := Fr.tr fr_o fc_o_6 rfl
  show T (b_J7_fill_fda19__31_27 o_6) _
  unfold b_J7_fill_fda19__31_27
  refine T_some ?_
  show BoxC o_6 ∧ (Fr [(31, 9999)] o o_6)
  exact ⟨hB_o_6, fr_o_6⟩
set_option maxRecDepth 20000 in
set_option maxHeartbeats 4000000 in
theorem tl_X7_numberAt_6 (o : OO) (x1 : Int) (x2 : Int) (x3 : Int) (i_x4 : Int) (i_x5 : Int) (hB_o : BoxC o) (k0 : 0 ≤ x1 ∧ x1 ≤ 5) (k1 : 0 ≤ x2 ∧ x2 ≤ 100) (k2 : 0 ≤ x3 ∧ x3 ≤ 4) (k3 : x3 = 0 ∨ x2 + x3 ≤ 40) (k4 : ∀ k : Int, x2 ≤ k → k < x2 + x3 → 48 ≤ o.1 6 (x1 * 40 + k).toNat ∧ o.1 6 (x1 * 40 + k).toNat ≤ 57) (v0 : x2 ≤ i_x5 ∧ i_x5 ≤ x2 + x3) (v1 : 0 ≤ i_x4) (v2 : i_x5 = x2 ∧ i_x4 = 0 ∨ i_x5 = x2 + 1 ∧ i_x4 ≤ 9 ∨ i_x5 = x2 + 2 ∧ i_x4 ≤ 99 ∨ i_x5 = x2 + 3 ∧ i_x4 ≤ 999 ∨ i_x5 = x2 + 4 ∧ i_x4 ≤ 9999) : T (loopW (fun s => l_X7_numberAt_6 o x1 x2 x3 s.1 s.2) (i_x4, i_x5)) (fun r => (0 ≤ r ∧ r ≤ 9999)) := by
  refine T_loop (fun s => (x2 ≤ s.2 ∧ s.2 ≤ x2 + x3) ∧ (0 ≤ s.1) ∧ (s.2 = x2 ∧ s.1 = 0 ∨ s.2 = x2 + 1 ∧ s.1 ≤ 9 ∨ s.2 = x2 + 2 ∧ s.1 ≤ 99 ∨ s.2 = x2 + 3 ∧ s.1 ≤ 999 ∨ s.2 = x2 + 4 ∧ s.1 ≤ 9999)) (fun s => (x2 + x3 - s.2).toNat) ⟨v0, v1, v2⟩ (fun s hs => ?_)
  obtain ⟨x4, x5⟩ := s
  have hs : (x2 ≤ x5 ∧ x5 ≤ x2 + x3) ∧ (0 ≤ x4) ∧ (x5 = x2 ∧ x4 = 0 ∨ x5 = x2 + 1 ∧ x4 ≤ 9 ∨ x5 = x2 + 2 ∧ x4 ≤ 99 ∨ x5 = x2 + 3 ∧ x4 ≤ 999 ∨ x5 = x2 + 4 ∧ x4 ≤ 9999) := hs
  obtain ⟨w0, w1, w2⟩ := hs
  show T (l_X7_numberAt_6 o x1 x2 x3 x4 x5) _
  unfold l_X7_numberAt_6
  refine T_qLt ⟨by omega, by omega⟩ ⟨by omega, by omega⟩ (fun h1 => ?_) (fun h1 => ?_)
  ·
    refine T_qB (t_X8_at__4 o x1 x5 hB_o (by omega)) (fun r1 hc_r1 hp2 => ?_)
    have hp2 : (r1 = o.1 6 (x1 * 40 + x5).toNat) ∧ (inR r1) := hp2
    have hps_hp2 := hp2
    obtain ⟨hp2_0, hp2_1⟩ := hps_hp2
    have hq1 := k4 x5 (by omega) (by omega)
    refine T_qNm (fun n3 e_n3 => ?_)
    refine T_some ?_
    show ((x2 ≤ (x5 + 1) ∧ (x5 + 1) ≤ x2 + x3) ∧ (0 ≤ n3) ∧ ((x5 + 1) = x2 ∧ n3 = 0 ∨ (x5 + 1) = x2 + 1 ∧ n3 ≤ 9 ∨ (x5 + 1) = x2 + 2 ∧ n3 ≤ 99 ∨ (x5 + 1) = x2 + 3 ∧ n3 ≤ 999 ∨ (x5 + 1) = x2 + 4 ∧ n3 ≤ 9999)) ∧ (x2 + x3 - (x5 + 1)).toNat < (x2 + x3 - x5).toNat
    exact ⟨⟨(by omega), (by omega), (by omega)⟩, by omega⟩
  ·
    refine T_some ?_
    show (0 ≤ x4 ∧ x4 ≤ 9999)
    exact (by omega)
set_option maxRecDepth 20000 in
set_option maxHeartbeats 4000000 in
theorem t_X7_numberAt (o : OO) (x1 : Int) (x2 : Int) (x3 : Int) (hB_o : BoxC o) (k0 : 0 ≤ x1 ∧ x1 ≤ 5) (k1 : 0 ≤ x2 ∧ x2 ≤ 100) (k2 : 0 ≤ x3 ∧ x3 ≤ 4) (k3 : x3 = 0 ∨ x2 + x3 ≤ 40) (k4 : ∀ k : Int, x2 ≤ k → k < x2 + x3 → 48 ≤ o.1 6 (x1 * 40 + k).toNat ∧ o.1 6 (x1 * 40 + k).toNat ≤ 57) : T (s_X7_numberAt o x1 x2 x3) (fun v => (0 ≤ v ∧ v ≤ 9999)) := by
  unfold s_X7_numberAt
  unfold e_X7_numberAt_6
  refine T_qB (tl_X7_numberAt_6 o x1 x2 x3 0 x2 hB_o (by omega) (by omega) (by omega) (by omega) (by omega) (by omega) (by omega) (by omega)) (fun r3 hc_r3 hp4 => ?_)
  obtain ⟨x4_5, q_x4_5⟩ : ∃ q, q = r3 := ⟨_, rfl⟩
  subst q_x4_5
  have hp4 : (0 ≤ x4_5 ∧ x4_5 ≤ 9999) := hp4
  show T (b_X7_numberAt_38 o x4_5) _
  unfold b_X7_numberAt_38
  refine T_some ?_
  show (0 ≤ x4_5 ∧ x4_5 ≤ 9999)
  exact (by omega)
set_option maxRecDepth 20000 in
set_option maxHeartbeats 4000000 in
theorem tl_X7_add_56 (x2 : Int) (x5 : Int) (i_o : OO) (i_x6 : Int) (hB_i_o : BoxC i_o) (k0 : 0 ≤ x2 ∧ x2 ≤ 3) (k1 : 0 ≤ x5 ∧ x5 ≤ 15) (v0 : 0 ≤ i_x6 ∧ i_x6 ≤ 40) : T (loopW (fun s => l_X7_add_56 x2 x5 s.1 s.2) (i_o, i_x6)) (fun r => BoxC r ∧ (Fr [(31, 9999)] i_o r)) := by
  have fr_i_o : Fr [(31, 9999)] i_o i_o := Fr.rf
  refine T_loop (fun s => BoxC s.1 ∧ (Fr [(31, 9999)] i_o s.1) ∧ (0 ≤ s.2 ∧ s.2 ≤ 40)) (fun s => (40 - s.2).toNat) ⟨hB_i_o, fr_i_o, v0⟩ (fun s hs => ?_)
  obtain ⟨o, x6⟩ := s
  have hs : BoxC o ∧ (Fr [(31, 9999)] i_o o) ∧ (0 ≤ x6 ∧ x6 ≤ 40) := hs
  obtain ⟨hB_o, fr_o, w0⟩ := hs
  have g28_3_i := bC_28_3 hB_i_o
  have g28_3_o : o.1 28 3 = i_o.1 28 3 := fr_o.1 28 3 rfl
  show T (l_X7_add_56 x2 x5 o x6) _
  unfold l_X7_add_56
  refine T_qB (t_X8_sizeOf__4 o x2 hB_o (by omega)) (fun r1 hc_r1 hp1 => ?_)
  have hp1 : (r1 = o.1 5 x2.toNat) ∧ (-1 ≤ r1 ∧ r1 ≤ 40) := hp1
  have hps_hp1 := hp1
  obtain ⟨hp1_0, hp1_1⟩ := hps_hp1
  refine T_qLt ⟨by omega, by omega⟩ ⟨by omega, by omega⟩ (fun h2 => ?_) (fun h2 => ?_)
  ·
    refine T_qB (t_X8_at__4 o x2 x6 hB_o (by omega)) (fun r3 hc_r3 hp3 => ?_)
    have hp3 : (r3 = o.1 6 (x2 * 40 + x6).toNat) ∧ (inR r3) := hp3
    have hps_hp3 := hp3
    obtain ⟨hp3_0, hp3_1⟩ := hps_hp3
    refine T_qB (t_X7_letterOf r3 (by omega)) (fun r5 hc_r5 hp4 => ?_)
    have hp4 : (-9 ≤ r5 ∧ r5 ≤ 7) ∧ (r5 = -9 ∨ 0 ≤ r5) := hp4
    have hps_hp4 := hp4
    obtain ⟨hp4_0, hp4_1⟩ := hps_hp4
    refine T_qEq ⟨by omega, by omega⟩ ⟨by decide, by decide⟩ (fun h5 => ?_) (fun h5 => ?_)
    ·
      unfold b_X7_add_119
      refine T_some ?_
      show (BoxC o ∧ (Fr [(31, 9999)] i_o o) ∧ (0 ≤ (x6 + 1) ∧ (x6 + 1) ≤ 40)) ∧ (40 - (x6 + 1)).toNat < (40 - x6).toNat
      exact ⟨⟨hB_o, fr_o, (by omega)⟩, by omega⟩
    ·
      refine T_qB (t_X7_digitsAt o x2 (x6 + 1) hB_o (by omega) (by omega)) (fun r7 hc_r7 hp6 => ?_)
      have hp6 : (0 ≤ r7 ∧ r7 ≤ 4) ∧ (r7 = 0 ∨ (x6 + 1) + r7 ≤ o.1 5 x2.toNat) ∧ (∀ k : Int, (x6 + 1) ≤ k → k < (x6 + 1) + r7 → 48 ≤ o.1 6 (x2 * 40 + k).toNat ∧ o.1 6 (x2 * 40 + k).toNat ≤ 57) := hp6
      have hps_hp6 := hp6
      obtain ⟨hp6_0, hp6_1, hp6_2⟩ := hps_hp6
      refine T_qB (t_X7_numberAt o x2 (x6 + 1) r7 hB_o (by omega) (by omega) (by omega) (by omega) (by omega)) (fun r9 hc_r9 hp7 => ?_)
      have hp7 : (0 ≤ r9 ∧ r9 ≤ 9999) := hp7
      refine T_qIn ⟨by omega, by omega⟩ ?_
      refine T_qNm (fun o12 e_o12 => ?_)
      have hB_o12 : BoxC o12 := by rw [e_o12]; exact Box.s1 hB_o (show -1 ≤ r9 ∧ r9 ≤ 9999 from ⟨by omega, by omega⟩)
      have fr_o12 : Fr [(31, 9999)] i_o o12 := by rw [e_o12]; exact Fr.s1 fr_o rfl
      have g28_3_o12 : o12.1 28 3 = o.1 28 3 := by rw [e_o12]; rfl
      unfold b_X7_add_119
      refine T_some ?_
      show (BoxC o12 ∧ (Fr [(31, 9999)] i_o o12) ∧ (0 ≤ (x6 + 1) ∧ (x6 + 1) ≤ 40)) ∧ (40 - (x6 + 1)).toNat < (40 - x6).toNat
      exact ⟨⟨hB_o12, fr_o12, (by omega)⟩, by omega⟩
  ·
    refine T_some ?_
    show BoxC o ∧ (Fr [(31, 9999)] i_o o)
    exact ⟨hB_o, fr_o⟩
set_option maxRecDepth 20000 in
set_option maxHeartbeats 4000000 in
theorem t_X7_add (o : OO) (x2 : Int) (x3 : Int) (x4 : Int) (hB_o : BoxC o) (k0 : 0 ≤ x2 ∧ x2 ≤ 3) (k1 : 0 ≤ x3 ∧ x3 ≤ 999) (k2 : 0 ≤ x4 ∧ x4 ≤ 999) (k3 : o.1 28 3 ≤ 15) : T (s_X7_add o x2 x3 x4) (fun v => BoxC v.2 ∧ (Fr [(28, 3), (29, 9999), (30, 9999), (31, 9999)] o v.2) ∧ (v.1 = o.1 28 3)) := by
  have fr_o : Fr [(28, 3), (29, 9999), (30, 9999), (31, 9999)] o o := Fr.rf
  have g28_3_o := bC_28_3 hB_o
  unfold s_X7_add
  refine T_qNm (fun o13 e_o13 => ?_)
  have hB_o13 : BoxC o13 := by rw [e_o13]; exact Box.s1 hB_o (show 0 ≤ ((o.1 28 3) + 1) ∧ ((o.1 28 3) + 1) ≤ 16 from ⟨by omega, by omega⟩)
  have fr_o13 : Fr [(28, 3), (29, 9999), (30, 9999), (31, 9999)] o o13 := by rw [e_o13]; exact Fr.s1 fr_o rfl
  have g28_3_o13 : o13.1 28 3 = ((o.1 28 3) + 1) := by rw [e_o13]; rfl
  refine T_qIn ⟨by omega, by omega⟩ ?_
  refine T_qNm (fun o15 e_o15 => ?_)
  have hB_o15 : BoxC o15 := by rw [e_o15]; exact Box.s1 hB_o13 (show 0 ≤ x3 ∧ x3 ≤ 999 from ⟨by omega, by omega⟩)
  have fr_o15 : Fr [(28, 3), (29, 9999), (30, 9999), (31, 9999)] o o15 := by rw [e_o15]; exact Fr.s1 fr_o13 rfl
  have g28_3_o15 : o15.1 28 3 = o13.1 28 3 := by rw [e_o15]; rfl
  refine T_qIn ⟨by omega, by omega⟩ ?_
  refine T_qNm (fun o17 e_o17 => ?_)
  have hB_o17 : BoxC o17 := by rw [e_o17]; exact Box.s1 hB_o15 (show 0 ≤ x4 ∧ x4 ≤ 999 from ⟨by omega, by omega⟩)
  have fr_o17 : Fr [(28, 3), (29, 9999), (30, 9999), (31, 9999)] o o17 := by rw [e_o17]; exact Fr.s1 fr_o15 rfl
  have g28_3_o17 : o17.1 28 3 = o15.1 28 3 := by rw [e_o17]; rfl
  refine T_qB (t_J7_fill_fda19__31 o17 ((o.1 28 3) * 8) (((o.1 28 3) + 1) * 8) (-1) hB_o17 (by omega) (by omega) (by omega)) (fun o20 hc_o20 hp8 => ?_)
  have hp8 : BoxC o20 ∧ (Fr [(31, 9999)] o17 o20) := hp8
  obtain ⟨hB_o20, fc_o20⟩ := hp8
  have fr_o20 : Fr [(28, 3), (29, 9999), (30, 9999), (31, 9999)] o o20 := Fr.tr fr_o17 fc_o20 rfl
  have g28_3_o20 : o20.1 28 3 = o17.1 28 3 := fc_o20.1 28 3 rfl
  unfold e_X7_add_56
  refine T_qB (tl_X7_add_56 x2 (o.1 28 3) o20 0 hB_o20 (by omega) (by omega) (by omega)) (fun r9 hc_r9 hp10 => ?_)
  obtain ⟨o_11, q_o_11⟩ : ∃ q, q = r9 := ⟨_, rfl⟩
  subst q_o_11
  have hp10 : BoxC o_11 ∧ (Fr [(31, 9999)] o20 o_11) := hp10
  have hps_hp10 := hp10
  obtain ⟨hp10_0, hp10_1⟩ := hps_hp10
  obtain ⟨hB_o_11, fc_o_11⟩ := hp10
  have fr_o_11 : Fr [(28, 3), (29, 9999), (30, 9999), (31, 9999)] o o_11 := Fr.tr fr_o20 fc_o_11 rfl
  have g28_3_o_11 : o_11.1 28 3 = o20.1 28 3 := fc_o_11.1 28 3 rfl
  show T (b_X7_add_125 o_11 (o.1 28 3)) _
  unfold b_X7_add_125
  refine T_some ?_
  show BoxC o_11 ∧ (Fr [(28, 3), (29, 9999), (30, 9999), (31, 9999)] o o_11) ∧ ((o.1 28 3) = o.1 28 3)
  exact ⟨hB_o_11, fr_o_11, (by omega)⟩
set_option maxRecDepth 20000 in
set_option maxHeartbeats 4000000 in
theorem t_X11_rule (o : OO) (x1 : Int) (x2 : Int) (hB_o : BoxC o) (k0 : inR x1) (k1 : inR x2) : T (s_X11_rule o x1 x2) (fun v => BoxC v.2 ∧ (Fr [(0, 17), (28, 3), (29, 9999), (30, 9999), (31, 9999), (77, 9999)] o v.2)) := by
  have fr_o : Fr [(0, 17), (28, 3), (29, 9999), (30, 9999), (31, 9999), (77, 9999)] o o := Fr.rf
  have g0_13_o := bC_0_13 hB_o
  have g28_3_o := bC_28_3 hB_o
  unfold s_X11_rule
  refine T_qB (t_X8_exists__4 o x1 hB_o (by omega)) (fun r1 hc_r1 hp1 => ?_)
  have hp1 : ((r1 = 1 ∧ (0 ≤ x1 ∧ x1 < 4)) ∨ (r1 = 0 ∧ ¬ (0 ≤ x1 ∧ x1 < 4))) := hp1
  refine T_qEq ⟨by omega, by omega⟩ ⟨by decide, by decide⟩ (fun h2 => ?_) (fun h2 => ?_)
  ·
    unfold b_X11_rule_18
    refine T_some ?_
    show BoxC o ∧ (Fr [(0, 17), (28, 3), (29, 9999), (30, 9999), (31, 9999), (77, 9999)] o o)
    exact ⟨hB_o, fr_o⟩
  ·
    refine T_qB (t_X11_isDay x2 (by omega)) (fun r3 hc_r3 hp3 => ?_)
    have hp3 : ((r3 = 1 ∧ (0 ≤ x2 ∧ x2 ≤ 999)) ∨ (r3 = 0 ∧ ¬ (0 ≤ x2 ∧ x2 ≤ 999))) := hp3
    refine T_qEq ⟨by omega, by omega⟩ ⟨by decide, by decide⟩ (fun h4 => ?_) (fun h4 => ?_)
    ·
      unfold b_X11_rule_18
      refine T_some ?_
      show BoxC o ∧ (Fr [(0, 17), (28, 3), (29, 9999), (30, 9999), (31, 9999), (77, 9999)] o o)
      exact ⟨hB_o, fr_o⟩
    ·
      refine T_qB (t_X7_number o hB_o) (fun r5 hc_r5 hp5 => ?_)
      have hp5 : (r5 = o.1 28 3) := hp5
      refine T_qLt ⟨by omega, by omega⟩ ⟨by decide, by decide⟩ (fun h6 => ?_) (fun h6 => ?_)
      ·
        refine T_qB (t_X8_isThere__4 o x1 hB_o (by omega)) (fun r7 hc_r7 hp7 => ?_)
        have hp7 : ((r7 = 1 ∧ (¬ o.1 5 x1.toNat = -1)) ∨ (r7 = 0 ∧ ¬ (¬ o.1 5 x1.toNat = -1))) := hp7
        refine T_qEq ⟨by omega, by omega⟩ ⟨by decide, by decide⟩ (fun h8 => ?_) (fun h8 => ?_)
        ·
          refine T_qB2 (t_X11_found o 1 hB_o (by omega)) (fun r14 o16 hc_r14 hp9 => ?_)
          have hp9 : BoxC o16 ∧ (Fr [(0, 17), (77, 9999)] o o16) ∧ (r14 = -3) := hp9
          obtain ⟨hB_o16, fc_o16, hp9⟩ := hp9
          have fr_o16 : Fr [(0, 17), (28, 3), (29, 9999), (30, 9999), (31, 9999), (77, 9999)] o o16 := Fr.tr fr_o fc_o16 rfl
          have g0_13_o16 : o16.1 0 13 = o.1 0 13 := fc_o16.1 0 13 rfl
          have g28_3_o16 : o16.1 28 3 = o.1 28 3 := fc_o16.1 28 3 rfl
          refine T_some ?_
          show BoxC o16 ∧ (Fr [(0, 17), (28, 3), (29, 9999), (30, 9999), (31, 9999), (77, 9999)] o o16)
          exact ⟨hB_o16, fr_o16⟩
        ·
          refine T_qB (t_X7_firstFault o x1 hB_o (by omega)) (fun r9 hc_r9 hp10 => ?_)
          have hp10 : (-9 ≤ r9 ∧ r9 ≤ 41) := hp10
          refine T_qEq ⟨by omega, by omega⟩ ⟨by decide, by decide⟩ (fun h11 => ?_) (fun h11 => ?_)
          ·
            refine T_qB2 (t_X7_add o x1 (o.1 0 13) x2 hB_o (by omega) (by omega) (by omega) (by omega)) (fun r11 o13 hc_r11 hp12 => ?_)
            have hp12 : BoxC o13 ∧ (Fr [(28, 3), (29, 9999), (30, 9999), (31, 9999)] o o13) ∧ (r11 = o.1 28 3) := hp12
            obtain ⟨hB_o13, fc_o13, hp12⟩ := hp12
            have fr_o13 : Fr [(0, 17), (28, 3), (29, 9999), (30, 9999), (31, 9999), (77, 9999)] o o13 := Fr.tr fr_o fc_o13 rfl
            have g0_13_o13 : o13.1 0 13 = o.1 0 13 := fc_o13.1 0 13 rfl
            have g28_3_o13 := bC_28_3 hB_o13
            refine T_some ?_
            show BoxC o13 ∧ (Fr [(0, 17), (28, 3), (29, 9999), (30, 9999), (31, 9999), (77, 9999)] o o13)
            exact ⟨hB_o13, fr_o13⟩
          ·
            refine T_some ?_
            show BoxC o ∧ (Fr [(0, 17), (28, 3), (29, 9999), (30, 9999), (31, 9999), (77, 9999)] o o)
            exact ⟨hB_o, fr_o⟩
      ·
        refine T_some ?_
        show BoxC o ∧ (Fr [(0, 17), (28, 3), (29, 9999), (30, 9999), (31, 9999), (77, 9999)] o o)
        exact ⟨hB_o, fr_o⟩
set_option maxRecDepth 20000 in
set_option maxHeartbeats 4000000 in
theorem t_X11_set (o : OO) (hB_o : BoxC o) : T (s_X11_set o) (fun _ => True) := by
  unfold s_X11_set
  refine T_some ?_
  show True
  exact trivial
set_option maxRecDepth 20000 in
set_option maxHeartbeats 4000000 in
theorem t_X3_around (z0 : Int64)  : T (s_X3_around z0) (fun _ => True) := by
  unfold s_X3_around
  refine T_qB (t_X3_spreadAside z0) (fun p1 hc_p1 hp1 => ?_)
  refine T_qB (t_X3_spreadAside p1) (fun p3 hc_p3 hp2 => ?_)
  refine T_some ?_
  show True
  exact trivial
set_option maxRecDepth 20000 in
set_option maxHeartbeats 4000000 in
theorem t_X11_lowered (x0 : Int) (x1 : Int) (k0 : 0 ≤ x0 ∧ x0 ≤ 100000) (k1 : 0 ≤ x1 ∧ x1 ≤ 9999) : T (s_X11_lowered x0 x1) (fun v => (1 ≤ v ∧ v ≤ 100000)) := by
  have hm9 := low_rng k0.1 k0.2 k1.1 k1.2
  unfold s_X11_lowered
  refine T_qDv ⟨⟨by omega, by omega⟩, ⟨by decide, by decide⟩, by decide⟩ ?_
  have jd1 := jq_or (a := x0 * (100 - x1)) (b := 100)
  refine T_qR ⟨by decide, by decide⟩ ?_
  refine T_qR ⟨by omega, by omega⟩ ?_
  refine T_some ?_
  show (1 ≤ (max 1 (jq (x0 * (100 - x1)) 100)) ∧ (max 1 (jq (x0 * (100 - x1)) 100)) ≤ 100000)
  exact (by omega)
set_option maxRecDepth 20000 in
set_option maxHeartbeats 4000000 in
theorem t_X4_showOn (o : OO) (x1 : Int) (x2 : Int) (hB_o : BoxC o) (k0 : 0 ≤ x1 ∧ x1 ≤ 23) (k1 : 0 ≤ x2 ∧ x2 ≤ 999) : T (s_X4_showOn o x1 x2) (fun v => BoxC v ∧ (Fr [(40, 9999)] o v)) := by
  have fr_o : Fr [(40, 9999)] o o := Fr.rf
  unfold s_X4_showOn
  refine T_qIn ⟨by omega, by omega⟩ ?_
  refine T_qNm (fun o2 e_o2 => ?_)
  have hB_o2 : BoxC o2 := by rw [e_o2]; exact Box.s1 hB_o (show -9 ≤ x2 ∧ x2 ≤ 999 from ⟨by omega, by omega⟩)
  have fr_o2 : Fr [(40, 9999)] o o2 := by rw [e_o2]; exact Fr.s1 fr_o rfl
  refine T_some ?_
  show BoxC o2 ∧ (Fr [(40, 9999)] o o2)
  exact ⟨hB_o2, fr_o2⟩
theorem t_X11_show (o : OO) (x1 : Int) (hB_o : BoxC o) (k0 : inR x1) : T (s_X11_show o x1) (fun v => BoxC v.2 ∧ (Fr [(0, 17), (10, 13), (16, 9999), (19, 9999), (20, 9999), (21, 9999), (40, 9999), (77, 9999)] o v.2)) := by sorry
set_option maxRecDepth 20000 in
set_option maxHeartbeats 4000000 in
theorem t_X11_shown (o : OO) (x1 : Int) (hB_o : BoxC o) (k0 : inR x1) : T (s_X11_shown o x1) (fun v => BoxC v.2 ∧ (Fr [(0, 17), (77, 9999)] o v.2)) := by
  have fr_o : Fr [(0, 17), (77, 9999)] o o := Fr.rf
  have g32_13_o := bC_32_13 hB_o
  unfold s_X11_shown
  refine T_qB (t_X4_exists o x1 hB_o (by omega)) (fun r1 hc_r1 hp1 => ?_)
  have hp1 : ((r1 = 1 ∧ (0 ≤ x1 ∧ x1 < o.1 32 13)) ∨ (r1 = 0 ∧ ¬ (0 ≤ x1 ∧ x1 < o.1 32 13))) := hp1
  refine T_qEq ⟨by omega, by omega⟩ ⟨by decide, by decide⟩ (fun h2 => ?_) (fun h2 => ?_)
  ·
    refine T_some ?_
    show BoxC o ∧ (Fr [(0, 17), (77, 9999)] o o)
    exact ⟨hB_o, fr_o⟩
  ·
    refine T_qB (t_X4_isOf o x1 1 hB_o (by omega) (by omega)) (fun r3 hc_r3 hp3 => ?_)
    have hp3 : (0 ≤ r3 ∧ r3 ≤ 1) := hp3
    refine T_qEq ⟨by omega, by omega⟩ ⟨by decide, by decide⟩ (fun h4 => ?_) (fun h4 => ?_)
    ·
      refine T_qB2 (t_X11_found o 3 hB_o (by omega)) (fun r7 o9 hc_r7 hp5 => ?_)
      have hp5 : BoxC o9 ∧ (Fr [(0, 17), (77, 9999)] o o9) ∧ (r7 = -3) := hp5
      obtain ⟨hB_o9, fc_o9, hp5⟩ := hp5
      have fr_o9 : Fr [(0, 17), (77, 9999)] o o9 := Fr.tr fr_o fc_o9 rfl
      have g32_13_o9 : o9.1 32 13 = o.1 32 13 := fc_o9.1 32 13 rfl
      refine T_some ?_
      show BoxC o9 ∧ (Fr [(0, 17), (77, 9999)] o o9)
      exact ⟨hB_o9, fr_o9⟩
    ·
      refine T_qB (t_X4_shownOn o x1 hB_o (by omega)) (fun r5 hc_r5 hp6 => ?_)
      have hp6 : (-9 ≤ r5 ∧ r5 ≤ 999) := hp6
      refine T_some ?_
      show BoxC o ∧ (Fr [(0, 17), (77, 9999)] o o)
      exact ⟨hB_o, fr_o⟩
set_option maxRecDepth 20000 in
set_option maxHeartbeats 4000000 in
theorem tl_X9_survey_17 (x2 : Int) (x3 : Int) (i_o : OO) (i_x4 : Int) (hB_i_o : BoxC i_o) (k0 : inR x2) (k1 : 0 ≤ x3 ∧ x3 ≤ 4) (k2 : x3 < 4) (v0 : 0 ≤ i_x4 ∧ i_x4 ≤ 64) : T (loopW (fun s => l_X9_survey_17 x2 x3 s.1 s.2) (i_o, i_x4)) (fun r => BoxC r ∧ (Fr [(72, 9999)] i_o r)) := by
  have fr_i_o : Fr [(72, 9999)] i_o i_o := Fr.rf
  refine T_loop (fun s => BoxC s.1 ∧ (Fr [(72, 9999)] i_o s.1) ∧ (0 ≤ s.2 ∧ s.2 ≤ 64)) (fun s => (64 - s.2).toNat) ⟨hB_i_o, fr_i_o, v0⟩ (fun s hs => ?_)
  obtain ⟨o, x4⟩ := s
  have hs : BoxC o ∧ (Fr [(72, 9999)] i_o o) ∧ (0 ≤ x4 ∧ x4 ≤ 64) := hs
  obtain ⟨hB_o, fr_o, w0⟩ := hs
  show T (l_X9_survey_17 x2 x3 o x4) _
  unfold l_X9_survey_17
  refine T_qLt ⟨by omega, by omega⟩ ⟨by decide, by decide⟩ (fun h1 => ?_) (fun h1 => ?_)
  ·
    refine T_qB (t_X3_onward o x4 x3 x2 hB_o (by omega) (by omega) (by omega)) (fun r1 hc_r1 hp2 => ?_)
    have hp2 : (-9 ≤ r1 ∧ r1 ≤ 63) ∧ (r1 = -9 ∨ 0 ≤ r1) := hp2
    have hps_hp2 := hp2
    obtain ⟨hp2_0, hp2_1⟩ := hps_hp2
    refine T_qEq ⟨by omega, by omega⟩ ⟨by decide, by decide⟩ (fun h3 => ?_) (fun h3 => ?_)
    ·
      unfold b_X9_survey_51
      refine T_some ?_
      show (BoxC o ∧ (Fr [(72, 9999)] i_o o) ∧ (0 ≤ (x4 + 1) ∧ (x4 + 1) ≤ 64)) ∧ (64 - (x4 + 1)).toNat < (64 - x4).toNat
      exact ⟨⟨hB_o, fr_o, (by omega)⟩, by omega⟩
    ·
      refine T_qIn ⟨by omega, by omega⟩ ?_
      refine T_qNm (fun m4 e_m4 => ?_)
      refine T_qB (t_X3_bit x4) (fun p5 hc_p5 hp4 => ?_)
      refine T_qIn ⟨by omega, by omega⟩ ?_
      refine T_qNm (fun o8 e_o8 => ?_)
      have hB_o8 : BoxC o8 := by rw [e_o8]; exact Box.s2 hB_o
      have fr_o8 : Fr [(72, 9999)] i_o o8 := by rw [e_o8]; exact Fr.s2 fr_o rfl
      unfold b_X9_survey_51
      refine T_some ?_
      show (BoxC o8 ∧ (Fr [(72, 9999)] i_o o8) ∧ (0 ≤ (x4 + 1) ∧ (x4 + 1) ≤ 64)) ∧ (64 - (x4 + 1)).toNat < (64 - x4).toNat
      exact ⟨⟨hB_o8, fr_o8, (by omega)⟩, by omega⟩
  ·
    refine T_some ?_
    show BoxC o ∧ (Fr [(72, 9999)] i_o o)
    exact ⟨hB_o, fr_o⟩
set_option maxRecDepth 20000 in
set_option maxHeartbeats 4000000 in
theorem tl_X9_survey_2 (x2 : Int) (i_o : OO) (i_x3 : Int) (hB_i_o : BoxC i_o) (k0 : inR x2) (v0 : 0 ≤ i_x3 ∧ i_x3 ≤ 4) : T (loopW (fun s => l_X9_survey_2 x2 s.1 s.2) (i_o, i_x3)) (fun r => BoxC r ∧ (Fr [(72, 9999)] i_o r)) := by
  have fr_i_o : Fr [(72, 9999)] i_o i_o := Fr.rf
  refine T_loop (fun s => BoxC s.1 ∧ (Fr [(72, 9999)] i_o s.1) ∧ (0 ≤ s.2 ∧ s.2 ≤ 4)) (fun s => (4 - s.2).toNat) ⟨hB_i_o, fr_i_o, v0⟩ (fun s hs => ?_)
  obtain ⟨o, x3⟩ := s
  have hs : BoxC o ∧ (Fr [(72, 9999)] i_o o) ∧ (0 ≤ x3 ∧ x3 ≤ 4) := hs
  obtain ⟨hB_o, fr_o, w0⟩ := hs
  show T (l_X9_survey_2 x2 o x3) _
  unfold l_X9_survey_2
  refine T_qLt ⟨by omega, by omega⟩ ⟨by decide, by decide⟩ (fun h5 => ?_) (fun h5 => ?_)
  ·
    refine T_qIn ⟨by omega, by omega⟩ ?_
    refine T_qNm (fun o10 e_o10 => ?_)
    have hB_o10 : BoxC o10 := by rw [e_o10]; exact Box.s2 hB_o
    have fr_o10 : Fr [(72, 9999)] i_o o10 := by rw [e_o10]; exact Fr.s2 fr_o rfl
    unfold e_X9_survey_17
    refine T_qB (tl_X9_survey_17 x2 x3 o10 0 hB_o10 (by omega) (by omega) (by omega) (by omega)) (fun r6 hc_r6 hp7 => ?_)
    obtain ⟨o_8, q_o_8⟩ : ∃ q, q = r6 := ⟨_, rfl⟩
    subst q_o_8
    have hp7 : BoxC o_8 ∧ (Fr [(72, 9999)] o10 o_8) := hp7
    have hps_hp7 := hp7
    obtain ⟨hp7_0, hp7_1⟩ := hps_hp7
    obtain ⟨hB_o_8, fc_o_8⟩ := hp7
    have fr_o_8 : Fr [(72, 9999)] i_o o_8 := Fr.tr fr_o10 fc_o_8 rfl
    show T (b_X9_survey_57 o_8 x2 x3) _
    unfold b_X9_survey_57
    refine T_some ?_
    show (BoxC o_8 ∧ (Fr [(72, 9999)] i_o o_8) ∧ (0 ≤ (x3 + 1) ∧ (x3 + 1) ≤ 4)) ∧ (4 - (x3 + 1)).toNat < (4 - x3).toNat
    exact ⟨⟨hB_o_8, fr_o_8, (by omega)⟩, by omega⟩
  ·
    refine T_some ?_
    show BoxC o ∧ (Fr [(72, 9999)] i_o o)
    exact ⟨hB_o, fr_o⟩
set_option maxRecDepth 20000 in
set_option maxHeartbeats 4000000 in
theorem t_X9_survey (o : OO) (x2 : Int) (hB_o : BoxC o) (k0 : inR x2) : T (s_X9_survey o x2) (fun v => BoxC v ∧ (Fr [(72, 9999)] o v)) := by
  have fr_o : Fr [(72, 9999)] o o := Fr.rf
  unfold s_X9_survey
  unfold e_X9_survey_2
  refine T_qB (tl_X9_survey_2 x2 o 0 hB_o (by omega) (by omega)) (fun r9 hc_r9 hp10 => ?_)
  obtain ⟨o_11, q_o_11⟩ : ∃ q, q = r9 := ⟨_, rfl⟩
  subst q_o_11
  have hp10 : BoxC o_11 ∧ (Fr [(72, 9999)] o o_11) := hp10
  have hps_hp10 := hp10
  obtain ⟨hp10_0, hp10_1⟩ := hps_hp10
  obtain ⟨hB_o_11, fc_o_11⟩ := hp10
  have fr_o_11 : Fr [(72, 9999)] o o_11 := Fr.tr fr_o fc_o_11 rfl
  show T (b_X9_survey_63 o_11) _
  unfold b_X9_survey_63
  refine T_some ?_
  show BoxC o_11 ∧ (Fr [(72, 9999)] o o_11)
  exact ⟨hB_o_11, fr_o_11⟩
set_option maxRecDepth 20000 in
set_option maxHeartbeats 4000000 in
theorem tl_X9_connects_9 (o : OO) (x2 : Int) (z3 : Int64) (i_z5 : Int64) (i_x7 : Int) (hB_o : BoxC o) (k0 : 0 ≤ x2 ∧ x2 ≤ 63) (v0 : 0 ≤ i_x7 ∧ i_x7 ≤ 64) : T (loopW (fun s => l_X9_connects_9 o x2 z3 s.1 s.2) (i_z5, i_x7)) (Sum.elim (fun r => True) (fun _ => True)) := by
  refine T_loop (fun s => (0 ≤ s.2 ∧ s.2 ≤ 64)) (fun s => (64 - s.2).toNat) v0 (fun s hs => ?_)
  obtain ⟨z5, x7⟩ := s
  have hs : (0 ≤ x7 ∧ x7 ≤ 64) := hs
  have w0 := hs
  show T (l_X9_connects_9 o x2 z3 z5 x7) _
  unfold l_X9_connects_9
  refine T_qLt ⟨by omega, by omega⟩ ⟨by decide, by decide⟩ (fun h1 => ?_) (fun h1 => ?_)
  ·
    refine T_qNm (fun m3 e_m3 => ?_)
    refine T_qNm (fun m4 e_m4 => ?_)
    refine T_qNm (fun m5 e_m5 => ?_)
    refine T_qNm (fun m6 e_m6 => ?_)
    refine T_qNm (fun m7 e_m7 => ?_)
    refine T_qNm (fun m8 e_m8 => ?_)
    refine T_qJe (fun h2 => ?_) (fun h2 => ?_)
    ·
      refine T_some ?_
      show True
      exact trivial
    ·
      refine T_qB (t_X3_has m8 x2) (fun r9 hc_r9 hp3 => ?_)
      have hp3 : (0 ≤ r9 ∧ r9 ≤ 1) := hp3
      refine T_qEq ⟨by omega, by omega⟩ ⟨by decide, by decide⟩ (fun h4 => ?_) (fun h4 => ?_)
      ·
        refine T_some ?_
        show ((0 ≤ (x7 + 1) ∧ (x7 + 1) ≤ 64)) ∧ (64 - (x7 + 1)).toNat < (64 - x7).toNat
        exact ⟨(by omega), by omega⟩
      ·
        refine T_some ?_
        show True
        exact trivial
  ·
    refine T_some ?_
    show True
    exact trivial
set_option maxRecDepth 20000 in
set_option maxHeartbeats 4000000 in
theorem t_X9_connects (o : OO) (x1 : Int) (x2 : Int) (z3 : Int64) (hB_o : BoxC o) (k0 : 0 ≤ x1 ∧ x1 ≤ 63) (k1 : 0 ≤ x2 ∧ x2 ≤ 63) : T (s_X9_connects o x1 x2 z3) (fun v => (0 ≤ v ∧ v ≤ 1)) := by
  unfold s_X9_connects
  refine T_qB (t_X3_bit x1) (fun p11 hc_p11 hp5 => ?_)
  unfold e_X9_connects_9
  refine T_qB (tl_X9_connects_9 o x2 z3 p11 0 hB_o (by omega) (by omega)) (fun r6 hc_r6 hp7 => ?_)
  rcases r6 with r6 | r6
  ·
    obtain ⟨z8_8, q_z8_8⟩ : ∃ q, q = r6 := ⟨_, rfl⟩
    subst q_z8_8
    show T (b_X9_connects_97 o x2 z8_8) _
    unfold b_X9_connects_97
    refine T_qB (t_X3_has z8_8 x2) (fun r1 hc_r1 hp9 => ?_)
    have hp9 : (0 ≤ r1 ∧ r1 ≤ 1) := hp9
    refine T_qZ (by omega) ?_
    refine T_some ?_
    show (0 ≤ r1 ∧ r1 ≤ 1)
    exact (by omega)
  ·
    show T (b_X9_connects_114 o) _
    unfold b_X9_connects_114
    refine T_qZ (Or.inl rfl) ?_
    refine T_some ?_
    show (0 ≤ 0 ∧ 0 ≤ 1)
    exact (by omega)
set_option maxRecDepth 20000 in
set_option maxHeartbeats 4000000 in
theorem tl_J7_fill_53178__75_5 (x1 : Int) (x3 : Int) (i_o : OO) (i_x2 : Int) (hB_i_o : BoxC i_o) (k0 : -2147483648 ≤ x1 ∧ x1 ≤ 2147483647) (k1 : x3 = 64) (v0 : 0 ≤ i_x2 ∧ i_x2 ≤ 64) (v1 : FP i_o 75 i_x2 x1) : T (loopW (fun s => l_J7_fill_53178__75_5 x1 x3 s.1 s.2) (i_o, i_x2)) (fun r => BoxC r ∧ (Fr [(75, 9999)] i_o r) ∧ (FP r 75 64 x1)) := by
  have fr_i_o : Fr [(75, 9999)] i_o i_o := Fr.rf
  refine T_loop (fun s => BoxC s.1 ∧ (Fr [(75, 9999)] i_o s.1) ∧ (0 ≤ s.2 ∧ s.2 ≤ 64) ∧ (FP s.1 75 s.2 x1)) (fun s => (64 - s.2).toNat) ⟨hB_i_o, fr_i_o, v0, v1⟩ (fun s hs => ?_)
  obtain ⟨o, x2⟩ := s
  have hs : BoxC o ∧ (Fr [(75, 9999)] i_o o) ∧ (0 ≤ x2 ∧ x2 ≤ 64) ∧ (FP o 75 x2 x1) := hs
  obtain ⟨hB_o, fr_o, w0, w1⟩ := hs
  show T (l_J7_fill_53178__75_5 x1 x3 o x2) _
  unfold l_J7_fill_53178__75_5
  refine T_qLt ⟨by omega, by omega⟩ ⟨by omega, by omega⟩ (fun h1 => ?_) (fun h1 => ?_)
  ·
    refine T_qIn ⟨by omega, by omega⟩ ?_
    refine T_qNm (fun o2 e_o2 => ?_)
    have hB_o2 : BoxC o2 := by rw [e_o2]; exact Box.s1 hB_o (show -2147483648 ≤ x1 ∧ x1 ≤ 2147483647 from ⟨by omega, by omega⟩)
    have fr_o2 : Fr [(75, 9999)] i_o o2 := by rw [e_o2]; exact Fr.s1 fr_o rfl
    refine T_some ?_
    show (BoxC o2 ∧ (Fr [(75, 9999)] i_o o2) ∧ (0 ≤ (x2 + 1) ∧ (x2 + 1) ≤ 64) ∧ (FP o2 75 (x2 + 1) x1)) ∧ (64 - (x2 + 1)).toNat < (64 - x2).toNat
    exact ⟨⟨hB_o2, fr_o2, (by omega), (by first | assumption | (have q2 := w1; rwa [show x2 = 64 by omega] at q2) | exact FP_0 | (rw [e_o2]; exact FP_s w1 (by omega)))⟩, by omega⟩
  ·
    refine T_some ?_
    show BoxC o ∧ (Fr [(75, 9999)] i_o o) ∧ (FP o 75 64 x1)
    exact ⟨hB_o, fr_o, (by first | assumption | (have q2 := w1; rwa [show x2 = 64 by omega] at q2) | exact FP_0 | (rw [e_o]; exact FP_s w1 (by omega)))⟩
set_option maxRecDepth 20000 in
set_option maxHeartbeats 4000000 in
theorem t_J7_fill_53178__75 (o : OO) (x1 : Int) (hB_o : BoxC o) (k0 : -2147483648 ≤ x1 ∧ x1 ≤ 2147483647) : T (s_J7_fill_53178__75 o x1) (fun v => BoxC v ∧ (Fr [(75, 9999)] o v) ∧ (FP v 75 64 x1)) := by
  have fr_o : Fr [(75, 9999)] o o := Fr.rf
  unfold s_J7_fill_53178__75
  unfold e_J7_fill_53178__75_5
  refine T_qB (tl_J7_fill_53178__75_5 x1 64 o 0 hB_o (by omega) (by omega) (by omega) (by first | assumption | (have q2 := w1; rwa [show x2 = 64 by omega] at q2) | exact FP_0 | (rw [e_o]; exact FP_s w1 (by omega)))) (fun r2 hc_r2 hp3 => ?_)
  obtain ⟨o_4, q_o_4⟩ : ∃ q, q = r2 := ⟨_, rfl⟩
  subst q_o_4
  have hp3 : BoxC o_4 ∧ (Fr [(75, 9999)] o o_4) ∧ (FP o_4 75 64 x1) := hp3
  have hps_hp3 := hp3
  obtain ⟨hp3_0, hp3_1, hp3_2⟩ := hps_hp3
  obtain ⟨hB_o_4, fc_o_4, hp3⟩ := hp3
  have fr_o_4 : Fr [(75, 9999)] o o_4 := Fr.tr fr_o fc_o_4 rfl
  show T (b_J7_fill_53178__75_20 o_4) _
  unfold b_J7_fill_53178__75_20
  refine T_some ?_
  show BoxC o_4 ∧ (Fr [(75, 9999)] o o_4) ∧ (FP o_4 75 64 x1)
  exact ⟨hB_o_4, fr_o_4, (by first | assumption | (have q2 := w1; rwa [show x2 = 64 by omega] at q2) | exact FP_0 | (rw [e_o_4]; exact FP_s w1 (by omega)))⟩
set_option maxRecDepth 20000 in
set_option maxHeartbeats 4000000 in
theorem tl_J7_fill_53178__76_5 (x1 : Int) (x3 : Int) (i_o : OO) (i_x2 : Int) (hB_i_o : BoxC i_o) (k0 : -2147483648 ≤ x1 ∧ x1 ≤ 2147483647) (k1 : x3 = 256) (v0 : 0 ≤ i_x2 ∧ i_x2 ≤ 256) (v1 : FP i_o 76 i_x2 x1) : T (loopW (fun s => l_J7_fill_53178__76_5 x1 x3 s.1 s.2) (i_o, i_x2)) (fun r => BoxC r ∧ (Fr [(76, 9999)] i_o r) ∧ (FP r 76 256 x1)) := by
  have fr_i_o : Fr [(76, 9999)] i_o i_o := Fr.rf
  refine T_loop (fun s => BoxC s.1 ∧ (Fr [(76, 9999)] i_o s.1) ∧ (0 ≤ s.2 ∧ s.2 ≤ 256) ∧ (FP s.1 76 s.2 x1)) (fun s => (256 - s.2).toNat) ⟨hB_i_o, fr_i_o, v0, v1⟩ (fun s hs => ?_)
  obtain ⟨o, x2⟩ := s
  have hs : BoxC o ∧ (Fr [(76, 9999)] i_o o) ∧ (0 ≤ x2 ∧ x2 ≤ 256) ∧ (FP o 76 x2 x1) := hs
  obtain ⟨hB_o, fr_o, w0, w1⟩ := hs
  show T (l_J7_fill_53178__76_5 x1 x3 o x2) _
  unfold l_J7_fill_53178__76_5
  refine T_qLt ⟨by omega, by omega⟩ ⟨by omega, by omega⟩ (fun h1 => ?_) (fun h1 => ?_)
  ·
    refine T_qIn ⟨by omega, by omega⟩ ?_
    refine T_qNm (fun o2 e_o2 => ?_)
    have hB_o2 : BoxC o2 := by rw [e_o2]; exact Box.s1 hB_o (show -2147483648 ≤ x1 ∧ x1 ≤ 2147483647 from ⟨by omega, by omega⟩)
    have fr_o2 : Fr [(76, 9999)] i_o o2 := by rw [e_o2]; exact Fr.s1 fr_o rfl
    refine T_some ?_
    show (BoxC o2 ∧ (Fr [(76, 9999)] i_o o2) ∧ (0 ≤ (x2 + 1) ∧ (x2 + 1) ≤ 256) ∧ (FP o2 76 (x2 + 1) x1)) ∧ (256 - (x2 + 1)).toNat < (256 - x2).toNat
    exact ⟨⟨hB_o2, fr_o2, (by omega), (by first | assumption | (have q2 := w1; rwa [show x2 = 256 by omega] at q2) | exact FP_0 | (rw [e_o2]; exact FP_s w1 (by omega)))⟩, by omega⟩
  ·
    refine T_some ?_
    show BoxC o ∧ (Fr [(76, 9999)] i_o o) ∧ (FP o 76 256 x1)
    exact ⟨hB_o, fr_o, (by first | assumption | (have q2 := w1; rwa [show x2 = 256 by omega] at q2) | exact FP_0 | (rw [e_o]; exact FP_s w1 (by omega)))⟩
set_option maxRecDepth 20000 in
set_option maxHeartbeats 4000000 in
theorem t_J7_fill_53178__76 (o : OO) (x1 : Int) (hB_o : BoxC o) (k0 : -2147483648 ≤ x1 ∧ x1 ≤ 2147483647) : T (s_J7_fill_53178__76 o x1) (fun v => BoxC v ∧ (Fr [(76, 9999)] o v) ∧ (FP v 76 256 x1)) := by
  have fr_o : Fr [(76, 9999)] o o := Fr.rf
  unfold s_J7_fill_53178__76
  unfold e_J7_fill_53178__76_5
  refine T_qB (tl_J7_fill_53178__76_5 x1 256 o 0 hB_o (by omega) (by omega) (by omega) (by first | assumption | (have q2 := w1; rwa [show x2 = 256 by omega] at q2) | exact FP_0 | (rw [e_o]; exact FP_s w1 (by omega)))) (fun r2 hc_r2 hp3 => ?_)
  obtain ⟨o_4, q_o_4⟩ : ∃ q, q = r2 := ⟨_, rfl⟩
  subst q_o_4
  have hp3 : BoxC o_4 ∧ (Fr [(76, 9999)] o o_4) ∧ (FP o_4 76 256 x1) := hp3
  have hps_hp3 := hp3
  obtain ⟨hp3_0, hp3_1, hp3_2⟩ := hps_hp3
  obtain ⟨hB_o_4, fc_o_4, hp3⟩ := hp3
  have fr_o_4 : Fr [(76, 9999)] o o_4 := Fr.tr fr_o fc_o_4 rfl
  show T (b_J7_fill_53178__76_20 o_4) _
  unfold b_J7_fill_53178__76_20
  refine T_some ?_
  show BoxC o_4 ∧ (Fr [(76, 9999)] o o_4) ∧ (FP o_4 76 256 x1)
  exact ⟨hB_o_4, fr_o_4, (by first | assumption | (have q2 := w1; rwa [show x2 = 256 by omega] at q2) | exact FP_0 | (rw [e_o_4]; exact FP_s w1 (by omega)))⟩
set_option maxRecDepth 20000 in
set_option maxHeartbeats 4000000 in
theorem tl_J7_fill_53178__73_5 (x1 : Int) (x3 : Int) (i_o : OO) (i_x2 : Int) (hB_i_o : BoxC i_o) (k0 : x1 = -9 ∨ (0 ≤ x1 ∧ x1 ≤ 127)) (k1 : x3 = 128) (v0 : 0 ≤ i_x2 ∧ i_x2 ≤ 128) (v1 : FP i_o 73 i_x2 x1) : T (loopW (fun s => l_J7_fill_53178__73_5 x1 x3 s.1 s.2) (i_o, i_x2)) (fun r => BoxC r ∧ (Fr [(73, 9999)] i_o r) ∧ (FP r 73 128 x1)) := by
  have fr_i_o : Fr [(73, 9999)] i_o i_o := Fr.rf
  refine T_loop (fun s => BoxC s.1 ∧ (Fr [(73, 9999)] i_o s.1) ∧ (0 ≤ s.2 ∧ s.2 ≤ 128) ∧ (FP s.1 73 s.2 x1)) (fun s => (128 - s.2).toNat) ⟨hB_i_o, fr_i_o, v0, v1⟩ (fun s hs => ?_)
  obtain ⟨o, x2⟩ := s
  have hs : BoxC o ∧ (Fr [(73, 9999)] i_o o) ∧ (0 ≤ x2 ∧ x2 ≤ 128) ∧ (FP o 73 x2 x1) := hs
  obtain ⟨hB_o, fr_o, w0, w1⟩ := hs
  show T (l_J7_fill_53178__73_5 x1 x3 o x2) _
  unfold l_J7_fill_53178__73_5
  refine T_qLt ⟨by omega, by omega⟩ ⟨by omega, by omega⟩ (fun h1 => ?_) (fun h1 => ?_)
  ·
    refine T_qIn ⟨by omega, by omega⟩ ?_
    refine T_qNm (fun o2 e_o2 => ?_)
    have hB_o2 : BoxC o2 := by rw [e_o2]; exact Box.s1 hB_o (show x1 = -9 ∨ (0 ≤ x1 ∧ x1 ≤ 127) from (by omega))
    have fr_o2 : Fr [(73, 9999)] i_o o2 := by rw [e_o2]; exact Fr.s1 fr_o rfl
    refine T_some ?_
    show (BoxC o2 ∧ (Fr [(73, 9999)] i_o o2) ∧ (0 ≤ (x2 + 1) ∧ (x2 + 1) ≤ 128) ∧ (FP o2 73 (x2 + 1) x1)) ∧ (128 - (x2 + 1)).toNat < (128 - x2).toNat
    exact ⟨⟨hB_o2, fr_o2, (by omega), (by first | assumption | (have q2 := w1; rwa [show x2 = 128 by omega] at q2) | exact FP_0 | (rw [e_o2]; exact FP_s w1 (by omega)))⟩, by omega⟩
  ·
    refine T_some ?_
    show BoxC o ∧ (Fr [(73, 9999)] i_o o) ∧ (FP o 73 128 x1)
    exact ⟨hB_o, fr_o, (by first | assumption | (have q2 := w1; rwa [show x2 = 128 by omega] at q2) | exact FP_0 | (rw [e_o]; exact FP_s w1 (by omega)))⟩
set_option maxRecDepth 20000 in
set_option maxHeartbeats 4000000 in
theorem t_J7_fill_53178__73 (o : OO) (x1 : Int) (hB_o : BoxC o) (k0 : x1 = -9 ∨ (0 ≤ x1 ∧ x1 ≤ 127)) : T (s_J7_fill_53178__73 o x1) (fun v => BoxC v ∧ (Fr [(73, 9999)] o v) ∧ (FP v 73 128 x1)) := by
  have fr_o : Fr [(73, 9999)] o o := Fr.rf
  unfold s_J7_fill_53178__73
  unfold e_J7_fill_53178__73_5
  refine T_qB (tl_J7_fill_53178__73_5 x1 128 o 0 hB_o (by omega) (by omega) (by omega) (by first | assumption | (have q2 := w1; rwa [show x2 = 128 by omega] at q2) | exact FP_0 | (rw [e_o]; exact FP_s w1 (by omega)))) (fun r2 hc_r2 hp3 => ?_)
  obtain ⟨o_4, q_o_4⟩ : ∃ q, q = r2 := ⟨_, rfl⟩
  subst q_o_4
  have hp3 : BoxC o_4 ∧ (Fr [(73, 9999)] o o_4) ∧ (FP o_4 73 128 x1) := hp3
  have hps_hp3 := hp3
  obtain ⟨hp3_0, hp3_1, hp3_2⟩ := hps_hp3
  obtain ⟨hB_o_4, fc_o_4, hp3⟩ := hp3
  have fr_o_4 : Fr [(73, 9999)] o o_4 := Fr.tr fr_o fc_o_4 rfl
  show T (b_J7_fill_53178__73_20 o_4) _
  unfold b_J7_fill_53178__73_20
  refine T_some ?_
  show BoxC o_4 ∧ (Fr [(73, 9999)] o o_4) ∧ (FP o_4 73 128 x1)
  exact ⟨hB_o_4, fr_o_4, (by first | assumption | (have q2 := w1; rwa [show x2 = 128 by omega] at q2) | exact FP_0 | (rw [e_o_4]; exact FP_s w1 (by omega)))⟩
theorem t_X9_visit (o : OO) (x1 : Int) (x2 : Int) (hB_o : BoxC o) (k0 : 0 ≤ x1 ∧ x1 ≤ 127) (k1 : 0 ≤ x2 ∧ x2 ≤ 127) : T (s_X9_visit o x1 x2) (fun v => BoxC v ∧ (Fr [(71, 5), (73, 9999), (74, 9999)] o v)) := by sorry
theorem t_X9_leave (o : OO) (x1 : Int) (hB_o : BoxC o) (k0 : 0 ≤ x1 ∧ x1 ≤ 63) : T (s_X9_leave o x1) (fun v => BoxC v ∧ (Fr [(71, 5), (73, 9999), (74, 9999)] o v)) := by sorry
set_option maxRecDepth 20000 in
set_option maxHeartbeats 4000000 in
theorem t_X3_back (x0 : Int) (k0 : 0 ≤ x0 ∧ x0 ≤ 3) : T (s_X3_back x0) (fun v => (v = 3 - x0)) := by
  unfold s_X3_back
  refine T_some ?_
  show ((3 - x0) = 3 - x0)
  exact (by omega)
theorem t_X9_enter (o : OO) (x1 : Int) (x2 : Int) (hB_o : BoxC o) (k0 : 0 ≤ x1 ∧ x1 ≤ 63) (k1 : 1 ≤ x2 ∧ x2 ≤ 1000) : T (s_X9_enter o x1 x2) (fun v => BoxC v ∧ (Fr [(71, 5), (73, 9999), (74, 9999)] o v)) := by sorry
theorem t_X9_search (o : OO) (x1 : Int) (x2 : Int) (z3 : Int64) (hB_o : BoxC o) (k0 : 0 ≤ x1 ∧ x1 ≤ 63) (k1 : 0 ≤ x2 ∧ x2 ≤ 63) : T (s_X9_search o x1 x2 z3) (fun v => BoxC v.2 ∧ (Fr [(71, 5), (73, 9999), (74, 9999)] o v.2) ∧ (0 ≤ v.1 ∧ v.1 ≤ 1)) := by sorry
set_option maxRecDepth 20000 in
set_option maxHeartbeats 4000000 in
theorem t_X3_wayTo (x0 : Int) (x1 : Int) (k0 : 0 ≤ x0 ∧ x0 ≤ 63) (k1 : 0 ≤ x1 ∧ x1 ≤ 63) : T (s_X3_wayTo x0 x1) (fun v => (0 ≤ v ∧ v ≤ 3)) := by
  unfold s_X3_wayTo
  refine T_qEq ⟨by omega, by omega⟩ ⟨by omega, by omega⟩ (fun h1 => ?_) (fun h1 => ?_)
  ·
    refine T_some ?_
    show (0 ≤ 0 ∧ 0 ≤ 3)
    exact (by omega)
  ·
    refine T_qEq ⟨by omega, by omega⟩ ⟨by omega, by omega⟩ (fun h2 => ?_) (fun h2 => ?_)
    ·
      refine T_some ?_
      show (0 ≤ 1 ∧ 1 ≤ 3)
      exact (by omega)
    ·
      refine T_qEq ⟨by omega, by omega⟩ ⟨by omega, by omega⟩ (fun h3 => ?_) (fun h3 => ?_)
      ·
        unfold b_X3_wayTo_31
        refine T_some ?_
        show (0 ≤ 2 ∧ 2 ≤ 3)
        exact (by omega)
      ·
        unfold b_X3_wayTo_31
        refine T_some ?_
        show (0 ≤ 3 ∧ 3 ≤ 3)
        exact (by omega)
theorem t_X9_push (o : OO) (x1 : Int) (x2 : Int) (hB_o : BoxC o) (k0 : 0 ≤ x1 ∧ x1 ≤ 63) (k1 : 0 ≤ x2 ∧ x2 ≤ 63) : T (s_X9_push o x1 x2) (fun v => BoxC v ∧ (Fr [(75, 9999), (76, 9999)] o v)) := by sorry
theorem t_X9_nearestCut (o : OO) (x1 : Int) (x2 : Int) (z3 : Int64) (hB_o : BoxC o) (k0 : 0 ≤ x1 ∧ x1 ≤ 63) (k1 : 0 ≤ x2 ∧ x2 ≤ 63) : T (s_X9_nearestCut o x1 x2 z3) (fun v => BoxC v.2 ∧ (Fr [(71, 5), (73, 9999), (74, 9999), (75, 9999), (76, 9999)] o v.2)) := by sorry
set_option maxRecDepth 20000 in
set_option maxHeartbeats 4000000 in
theorem t_X11_stop (o : OO) (x1 : Int) (x2 : Int) (hB_o : BoxC o) (k0 : inR x1) (k1 : inR x2) : T (s_X11_stop o x1 x2) (fun v => BoxC v.2 ∧ (Fr [(0, 16), (0, 17), (71, 5), (72, 9999), (73, 9999), (74, 9999), (75, 9999), (76, 9999), (77, 9999)] o v.2)) := by
  have fr_o : Fr [(0, 16), (0, 17), (71, 5), (72, 9999), (73, 9999), (74, 9999), (75, 9999), (76, 9999), (77, 9999)] o o := Fr.rf
  unfold s_X11_stop
  refine T_qB (t_X3_isCell x1 (by omega)) (fun r1 hc_r1 hp1 => ?_)
  have hp1 : ((r1 = 1 ∧ (0 ≤ x1 ∧ x1 < 64)) ∨ (r1 = 0 ∧ ¬ (0 ≤ x1 ∧ x1 < 64))) := hp1
  refine T_qEq ⟨by omega, by omega⟩ ⟨by decide, by decide⟩ (fun h2 => ?_) (fun h2 => ?_)
  ·
    unfold b_X11_stop_19
    refine T_some ?_
    show BoxC o ∧ (Fr [(0, 16), (0, 17), (71, 5), (72, 9999), (73, 9999), (74, 9999), (75, 9999), (76, 9999), (77, 9999)] o o)
    exact ⟨hB_o, fr_o⟩
  ·
    refine T_qB (t_X3_isCell x2 (by omega)) (fun r3 hc_r3 hp3 => ?_)
    have hp3 : ((r3 = 1 ∧ (0 ≤ x2 ∧ x2 < 64)) ∨ (r3 = 0 ∧ ¬ (0 ≤ x2 ∧ x2 < 64))) := hp3
    refine T_qEq ⟨by omega, by omega⟩ ⟨by decide, by decide⟩ (fun h4 => ?_) (fun h4 => ?_)
    ·
      unfold b_X11_stop_19
      refine T_some ?_
      show BoxC o ∧ (Fr [(0, 16), (0, 17), (71, 5), (72, 9999), (73, 9999), (74, 9999), (75, 9999), (76, 9999), (77, 9999)] o o)
      exact ⟨hB_o, fr_o⟩
    ·
      refine T_qEq ⟨by omega, by omega⟩ ⟨by omega, by omega⟩ (fun h5 => ?_) (fun h5 => ?_)
      ·
        unfold b_X11_stop_19
        refine T_some ?_
        show BoxC o ∧ (Fr [(0, 16), (0, 17), (71, 5), (72, 9999), (73, 9999), (74, 9999), (75, 9999), (76, 9999), (77, 9999)] o o)
        exact ⟨hB_o, fr_o⟩
      ·
        refine T_qB (t_X3_isWater o x1 hB_o (by omega)) (fun r5 hc_r5 hp6 => ?_)
        have hp6 : ((r5 = 1 ∧ (o.1 8 x1.toNat = 4)) ∨ (r5 = 0 ∧ ¬ (o.1 8 x1.toNat = 4))) := hp6
        refine T_qEq ⟨by omega, by omega⟩ ⟨by decide, by decide⟩ (fun h7 => ?_) (fun h7 => ?_)
        ·
          refine T_qB (t_X3_isWater o x2 hB_o (by omega)) (fun r7 hc_r7 hp8 => ?_)
          have hp8 : ((r7 = 1 ∧ (o.1 8 x2.toNat = 4)) ∨ (r7 = 0 ∧ ¬ (o.1 8 x2.toNat = 4))) := hp8
          refine T_qEq ⟨by omega, by omega⟩ ⟨by decide, by decide⟩ (fun h9 => ?_) (fun h9 => ?_)
          ·
            refine T_qB (t_X11_inForce o 0 hB_o (by omega)) (fun r9 hc_r9 hp10 => ?_)
            have hp10 : (0 ≤ r9 ∧ r9 ≤ 9999) := hp10
            refine T_qB (t_X9_survey o r9 hB_o (by omega)) (fun o13 hc_o13 hp11 => ?_)
            have hp11 : BoxC o13 ∧ (Fr [(72, 9999)] o o13) := hp11
            obtain ⟨hB_o13, fc_o13⟩ := hp11
            have fr_o13 : Fr [(0, 16), (0, 17), (71, 5), (72, 9999), (73, 9999), (74, 9999), (75, 9999), (76, 9999), (77, 9999)] o o13 := Fr.tr fr_o fc_o13 rfl
            refine T_qB (t_X9_connects o13 x1 x2 (0 : Int64) hB_o13 (by omega) (by omega)) (fun r14 hc_r14 hp12 => ?_)
            have hp12 : (0 ≤ r14 ∧ r14 ≤ 1) := hp12
            refine T_qEq ⟨by omega, by omega⟩ ⟨by decide, by decide⟩ (fun h13 => ?_) (fun h13 => ?_)
            ·
              refine T_qB2 (t_X11_found o13 1 hB_o13 (by omega)) (fun r31 o33 hc_r31 hp14 => ?_)
              have hp14 : BoxC o33 ∧ (Fr [(0, 17), (77, 9999)] o13 o33) ∧ (r31 = -3) := hp14
              obtain ⟨hB_o33, fc_o33, hp14⟩ := hp14
              have fr_o33 : Fr [(0, 16), (0, 17), (71, 5), (72, 9999), (73, 9999), (74, 9999), (75, 9999), (76, 9999), (77, 9999)] o o33 := Fr.tr fr_o13 fc_o33 rfl
              refine T_some ?_
              show BoxC o33 ∧ (Fr [(0, 16), (0, 17), (71, 5), (72, 9999), (73, 9999), (74, 9999), (75, 9999), (76, 9999), (77, 9999)] o o33)
              exact ⟨hB_o33, fr_o33⟩
            ·
              refine T_qB (t_X1_standingCells o13 hB_o13) (fun p16 hc_p16 hp15 => ?_)
              refine T_qB (t_X3_bit x1) (fun p18 hc_p18 hp16 => ?_)
              refine T_qB (t_X3_bit x2) (fun p20 hc_p20 hp17 => ?_)
              refine T_qNm (fun m22 e_m22 => ?_)
              refine T_qB (t_X9_connects o13 x1 x2 m22 hB_o13 (by omega) (by omega)) (fun r23 hc_r23 hp18 => ?_)
              have hp18 : (0 ≤ r23 ∧ r23 ≤ 1) := hp18
              refine T_qEq ⟨by omega, by omega⟩ ⟨by decide, by decide⟩ (fun h19 => ?_) (fun h19 => ?_)
              ·
                refine T_qB2 (t_X9_nearestCut o13 x1 x2 m22 hB_o13 (by omega) (by omega)) (fun p25 o27 hc_p25 hp20 => ?_)
                have hp20 : BoxC o27 ∧ (Fr [(71, 5), (73, 9999), (74, 9999), (75, 9999), (76, 9999)] o13 o27) := hp20
                obtain ⟨hB_o27, fc_o27⟩ := hp20
                have fr_o27 : Fr [(0, 16), (0, 17), (71, 5), (72, 9999), (73, 9999), (74, 9999), (75, 9999), (76, 9999), (77, 9999)] o o27 := Fr.tr fr_o13 fc_o27 rfl
                refine T_qNm (fun o28 e_o28 => ?_)
                have hB_o28 : BoxC o28 := by rw [e_o28]; exact Box.s2 hB_o27
                have fr_o28 : Fr [(0, 16), (0, 17), (71, 5), (72, 9999), (73, 9999), (74, 9999), (75, 9999), (76, 9999), (77, 9999)] o o28 := by rw [e_o28]; exact Fr.s2 fr_o27 rfl
                refine T_qB (t_J13_bitCount_95d88 (o28.2 0 16)) (fun r29 hc_r29 hp21 => ?_)
                have hp21 : (inR r29) := hp21
                refine T_some ?_
                show BoxC o28 ∧ (Fr [(0, 16), (0, 17), (71, 5), (72, 9999), (73, 9999), (74, 9999), (75, 9999), (76, 9999), (77, 9999)] o o28)
                exact ⟨hB_o28, fr_o28⟩
              ·
                refine T_some ?_
                show BoxC o13 ∧ (Fr [(0, 16), (0, 17), (71, 5), (72, 9999), (73, 9999), (74, 9999), (75, 9999), (76, 9999), (77, 9999)] o o13)
                exact ⟨hB_o13, fr_o13⟩
          ·
            unfold b_X11_stop_43
            refine T_some ?_
            show BoxC o ∧ (Fr [(0, 16), (0, 17), (71, 5), (72, 9999), (73, 9999), (74, 9999), (75, 9999), (76, 9999), (77, 9999)] o o)
            exact ⟨hB_o, fr_o⟩
        ·
          unfold b_X11_stop_43
          refine T_some ?_
          show BoxC o ∧ (Fr [(0, 16), (0, 17), (71, 5), (72, 9999), (73, 9999), (74, 9999), (75, 9999), (76, 9999), (77, 9999)] o o)
          exact ⟨hB_o, fr_o⟩
set_option maxRecDepth 20000 in
set_option maxHeartbeats 4000000 in
theorem tl_X1_worthBy_6 (o : OO) (x1 : Int) (x2 : Int) (i_x3 : Int) (i_x4 : Int) (hB_o : BoxC o) (k0 : inR x1) (k1 : inR x2) (v0 : 0 ≤ i_x4 ∧ i_x4 ≤ o.1 10 13) (v1 : -9 ≤ i_x3 ∧ i_x3 ≤ 100000) (v2 : i_x3 = -9 ∨ 0 ≤ i_x3) : T (loopW (fun s => l_X1_worthBy_6 o x1 x2 s.1 s.2) (i_x3, i_x4)) (fun r => (-9 ≤ r ∧ r ≤ 100000) ∧ (r = -9 ∨ 0 ≤ r)) := by
  refine T_loop (fun s => (0 ≤ s.2 ∧ s.2 ≤ o.1 10 13) ∧ (-9 ≤ s.1 ∧ s.1 ≤ 100000) ∧ (s.1 = -9 ∨ 0 ≤ s.1)) (fun s => (o.1 10 13 - s.2).toNat) ⟨v0, v1, v2⟩ (fun s hs => ?_)
  obtain ⟨x3, x4⟩ := s
  have hs : (0 ≤ x4 ∧ x4 ≤ o.1 10 13) ∧ (-9 ≤ x3 ∧ x3 ≤ 100000) ∧ (x3 = -9 ∨ 0 ≤ x3) := hs
  obtain ⟨w0, w1, w2⟩ := hs
  have g10_13_o := bC_10_13 hB_o
  show T (l_X1_worthBy_6 o x1 x2 x3 x4) _
  unfold l_X1_worthBy_6
  refine T_qLt ⟨by omega, by omega⟩ ⟨by omega, by omega⟩ (fun h1 => ?_) (fun h1 => ?_)
  ·
    refine T_qIn ⟨by omega, by omega⟩ ?_
    refine T_qNm (fun n2 e_n2 => ?_)
    have b_n2 : 0 ≤ n2 ∧ n2 ≤ 999 := by rw [e_n2]; exact bC_20 hB_o _
    refine T_qLt ⟨by omega, by omega⟩ ⟨by omega, by omega⟩ (fun h2 => ?_) (fun h2 => ?_)
    ·
      refine T_some ?_
      show (-9 ≤ x3 ∧ x3 ≤ 100000) ∧ (x3 = -9 ∨ 0 ≤ x3)
      exact ⟨(by omega), (by omega)⟩
    ·
      refine T_qIn ⟨by omega, by omega⟩ ?_
      refine T_qNm (fun n4 e_n4 => ?_)
      have b_n4 : 0 ≤ n4 ∧ n4 ≤ 31 := by rw [e_n4]; exact bC_19 hB_o _
      refine T_qEq ⟨by omega, by omega⟩ ⟨by omega, by omega⟩ (fun h3 => ?_) (fun h3 => ?_)
      ·
        refine T_qIn ⟨by omega, by omega⟩ ?_
        refine T_qNm (fun n6 e_n6 => ?_)
        have b_n6 : 0 ≤ n6 ∧ n6 ≤ 100000 := by rw [e_n6]; exact bC_21 hB_o _
        unfold b_X1_worthBy_45
        refine T_some ?_
        show ((0 ≤ (x4 + 1) ∧ (x4 + 1) ≤ o.1 10 13) ∧ (-9 ≤ n6 ∧ n6 ≤ 100000) ∧ (n6 = -9 ∨ 0 ≤ n6)) ∧ (o.1 10 13 - (x4 + 1)).toNat < (o.1 10 13 - x4).toNat
        exact ⟨⟨(by omega), (by omega), (by omega)⟩, by omega⟩
      ·
        unfold b_X1_worthBy_45
        refine T_some ?_
        show ((0 ≤ (x4 + 1) ∧ (x4 + 1) ≤ o.1 10 13) ∧ (-9 ≤ x3 ∧ x3 ≤ 100000) ∧ (x3 = -9 ∨ 0 ≤ x3)) ∧ (o.1 10 13 - (x4 + 1)).toNat < (o.1 10 13 - x4).toNat
        exact ⟨⟨(by omega), (by omega), (by omega)⟩, by omega⟩
  ·
    refine T_some ?_
    show (-9 ≤ x3 ∧ x3 ≤ 100000) ∧ (x3 = -9 ∨ 0 ≤ x3)
    exact ⟨(by omega), (by omega)⟩
set_option maxRecDepth 20000 in
set_option maxHeartbeats 4000000 in
theorem t_X1_worthBy (o : OO) (x1 : Int) (x2 : Int) (hB_o : BoxC o) (k0 : inR x1) (k1 : inR x2) : T (s_X1_worthBy o x1 x2) (fun v => (-9 ≤ v ∧ v ≤ 100000) ∧ (v = -9 ∨ 0 ≤ v)) := by
  have g10_13_o := bC_10_13 hB_o
  unfold s_X1_worthBy
  unfold e_X1_worthBy_6
  refine T_qB (tl_X1_worthBy_6 o x1 x2 (-9) 0 hB_o (by omega) (by omega) (by omega) (by omega) (by omega)) (fun r4 hc_r4 hp5 => ?_)
  obtain ⟨x3_6, q_x3_6⟩ : ∃ q, q = r4 := ⟨_, rfl⟩
  subst q_x3_6
  have hp5 : (-9 ≤ x3_6 ∧ x3_6 ≤ 100000) ∧ (x3_6 = -9 ∨ 0 ≤ x3_6) := hp5
  have hps_hp5 := hp5
  obtain ⟨hp5_0, hp5_1⟩ := hps_hp5
  show T (b_X1_worthBy_51 o x3_6) _
  unfold b_X1_worthBy_51
  refine T_some ?_
  show (-9 ≤ x3_6 ∧ x3_6 ≤ 100000) ∧ (x3_6 = -9 ∨ 0 ≤ x3_6)
  exact ⟨(by omega), (by omega)⟩
set_option maxRecDepth 20000 in
set_option maxHeartbeats 4000000 in
theorem tl_X1_firstWorth_2 (o : OO) (x1 : Int) (i_x2 : Int) (hB_o : BoxC o) (k0 : 0 ≤ x1 ∧ x1 ≤ 31) (v0 : 0 ≤ i_x2 ∧ i_x2 ≤ o.1 10 13) (v1 : NF o x1 i_x2) : T (loopW (fun s => l_X1_firstWorth_2 o x1 s) i_x2) (Sum.elim (fun r => (0 ≤ r ∧ r < o.1 10 13)) (fun _ => (NF o x1 (o.1 10 13)))) := by
  refine T_loop (fun s => (0 ≤ s ∧ s ≤ o.1 10 13) ∧ (NF o x1 s)) (fun s => (o.1 10 13 - s).toNat) ⟨v0, v1⟩ (fun s hs => ?_)
  obtain ⟨x2, q_x2⟩ : ∃ q, q = s := ⟨_, rfl⟩
  subst q_x2
  have hs : (0 ≤ x2 ∧ x2 ≤ o.1 10 13) ∧ (NF o x1 x2) := hs
  obtain ⟨w0, w1⟩ := hs
  have g10_13_o := bC_10_13 hB_o
  have g10_12_o := bC_10_12 hB_o
  show T (l_X1_firstWorth_2 o x1 x2) _
  unfold l_X1_firstWorth_2
  refine T_qLt ⟨by omega, by omega⟩ ⟨by omega, by omega⟩ (fun h1 => ?_) (fun h1 => ?_)
  ·
    refine T_qIn ⟨by omega, by omega⟩ ?_
    refine T_qNm (fun n4 e_n4 => ?_)
    have b_n4 : 0 ≤ n4 ∧ n4 ≤ 31 := by rw [e_n4]; exact bC_19 hB_o _
    refine T_qEq ⟨by omega, by omega⟩ ⟨by omega, by omega⟩ (fun h2 => ?_) (fun h2 => ?_)
    ·
      refine T_some ?_
      show (0 ≤ x2 ∧ x2 < o.1 10 13)
      exact (by omega)
    ·
      refine T_some ?_
      show ((0 ≤ (x2 + 1) ∧ (x2 + 1) ≤ o.1 10 13) ∧ (NF o x1 (x2 + 1))) ∧ (o.1 10 13 - (x2 + 1)).toNat < (o.1 10 13 - x2).toNat
      exact ⟨⟨(by omega), (by first | exact NF_0 | exact NF_s w1 (by omega) (by omega) | (intro k hk; exact w1 k (by omega)))⟩, by omega⟩
  ·
    refine T_some ?_
    show (NF o x1 (o.1 10 13))
    exact (by first | exact NF_0 | exact NF_s w1 (by omega) (by omega) | (intro k hk; exact w1 k (by omega)))
set_option maxRecDepth 20000 in
set_option maxHeartbeats 4000000 in
theorem t_X1_firstWorth (o : OO) (x1 : Int) (hB_o : BoxC o) (k0 : 0 ≤ x1) (k1 : x1 < o.1 10 12) (k2 : HTC o) : T (s_X1_firstWorth o x1) (fun v => (0 ≤ v ∧ v ≤ 100000)) := by
  have g10_13_o := bC_10_13 hB_o
  have g10_12_o := bC_10_12 hB_o
  unfold s_X1_firstWorth
  unfold e_X1_firstWorth_2
  refine T_qB (tl_X1_firstWorth_2 o x1 0 hB_o (by omega) (by omega) (by first | exact NF_0 | exact NF_s w1 (by omega) (by omega) | (intro k hk; exact w1 k (by omega)))) (fun r3 hc_r3 hp4 => ?_)
  rcases r3 with r3 | r3
  ·
    obtain ⟨x2_5, q_x2_5⟩ : ∃ q, q = r3 := ⟨_, rfl⟩
    subst q_x2_5
    have hp4 : (0 ≤ x2_5 ∧ x2_5 < o.1 10 13) := hp4
    show T (b_X1_firstWorth_20 o x2_5) _
    unfold b_X1_firstWorth_20
    refine T_qIn ⟨by omega, by omega⟩ ?_
    refine T_qNm (fun n2 e_n2 => ?_)
    have b_n2 : 0 ≤ n2 ∧ n2 ≤ 100000 := by rw [e_n2]; exact bC_21 hB_o _
    refine T_some ?_
    show (0 ≤ n2 ∧ n2 ≤ 100000)
    exact (by omega)
  ·
    have hp4 : (NF o x1 (o.1 10 13)) := hp4
    show T (b_X1_firstWorth_33 o) _
    have hw9 : NF o x1 (o.1 10 13) := hp4
    unfold b_X1_firstWorth_33
    refine T_some ?_
    show (0 ≤ (-9) ∧ (-9) ≤ 100000)
    exact (by exfalso; obtain ⟨k, q1, q2⟩ := k2 x1 k0 k1; exact hw9 k q1 q2)
