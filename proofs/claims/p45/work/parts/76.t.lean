set_option maxRecDepth 20000 in
set_option maxHeartbeats 4000000 in
theorem t_X4_lengthOf (o : OO) (x1 : Int) (hB_o : BoxC o) (k0 : 0 ≤ x1 ∧ x1 ≤ 23) : T (s_X4_lengthOf o x1) (fun v => (0 ≤ v ∧ v ≤ 64)) := by
  unfold s_X4_lengthOf
  refine T_qIn ⟨by omega, by omega⟩ ?_
  refine T_qNm (fun n2 e_n2 => ?_)
  have b_n2 : 0 ≤ n2 ∧ n2 ≤ 64 := by rw [e_n2]; exact bC_36 hB_o _
  refine T_some ?_
  show (0 ≤ n2 ∧ n2 ≤ 64)
  exact (by omega)
set_option maxRecDepth 20000 in
set_option maxHeartbeats 4000000 in
theorem t_X11_mark (o : OO) (x1 : Int) (x2 : Int) (hB_o : BoxC o) (k0 : inR x1) (k1 : inR x2) : T (s_X11_mark o x1 x2) (fun v => BoxC v.2 ∧ (Fr [(0, 17), (77, 9999)] o v.2)) := by
  have fr_o : Fr [(0, 17), (77, 9999)] o o := Fr.rf
  have g32_13_o := bC_32_13 hB_o
  unfold s_X11_mark
  refine T_qB (t_X4_exists o x1 hB_o (by omega)) (fun r1 hc_r1 hp1 => ?_)
  replace hp1 : ((r1 = 1 ∧ (0 ≤ x1 ∧ x1 < o.1 32 13)) ∨ (r1 = 0 ∧ ¬ (0 ≤ x1 ∧ x1 < o.1 32 13))) := hp1
  refine T_qEq ⟨by omega, by omega⟩ ⟨by decide, by decide⟩ (fun h2 => ?_) (fun h2 => ?_)
  ·
    unfold b_X11_mark_22
    refine T_some ?_
    show BoxC o ∧ (Fr [(0, 17), (77, 9999)] o o)
    exact ⟨hB_o, fr_o⟩
  ·
    refine T_qLt ⟨by omega, by omega⟩ ⟨by decide, by decide⟩ (fun h3 => ?_) (fun h3 => ?_)
    ·
      unfold b_X11_mark_22
      refine T_some ?_
      show BoxC o ∧ (Fr [(0, 17), (77, 9999)] o o)
      exact ⟨hB_o, fr_o⟩
    ·
      refine T_qLt ⟨by decide, by decide⟩ ⟨by omega, by omega⟩ (fun h4 => ?_) (fun h4 => ?_)
      ·
        unfold b_X11_mark_22
        refine T_some ?_
        show BoxC o ∧ (Fr [(0, 17), (77, 9999)] o o)
        exact ⟨hB_o, fr_o⟩
      ·
        refine T_qB (t_X4_isOf o x1 x2 hB_o (by omega) (by omega)) (fun r3 hc_r3 hp5 => ?_)
        replace hp5 : (0 ≤ r3 ∧ r3 ≤ 1) := hp5
        refine T_qEq ⟨by omega, by omega⟩ ⟨by decide, by decide⟩ (fun h6 => ?_) (fun h6 => ?_)
        ·
          refine T_qB2 (t_X11_found o 3 hB_o (by omega)) (fun r19 o21 hc_r19 hp7 => ?_)
          replace hp7 : BoxC o21 ∧ (Fr [(0, 17), (77, 9999)] o o21) ∧ (r19 = -3) := hp7
          obtain ⟨hB_o21, fc_o21, hp7⟩ := hp7
          have fr_o21 : Fr [(0, 17), (77, 9999)] o o21 := Fr.tr fr_o fc_o21 rfl
          have g32_13_o21 : o21.1 32 13 = o.1 32 13 := fc_o21.1 32 13 rfl
          refine T_some ?_
          show BoxC o21 ∧ (Fr [(0, 17), (77, 9999)] o o21)
          exact ⟨hB_o21, fr_o21⟩
        ·
          refine T_qEq ⟨by omega, by omega⟩ ⟨by decide, by decide⟩ (fun h8 => ?_) (fun h8 => ?_)
          ·
            refine T_qB (t_X4_lengthOf o x1 hB_o (by omega)) (fun r5 hc_r5 hp9 => ?_)
            replace hp9 : (0 ≤ r5 ∧ r5 ≤ 64) := hp9
            refine T_some ?_
            show BoxC o ∧ (Fr [(0, 17), (77, 9999)] o o)
            exact ⟨hB_o, fr_o⟩
          ·
            refine T_qEq ⟨by omega, by omega⟩ ⟨by decide, by decide⟩ (fun h10 => ?_) (fun h10 => ?_)
            ·
              refine T_qB (t_X4_cellAt o x1 0 hB_o (by omega) (by omega)) (fun r7 hc_r7 hp11 => ?_)
              replace hp11 : (-9 ≤ r7 ∧ r7 ≤ 63) := hp11
              refine T_some ?_
              show BoxC o ∧ (Fr [(0, 17), (77, 9999)] o o)
              exact ⟨hB_o, fr_o⟩
            ·
              refine T_qEq ⟨by omega, by omega⟩ ⟨by decide, by decide⟩ (fun h12 => ?_) (fun h12 => ?_)
              ·
                refine T_qB (t_X4_amountOf o x1 hB_o (by omega)) (fun r9 hc_r9 hp13 => ?_)
                replace hp13 : (0 ≤ r9 ∧ r9 ≤ 10000000) := hp13
                refine T_some ?_
                show BoxC o ∧ (Fr [(0, 17), (77, 9999)] o o)
                exact ⟨hB_o, fr_o⟩
              ·
                refine T_qEq ⟨by omega, by omega⟩ ⟨by decide, by decide⟩ (fun h14 => ?_) (fun h14 => ?_)
                ·
                  refine T_qB (t_X4_partyOf o x1 hB_o (by omega)) (fun r11 hc_r11 hp15 => ?_)
                  replace hp15 : (0 ≤ r11 ∧ r11 ≤ 63) := hp15
                  refine T_some ?_
                  show BoxC o ∧ (Fr [(0, 17), (77, 9999)] o o)
                  exact ⟨hB_o, fr_o⟩
                ·
                  refine T_qEq ⟨by omega, by omega⟩ ⟨by decide, by decide⟩ (fun h16 => ?_) (fun h16 => ?_)
                  ·
                    refine T_qB (t_X4_amountOf o x1 hB_o (by omega)) (fun r13 hc_r13 hp17 => ?_)
                    replace hp17 : (0 ≤ r13 ∧ r13 ≤ 10000000) := hp17
                    refine T_some ?_
                    show BoxC o ∧ (Fr [(0, 17), (77, 9999)] o o)
                    exact ⟨hB_o, fr_o⟩
                  ·
                    refine T_qEq ⟨by omega, by omega⟩ ⟨by decide, by decide⟩ (fun h18 => ?_) (fun h18 => ?_)
                    ·
                      refine T_qB (t_X11_couldCome o x1 hB_o (by omega)) (fun r15 hc_r15 hp19 => ?_)
                      replace hp19 : (0 ≤ r15 ∧ r15 ≤ 40) := hp19
                      refine T_some ?_
                      show BoxC o ∧ (Fr [(0, 17), (77, 9999)] o o)
                      exact ⟨hB_o, fr_o⟩
                    ·
                      refine T_qB (t_X4_amountOf o x1 hB_o (by omega)) (fun r17 hc_r17 hp20 => ?_)
                      replace hp20 : (0 ≤ r17 ∧ r17 ≤ 10000000) := hp20
                      refine T_some ?_
                      show BoxC o ∧ (Fr [(0, 17), (77, 9999)] o o)
                      exact ⟨hB_o, fr_o⟩
set_option maxRecDepth 20000 in
set_option maxHeartbeats 4000000 in
theorem tl_X11_mean_16 (o : OO) (x1 : Int) (i_x2 : Int) (i_x3 : Int) (i_x4 : Int) (hB_o : BoxC o) (k0 : inR x1) (v0 : 0 ≤ i_x2 ∧ i_x2 ≤ i_x4) (v1 : 0 ≤ i_x4 ∧ i_x4 ≤ o.1 10 12) (v2 : 0 ≤ i_x3 ∧ i_x3 ≤ 100000 * i_x4) : T (loopW (fun s => l_X11_mean_16 o x1 s.1 s.2.1 s.2.2) (i_x2, i_x3, i_x4)) (fun r => (0 ≤ r.1 ∧ r.1 ≤ o.1 10 12) ∧ (0 ≤ r.2 ∧ r.2 ≤ 3200000)) := by
  refine T_loop (fun s => (0 ≤ s.1 ∧ s.1 ≤ s.2.2) ∧ (0 ≤ s.2.2 ∧ s.2.2 ≤ o.1 10 12) ∧ (0 ≤ s.2.1 ∧ s.2.1 ≤ 100000 * s.2.2)) (fun s => (o.1 10 12 - s.2.2).toNat) (by exact ⟨v0, v1, v2⟩) (fun s hs => ?_)
  obtain ⟨x2, x3, x4⟩ := s
  replace hs : (0 ≤ x2 ∧ x2 ≤ x4) ∧ (0 ≤ x4 ∧ x4 ≤ o.1 10 12) ∧ (0 ≤ x3 ∧ x3 ≤ 100000 * x4) := hs
  obtain ⟨w0, w1, w2⟩ := hs
  have g10_12_o := bC_10_12 hB_o
  show T (l_X11_mean_16 o x1 x2 x3 x4) _
  unfold l_X11_mean_16
  refine T_qB (t_X1_number o hB_o) (fun r8 hc_r8 hp1 => ?_)
  replace hp1 : (r8 = o.1 10 12) := hp1
  refine T_qLt ⟨by omega, by omega⟩ ⟨by omega, by omega⟩ (fun h2 => ?_) (fun h2 => ?_)
  ·
    refine T_qB (t_X1_stands o x4 x1 hB_o (by omega) (by omega)) (fun r10 hc_r10 hp3 => ?_)
    replace hp3 : (0 ≤ r10 ∧ r10 ≤ 1) := hp3
    refine T_qEq ⟨by omega, by omega⟩ ⟨by decide, by decide⟩ (fun h4 => ?_) (fun h4 => ?_)
    ·
      unfold b_X11_mean_59
      refine T_some ?_
      show ((0 ≤ x2 ∧ x2 ≤ (x4 + 1)) ∧ (0 ≤ (x4 + 1) ∧ (x4 + 1) ≤ o.1 10 12) ∧ (0 ≤ x3 ∧ x3 ≤ 100000 * (x4 + 1))) ∧ (o.1 10 12 - (x4 + 1)).toNat < (o.1 10 12 - x4).toNat
      exact ⟨⟨(by omega), (by omega), (by omega)⟩, by omega⟩
    ·
      refine T_qB (t_X1_latestWorth o x4 hB_o (by omega)) (fun r12 hc_r12 hp5 => ?_)
      replace hp5 : (0 ≤ r12 ∧ r12 ≤ 100000) := hp5
      refine T_qNm (fun n14 e_n14 => ?_)
      unfold b_X11_mean_59
      refine T_some ?_
      show ((0 ≤ (x2 + 1) ∧ (x2 + 1) ≤ (x4 + 1)) ∧ (0 ≤ (x4 + 1) ∧ (x4 + 1) ≤ o.1 10 12) ∧ (0 ≤ n14 ∧ n14 ≤ 100000 * (x4 + 1))) ∧ (o.1 10 12 - (x4 + 1)).toNat < (o.1 10 12 - x4).toNat
      exact ⟨⟨(by omega), (by omega), (by omega)⟩, by omega⟩
  ·
    refine T_some ?_
    show (0 ≤ x2 ∧ x2 ≤ o.1 10 12) ∧ (0 ≤ x3 ∧ x3 ≤ 3200000)
    exact ⟨(by omega), (by omega)⟩
set_option maxRecDepth 20000 in
set_option maxHeartbeats 4000000 in
theorem t_X11_mean (o : OO) (x1 : Int) (hB_o : BoxC o) (k0 : inR x1) : T (s_X11_mean o x1) (fun v => BoxC v.2 ∧ (Fr [(0, 14), (0, 17), (77, 9999)] o v.2)) := by
  have fr_o : Fr [(0, 14), (0, 17), (77, 9999)] o o := Fr.rf
  have g10_12_o := bC_10_12 hB_o
  unfold s_X11_mean
  refine T_qB (t_X1_isUse x1 (by omega)) (fun r15 hc_r15 hp6 => ?_)
  replace hp6 : ((r15 = 1 ∧ (0 ≤ x1 ∧ x1 ≤ 2)) ∨ (r15 = 0 ∧ ¬ (0 ≤ x1 ∧ x1 ≤ 2))) := hp6
  refine T_qEq ⟨by omega, by omega⟩ ⟨by decide, by decide⟩ (fun h7 => ?_) (fun h7 => ?_)
  ·
    refine T_some ?_
    show BoxC o ∧ (Fr [(0, 14), (0, 17), (77, 9999)] o o)
    exact ⟨hB_o, fr_o⟩
  ·
    unfold e_X11_mean_16
    refine T_qB (tl_X11_mean_16 o x1 0 0 0 hB_o (by omega) (by omega) (by omega) (by omega)) (fun r8 hc_r8 hp9 => ?_)
    obtain ⟨x2_10, x3_11⟩ := r8
    replace hp9 : (0 ≤ x2_10 ∧ x2_10 ≤ o.1 10 12) ∧ (0 ≤ x3_11 ∧ x3_11 ≤ 3200000) := hp9
    have hps_hp9 := hp9
    obtain ⟨hp9_0, hp9_1⟩ := hps_hp9
    replace hp9 := hid hp9
    show T (b_X11_mean_65 o x2_10 x3_11) _
    unfold b_X11_mean_65
    refine T_qEq ⟨by omega, by omega⟩ ⟨by decide, by decide⟩ (fun h12 => ?_) (fun h12 => ?_)
    ·
      refine T_qB2 (t_X11_found o 4 hB_o (by omega)) (fun r5 o7 hc_r5 hp13 => ?_)
      replace hp13 : BoxC o7 ∧ (Fr [(0, 17), (77, 9999)] o o7) ∧ (r5 = -3) := hp13
      obtain ⟨hB_o7, fc_o7, hp13⟩ := hp13
      have fr_o7 : Fr [(0, 14), (0, 17), (77, 9999)] o o7 := Fr.tr fr_o fc_o7 rfl
      have g10_12_o7 : o7.1 10 12 = o.1 10 12 := fc_o7.1 10 12 rfl
      refine T_some ?_
      show BoxC o7 ∧ (Fr [(0, 14), (0, 17), (77, 9999)] o o7)
      exact ⟨hB_o7, fr_o7⟩
    ·
      refine T_qDv ⟨⟨by omega, by omega⟩, ⟨by omega, by omega⟩, by omega⟩ ?_
      have jd14 := jq_abs (a := x3_11) (b := x2_10) (by omega)
      refine T_qB2 (t_X11_tell o (jq x3_11 x2_10) hB_o) (fun r2 o4 hc_r2 hp15 => ?_)
      replace hp15 : BoxC o4 ∧ (Fr [(0, 14)] o o4) ∧ (r2 = 1) := hp15
      obtain ⟨hB_o4, fc_o4, hp15⟩ := hp15
      have fr_o4 : Fr [(0, 14), (0, 17), (77, 9999)] o o4 := Fr.tr fr_o fc_o4 rfl
      have g10_12_o4 : o4.1 10 12 = o.1 10 12 := fc_o4.1 10 12 rfl
      refine T_some ?_
      show BoxC o4 ∧ (Fr [(0, 14), (0, 17), (77, 9999)] o o4)
      exact ⟨hB_o4, fr_o4⟩
set_option maxRecDepth 20000 in
set_option maxHeartbeats 4000000 in
theorem t_X4_livedThere (o : OO) (x1 : Int) (x2 : Int) (hB_o : BoxC o) (k0 : 0 ≤ x1 ∧ x1 ≤ 23) : T (s_X4_livedThere o x1 x2) (fun v => (0 ≤ v ∧ v ≤ 1)) := by
  unfold s_X4_livedThere
  refine T_qIn ⟨by omega, by omega⟩ ?_
  refine T_qNm (fun m2 e_m2 => ?_)
  refine T_qJe (fun h1 => ?_) (fun h1 => ?_)
  ·
    unfold b_X4_livedThere_20
    refine T_qZ (Or.inr rfl) ?_
    refine T_some ?_
    show (0 ≤ 1 ∧ 1 ≤ 1)
    exact (by omega)
  ·
    unfold b_X4_livedThere_20
    refine T_qZ (Or.inl rfl) ?_
    refine T_some ?_
    show (0 ≤ 0 ∧ 0 ≤ 1)
    exact (by omega)
set_option maxRecDepth 20000 in
set_option maxHeartbeats 4000000 in
theorem t_X1_roomsLeft (o : OO) (x1 : Int) (hB_o : BoxC o) (k0 : 0 ≤ x1 ∧ x1 ≤ 31) : T (s_X1_roomsLeft o x1) (fun v => (-40 ≤ v ∧ v ≤ 20) ∧ (v ≤ 0 ∨ o.1 14 x1.toNat ≤ 19)) := by
  unfold s_X1_roomsLeft
  refine T_qB (t_X1_stands o x1 0 hB_o (by omega) (by omega)) (fun r1 hc_r1 hp1 => ?_)
  replace hp1 : (0 ≤ r1 ∧ r1 ≤ 1) := hp1
  refine T_qEq ⟨by omega, by omega⟩ ⟨by decide, by decide⟩ (fun h2 => ?_) (fun h2 => ?_)
  ·
    unfold b_X1_roomsLeft_26
    refine T_some ?_
    show (-40 ≤ 0 ∧ 0 ≤ 20) ∧ (0 ≤ 0 ∨ o.1 14 x1.toNat ≤ 19)
    exact ⟨(by omega), (by omega)⟩
  ·
    refine T_qIn ⟨by omega, by omega⟩ ?_
    refine T_qNm (fun n4 e_n4 => ?_)
    have b_n4 : 0 ≤ n4 ∧ n4 ≤ 20 := by rw [e_n4]; exact bC_13 hB_o _
    refine T_qIn ⟨by omega, by omega⟩ ?_
    refine T_qNm (fun n6 e_n6 => ?_)
    have b_n6 : 0 ≤ n6 ∧ n6 ≤ 40 := by rw [e_n6]; exact bC_14 hB_o _
    unfold b_X1_roomsLeft_26
    refine T_some ?_
    show (-40 ≤ (n4 - n6) ∧ (n4 - n6) ≤ 20) ∧ ((n4 - n6) ≤ 0 ∨ o.1 14 x1.toNat ≤ 19)
    exact ⟨(by omega), (by omega)⟩
set_option maxRecDepth 20000 in
set_option maxHeartbeats 4000000 in
theorem t_X4_setMoved (o : OO) (x1 : Int) (x2 : Int) (x3 : Int) (hB_o : BoxC o) (k0 : 0 ≤ x1 ∧ x1 ≤ 23) (k1 : 0 ≤ x2 ∧ x2 ≤ 10000000) (k2 : 0 ≤ x3 ∧ x3 ≤ 39) : T (s_X4_setMoved o x1 x2 x3) (fun v => BoxC v ∧ (Fr [(41, 9999), (42, 9999)] o v)) := by
  have fr_o : Fr [(41, 9999), (42, 9999)] o o := Fr.rf
  unfold s_X4_setMoved
  refine T_qIn ⟨by omega, by omega⟩ ?_
  refine T_qNm (fun o2 e_o2 => ?_)
  have hB_o2 : BoxC o2 := by rw [e_o2]; exact Box.s1 hB_o (show 0 ≤ x2 ∧ x2 ≤ 10000000 from ⟨by omega, by omega⟩)
  have fr_o2 : Fr [(41, 9999), (42, 9999)] o o2 := by rw [e_o2]; exact Fr.s1 fr_o rfl
  refine T_qIn ⟨by omega, by omega⟩ ?_
  refine T_qNm (fun o4 e_o4 => ?_)
  have hB_o4 : BoxC o4 := by rw [e_o4]; exact Box.s1 hB_o2 (show 0 ≤ x3 ∧ x3 ≤ 63 from ⟨by omega, by omega⟩)
  have fr_o4 : Fr [(41, 9999), (42, 9999)] o o4 := by rw [e_o4]; exact Fr.s1 fr_o2 rfl
  refine T_some ?_
  show BoxC o4 ∧ (Fr [(41, 9999), (42, 9999)] o o4)
  exact ⟨hB_o4, fr_o4⟩
set_option maxRecDepth 20000 in
set_option maxHeartbeats 4000000 in
theorem t_X5_setHome (o : OO) (x1 : Int) (x2 : Int) (hB_o : BoxC o) (k0 : 0 ≤ x1 ∧ x1 ≤ 39) (k1 : x2 = -9 ∨ (0 ≤ x2 ∧ x2 ≤ 31)) : T (s_X5_setHome o x1 x2) (fun v => BoxC v ∧ (Fr [(24, 9999)] o v)) := by
  have fr_o : Fr [(24, 9999)] o o := Fr.rf
  unfold s_X5_setHome
  refine T_qIn ⟨by omega, by omega⟩ ?_
  refine T_qNm (fun o2 e_o2 => ?_)
  have hB_o2 : BoxC o2 := by rw [e_o2]; exact Box.s1 hB_o (show x2 = -9 ∨ (0 ≤ x2 ∧ x2 ≤ 31) from (by omega))
  have fr_o2 : Fr [(24, 9999)] o o2 := by rw [e_o2]; exact Fr.s1 fr_o rfl
  refine T_some ?_
  show BoxC o2 ∧ (Fr [(24, 9999)] o o2)
  exact ⟨hB_o2, fr_o2⟩
set_option maxRecDepth 20000 in
set_option maxHeartbeats 4000000 in
theorem t_X1_enter (o : OO) (x1 : Int) (hB_o : BoxC o) (k0 : 0 ≤ x1 ∧ x1 ≤ 31) (k1 : o.1 14 x1.toNat ≤ 39) : T (s_X1_enter o x1) (fun v => BoxC v ∧ (Fr [(14, 9999)] o v)) := by
  have fr_o : Fr [(14, 9999)] o o := Fr.rf
  unfold s_X1_enter
  refine T_qIn ⟨by omega, by omega⟩ ?_
  refine T_qNm (fun n2 e_n2 => ?_)
  have b_n2 : 0 ≤ n2 ∧ n2 ≤ 40 := by rw [e_n2]; exact bC_14 hB_o _
  refine T_qIn ⟨by omega, by omega⟩ ?_
  refine T_qNm (fun o4 e_o4 => ?_)
  have hB_o4 : BoxC o4 := by rw [e_o4]; exact Box.s1 hB_o (show 0 ≤ (n2 + 1) ∧ (n2 + 1) ≤ 40 from ⟨by omega, by omega⟩)
  have fr_o4 : Fr [(14, 9999)] o o4 := by rw [e_o4]; exact Fr.s1 fr_o rfl
  refine T_some ?_
  show BoxC o4 ∧ (Fr [(14, 9999)] o o4)
  exact ⟨hB_o4, fr_o4⟩
set_option maxRecDepth 20000 in
set_option maxHeartbeats 4000000 in
theorem t_X11_settle (o : OO) (x1 : Int) (x2 : Int) (hB_o : BoxC o) (k0 : 0 ≤ x1 ∧ x1 ≤ 39) (k1 : 0 ≤ x2 ∧ x2 ≤ 31) (k2 : o.1 14 x2.toNat ≤ 39) : T (s_X11_settle o x1 x2) (fun v => BoxC v ∧ (Fr [(14, 9999), (24, 9999)] o v)) := by
  have fr_o : Fr [(14, 9999), (24, 9999)] o o := Fr.rf
  unfold s_X11_settle
  refine T_qB (t_X5_setHome o x1 x2 hB_o (by omega) (by omega)) (fun o3 hc_o3 hp1 => ?_)
  replace hp1 : BoxC o3 ∧ (Fr [(24, 9999)] o o3) := hp1
  obtain ⟨hB_o3, fc_o3⟩ := hp1
  have fr_o3 : Fr [(14, 9999), (24, 9999)] o o3 := Fr.tr fr_o fc_o3 rfl
  have hq8 := fc_o3.1 14 x2.toNat rfl
  refine T_qB (t_X1_enter o3 x2 hB_o3 (by omega) (by omega)) (fun o6 hc_o6 hp2 => ?_)
  replace hp2 : BoxC o6 ∧ (Fr [(14, 9999)] o3 o6) := hp2
  obtain ⟨hB_o6, fc_o6⟩ := hp2
  have fr_o6 : Fr [(14, 9999), (24, 9999)] o o6 := Fr.tr fr_o3 fc_o6 rfl
  refine T_some ?_
  show BoxC o6 ∧ (Fr [(14, 9999), (24, 9999)] o o6)
  exact ⟨hB_o6, fr_o6⟩
set_option maxRecDepth 20000 in
set_option maxHeartbeats 4000000 in
theorem t_X11_moved (o : OO) (x1 : Int) (x2 : Int) (x3 : Int) (hB_o : BoxC o) (k0 : inR x1) (k1 : inR x2) (k2 : inR x3) : T (s_X11_moved o x1 x2 x3) (fun v => BoxC v.2 ∧ (Fr [(0, 14), (0, 17), (14, 9999), (24, 9999), (32, 13), (33, 9999), (34, 9999), (35, 9999), (40, 9999), (41, 9999), (42, 9999), (77, 9999)] o v.2)) := by
  have fr_o : Fr [(0, 14), (0, 17), (14, 9999), (24, 9999), (32, 13), (33, 9999), (34, 9999), (35, 9999), (40, 9999), (41, 9999), (42, 9999), (77, 9999)] o o := Fr.rf
  have g0_13_o := bC_0_13 hB_o
  have g32_13_o := bC_32_13 hB_o
  have g23_4_o := bC_23_4 hB_o
  have g10_12_o := bC_10_12 hB_o
  unfold s_X11_moved
  refine T_qB (t_X4_exists o x1 hB_o (by omega)) (fun r1 hc_r1 hp1 => ?_)
  replace hp1 : ((r1 = 1 ∧ (0 ≤ x1 ∧ x1 < o.1 32 13)) ∨ (r1 = 0 ∧ ¬ (0 ≤ x1 ∧ x1 < o.1 32 13))) := hp1
  refine T_qEq ⟨by omega, by omega⟩ ⟨by decide, by decide⟩ (fun h2 => ?_) (fun h2 => ?_)
  ·
    unfold b_X11_moved_33
    refine T_some ?_
    show BoxC o ∧ (Fr [(0, 14), (0, 17), (14, 9999), (24, 9999), (32, 13), (33, 9999), (34, 9999), (35, 9999), (40, 9999), (41, 9999), (42, 9999), (77, 9999)] o o)
    exact ⟨hB_o, fr_o⟩
  ·
    refine T_qB (t_X5_exists o x2 hB_o (by omega)) (fun r3 hc_r3 hp3 => ?_)
    replace hp3 : ((r3 = 1 ∧ (0 ≤ x2 ∧ x2 < o.1 23 4)) ∨ (r3 = 0 ∧ ¬ (0 ≤ x2 ∧ x2 < o.1 23 4))) := hp3
    refine T_qEq ⟨by omega, by omega⟩ ⟨by decide, by decide⟩ (fun h4 => ?_) (fun h4 => ?_)
    ·
      unfold b_X11_moved_33
      refine T_some ?_
      show BoxC o ∧ (Fr [(0, 14), (0, 17), (14, 9999), (24, 9999), (32, 13), (33, 9999), (34, 9999), (35, 9999), (40, 9999), (41, 9999), (42, 9999), (77, 9999)] o o)
      exact ⟨hB_o, fr_o⟩
    ·
      refine T_qB (t_X1_exists o x3 hB_o (by omega)) (fun r5 hc_r5 hp5 => ?_)
      replace hp5 : ((r5 = 1 ∧ (0 ≤ x3 ∧ x3 < o.1 10 12)) ∨ (r5 = 0 ∧ ¬ (0 ≤ x3 ∧ x3 < o.1 10 12))) := hp5
      refine T_qEq ⟨by omega, by omega⟩ ⟨by decide, by decide⟩ (fun h6 => ?_) (fun h6 => ?_)
      ·
        unfold b_X11_moved_33
        refine T_some ?_
        show BoxC o ∧ (Fr [(0, 14), (0, 17), (14, 9999), (24, 9999), (32, 13), (33, 9999), (34, 9999), (35, 9999), (40, 9999), (41, 9999), (42, 9999), (77, 9999)] o o)
        exact ⟨hB_o, fr_o⟩
      ·
        refine T_qB (t_X4_number o hB_o) (fun r7 hc_r7 hp7 => ?_)
        replace hp7 : (r7 = o.1 32 13) := hp7
        refine T_qLt ⟨by omega, by omega⟩ ⟨by decide, by decide⟩ (fun h8 => ?_) (fun h8 => ?_)
        ·
          refine T_qB (t_X4_kindOf o x1 hB_o (by omega)) (fun r9 hc_r9 hp9 => ?_)
          replace hp9 : (0 ≤ r9 ∧ r9 ≤ 6) := hp9
          refine T_qEq ⟨by omega, by omega⟩ ⟨by decide, by decide⟩ (fun h10 => ?_) (fun h10 => ?_)
          ·
            refine T_qB (t_X4_livedThere o x1 x2 hB_o (by omega)) (fun r11 hc_r11 hp11 => ?_)
            replace hp11 : (0 ≤ r11 ∧ r11 ≤ 1) := hp11
            refine T_qEq ⟨by omega, by omega⟩ ⟨by decide, by decide⟩ (fun h12 => ?_) (fun h12 => ?_)
            ·
              unfold b_X11_moved_105
              refine T_some ?_
              show BoxC o ∧ (Fr [(0, 14), (0, 17), (14, 9999), (24, 9999), (32, 13), (33, 9999), (34, 9999), (35, 9999), (40, 9999), (41, 9999), (42, 9999), (77, 9999)] o o)
              exact ⟨hB_o, fr_o⟩
            ·
              refine T_qB (t_X5_homeOf o x2 hB_o (by omega)) (fun r13 hc_r13 hp13 => ?_)
              replace hp13 : (r13 = -9 ∨ (0 ≤ r13 ∧ r13 ≤ 31)) ∧ (r13 = o.1 24 x2.toNat) := hp13
              have hps_hp13 := hp13
              obtain ⟨hp13_0, hp13_1⟩ := hps_hp13
              replace hp13 := hid hp13
              refine T_qEq ⟨by omega, by omega⟩ ⟨by decide, by decide⟩ (fun h14 => ?_) (fun h14 => ?_)
              ·
                refine T_qB (t_X1_roomsLeft o x3 hB_o (by omega)) (fun r15 hc_r15 hp15 => ?_)
                replace hp15 : (-40 ≤ r15 ∧ r15 ≤ 20) ∧ (r15 ≤ 0 ∨ o.1 14 x3.toNat ≤ 19) := hp15
                have hps_hp15 := hp15
                obtain ⟨hp15_0, hp15_1⟩ := hps_hp15
                replace hp15 := hid hp15
                refine T_qLt ⟨by omega, by omega⟩ ⟨by decide, by decide⟩ (fun h16 => ?_) (fun h16 => ?_)
                ·
                  unfold b_X11_moved_105
                  refine T_some ?_
                  show BoxC o ∧ (Fr [(0, 14), (0, 17), (14, 9999), (24, 9999), (32, 13), (33, 9999), (34, 9999), (35, 9999), (40, 9999), (41, 9999), (42, 9999), (77, 9999)] o o)
                  exact ⟨hB_o, fr_o⟩
                ·
                  refine T_qB (t_X11_inForce o 3 hB_o (by omega)) (fun r17 hc_r17 hp17 => ?_)
                  replace hp17 : (0 ≤ r17 ∧ r17 ≤ 9999) := hp17
                  refine T_qB2 (t_X4_add o 4 (o.1 0 13) x1 hB_o (by omega) (by omega) (by omega) (by omega)) (fun r19 o21 hc_r19 hp18 => ?_)
                  replace hp18 : BoxC o21 ∧ (Fr [(32, 13), (33, 9999), (34, 9999), (35, 9999), (40, 9999)] o o21) ∧ (r19 = o.1 32 13) ∧ (o21.1 32 13 = o.1 32 13 + 1) := hp18
                  obtain ⟨hB_o21, fc_o21, hp18⟩ := hp18
                  have fr_o21 : Fr [(0, 14), (0, 17), (14, 9999), (24, 9999), (32, 13), (33, 9999), (34, 9999), (35, 9999), (40, 9999), (41, 9999), (42, 9999), (77, 9999)] o o21 := Fr.tr fr_o fc_o21 rfl
                  have g0_13_o21 : o21.1 0 13 = o.1 0 13 := fc_o21.1 0 13 rfl
                  have g32_13_o21 := bC_32_13 hB_o21
                  have g23_4_o21 : o21.1 23 4 = o.1 23 4 := fc_o21.1 23 4 rfl
                  have g10_12_o21 : o21.1 10 12 = o.1 10 12 := fc_o21.1 10 12 rfl
                  have hq7 := fc_o21.1 14 x3.toNat rfl
                  refine T_qB (t_X4_setMoved o21 r19 r17 x2 hB_o21 (by omega) (by omega) (by omega)) (fun o24 hc_o24 hp19 => ?_)
                  replace hp19 : BoxC o24 ∧ (Fr [(41, 9999), (42, 9999)] o21 o24) := hp19
                  obtain ⟨hB_o24, fc_o24⟩ := hp19
                  have fr_o24 : Fr [(0, 14), (0, 17), (14, 9999), (24, 9999), (32, 13), (33, 9999), (34, 9999), (35, 9999), (40, 9999), (41, 9999), (42, 9999), (77, 9999)] o o24 := Fr.tr fr_o21 fc_o24 rfl
                  have g0_13_o24 : o24.1 0 13 = o21.1 0 13 := fc_o24.1 0 13 rfl
                  have g32_13_o24 : o24.1 32 13 = o21.1 32 13 := fc_o24.1 32 13 rfl
                  have g23_4_o24 : o24.1 23 4 = o21.1 23 4 := fc_o24.1 23 4 rfl
                  have g10_12_o24 : o24.1 10 12 = o21.1 10 12 := fc_o24.1 10 12 rfl
                  have hq8 := fc_o24.1 14 x3.toNat rfl
                  refine T_qB (t_X11_settle o24 x2 x3 hB_o24 (by omega) (by omega) (by omega)) (fun o27 hc_o27 hp20 => ?_)
                  replace hp20 : BoxC o27 ∧ (Fr [(14, 9999), (24, 9999)] o24 o27) := hp20
                  obtain ⟨hB_o27, fc_o27⟩ := hp20
                  have fr_o27 : Fr [(0, 14), (0, 17), (14, 9999), (24, 9999), (32, 13), (33, 9999), (34, 9999), (35, 9999), (40, 9999), (41, 9999), (42, 9999), (77, 9999)] o o27 := Fr.tr fr_o24 fc_o27 rfl
                  have g0_13_o27 : o27.1 0 13 = o24.1 0 13 := fc_o27.1 0 13 rfl
                  have g32_13_o27 : o27.1 32 13 = o24.1 32 13 := fc_o27.1 32 13 rfl
                  have g23_4_o27 : o27.1 23 4 = o24.1 23 4 := fc_o27.1 23 4 rfl
                  have g10_12_o27 : o27.1 10 12 = o24.1 10 12 := fc_o27.1 10 12 rfl
                  refine T_qB2 (t_X11_tell o27 r17 hB_o27) (fun r28 o30 hc_r28 hp21 => ?_)
                  replace hp21 : BoxC o30 ∧ (Fr [(0, 14)] o27 o30) ∧ (r28 = 1) := hp21
                  obtain ⟨hB_o30, fc_o30, hp21⟩ := hp21
                  have fr_o30 : Fr [(0, 14), (0, 17), (14, 9999), (24, 9999), (32, 13), (33, 9999), (34, 9999), (35, 9999), (40, 9999), (41, 9999), (42, 9999), (77, 9999)] o o30 := Fr.tr fr_o27 fc_o30 rfl
                  have g0_13_o30 : o30.1 0 13 = o27.1 0 13 := fc_o30.1 0 13 rfl
                  have g32_13_o30 : o30.1 32 13 = o27.1 32 13 := fc_o30.1 32 13 rfl
                  have g23_4_o30 : o30.1 23 4 = o27.1 23 4 := fc_o30.1 23 4 rfl
                  have g10_12_o30 : o30.1 10 12 = o27.1 10 12 := fc_o30.1 10 12 rfl
                  refine T_some ?_
                  show BoxC o30 ∧ (Fr [(0, 14), (0, 17), (14, 9999), (24, 9999), (32, 13), (33, 9999), (34, 9999), (35, 9999), (40, 9999), (41, 9999), (42, 9999), (77, 9999)] o o30)
                  exact ⟨hB_o30, fr_o30⟩
              ·
                unfold b_X11_moved_105
                refine T_some ?_
                show BoxC o ∧ (Fr [(0, 14), (0, 17), (14, 9999), (24, 9999), (32, 13), (33, 9999), (34, 9999), (35, 9999), (40, 9999), (41, 9999), (42, 9999), (77, 9999)] o o)
                exact ⟨hB_o, fr_o⟩
          ·
            refine T_qB2 (t_X11_found o 3 hB_o (by omega)) (fun r31 o33 hc_r31 hp22 => ?_)
            replace hp22 : BoxC o33 ∧ (Fr [(0, 17), (77, 9999)] o o33) ∧ (r31 = -3) := hp22
            obtain ⟨hB_o33, fc_o33, hp22⟩ := hp22
            have fr_o33 : Fr [(0, 14), (0, 17), (14, 9999), (24, 9999), (32, 13), (33, 9999), (34, 9999), (35, 9999), (40, 9999), (41, 9999), (42, 9999), (77, 9999)] o o33 := Fr.tr fr_o fc_o33 rfl
            have g0_13_o33 : o33.1 0 13 = o.1 0 13 := fc_o33.1 0 13 rfl
            have g32_13_o33 : o33.1 32 13 = o.1 32 13 := fc_o33.1 32 13 rfl
            have g23_4_o33 : o33.1 23 4 = o.1 23 4 := fc_o33.1 23 4 rfl
            have g10_12_o33 : o33.1 10 12 = o.1 10 12 := fc_o33.1 10 12 rfl
            refine T_some ?_
            show BoxC o33 ∧ (Fr [(0, 14), (0, 17), (14, 9999), (24, 9999), (32, 13), (33, 9999), (34, 9999), (35, 9999), (40, 9999), (41, 9999), (42, 9999), (77, 9999)] o o33)
            exact ⟨hB_o33, fr_o33⟩
        ·
          refine T_some ?_
          show BoxC o ∧ (Fr [(0, 14), (0, 17), (14, 9999), (24, 9999), (32, 13), (33, 9999), (34, 9999), (35, 9999), (40, 9999), (41, 9999), (42, 9999), (77, 9999)] o o)
          exact ⟨hB_o, fr_o⟩
set_option maxRecDepth 20000 in
set_option maxHeartbeats 4000000 in
theorem t_X11_noise (o : OO) (x1 : Int) (x2 : Int) (hB_o : BoxC o) (k0 : inR x1) (k1 : inR x2) : T (s_X11_noise o x1 x2) (fun v => BoxC v.2 ∧ (Fr [(0, 14), (0, 17), (77, 9999)] o v.2)) := by
  have fr_o : Fr [(0, 14), (0, 17), (77, 9999)] o o := Fr.rf
  have g32_13_o := bC_32_13 hB_o
  unfold s_X11_noise
  refine T_qB (t_X4_exists o x1 hB_o (by omega)) (fun r1 hc_r1 hp1 => ?_)
  replace hp1 : ((r1 = 1 ∧ (0 ≤ x1 ∧ x1 < o.1 32 13)) ∨ (r1 = 0 ∧ ¬ (0 ≤ x1 ∧ x1 < o.1 32 13))) := hp1
  refine T_qEq ⟨by omega, by omega⟩ ⟨by decide, by decide⟩ (fun h2 => ?_) (fun h2 => ?_)
  ·
    unfold b_X11_noise_22
    refine T_some ?_
    show BoxC o ∧ (Fr [(0, 14), (0, 17), (77, 9999)] o o)
    exact ⟨hB_o, fr_o⟩
  ·
    refine T_qB (t_X8_exists o x2 hB_o (by omega)) (fun r3 hc_r3 hp3 => ?_)
    replace hp3 : ((r3 = 1 ∧ (0 ≤ x2 ∧ x2 < 6)) ∨ (r3 = 0 ∧ ¬ (0 ≤ x2 ∧ x2 < 6))) := hp3
    refine T_qEq ⟨by omega, by omega⟩ ⟨by decide, by decide⟩ (fun h4 => ?_) (fun h4 => ?_)
    ·
      unfold b_X11_noise_22
      refine T_some ?_
      show BoxC o ∧ (Fr [(0, 14), (0, 17), (77, 9999)] o o)
      exact ⟨hB_o, fr_o⟩
    ·
      refine T_qB (t_X4_isOf o x1 1 hB_o (by omega) (by omega)) (fun r5 hc_r5 hp5 => ?_)
      replace hp5 : (0 ≤ r5 ∧ r5 ≤ 1) := hp5
      refine T_qEq ⟨by omega, by omega⟩ ⟨by decide, by decide⟩ (fun h6 => ?_) (fun h6 => ?_)
      ·
        refine T_qB2 (t_X11_found o 3 hB_o (by omega)) (fun r21 o23 hc_r21 hp7 => ?_)
        replace hp7 : BoxC o23 ∧ (Fr [(0, 17), (77, 9999)] o o23) ∧ (r21 = -3) := hp7
        obtain ⟨hB_o23, fc_o23, hp7⟩ := hp7
        have fr_o23 : Fr [(0, 14), (0, 17), (77, 9999)] o o23 := Fr.tr fr_o fc_o23 rfl
        have g32_13_o23 : o23.1 32 13 = o.1 32 13 := fc_o23.1 32 13 rfl
        refine T_some ?_
        show BoxC o23 ∧ (Fr [(0, 14), (0, 17), (77, 9999)] o o23)
        exact ⟨hB_o23, fr_o23⟩
      ·
        refine T_qB (t_X8_isThere o x2 hB_o (by omega)) (fun r7 hc_r7 hp8 => ?_)
        replace hp8 : ((r7 = 1 ∧ (¬ o.1 2 x2.toNat = -1)) ∨ (r7 = 0 ∧ ¬ (¬ o.1 2 x2.toNat = -1))) := hp8
        refine T_qEq ⟨by omega, by omega⟩ ⟨by decide, by decide⟩ (fun h9 => ?_) (fun h9 => ?_)
        ·
          refine T_qB2 (t_X11_found o 1 hB_o (by omega)) (fun r18 o20 hc_r18 hp10 => ?_)
          replace hp10 : BoxC o20 ∧ (Fr [(0, 17), (77, 9999)] o o20) ∧ (r18 = -3) := hp10
          obtain ⟨hB_o20, fc_o20, hp10⟩ := hp10
          have fr_o20 : Fr [(0, 14), (0, 17), (77, 9999)] o o20 := Fr.tr fr_o fc_o20 rfl
          have g32_13_o20 : o20.1 32 13 = o.1 32 13 := fc_o20.1 32 13 rfl
          refine T_some ?_
          show BoxC o20 ∧ (Fr [(0, 14), (0, 17), (77, 9999)] o o20)
          exact ⟨hB_o20, fr_o20⟩
        ·
          refine T_qB (t_X11_loudCells o x1 x2 hB_o (by omega) (by omega)) (fun p9 hc_p9 hp11 => ?_)
          refine T_qB (t_X1_dwellersIn o p9 hB_o) (fun r11 hc_r11 hp12 => ?_)
          replace hp12 : (0 ≤ r11 ∧ r11 ≤ 1280) := hp12
          refine T_qB2 (t_X11_tell o r11 hB_o) (fun r13 o15 hc_r13 hp13 => ?_)
          replace hp13 : BoxC o15 ∧ (Fr [(0, 14)] o o15) ∧ (r13 = 1) := hp13
          obtain ⟨hB_o15, fc_o15, hp13⟩ := hp13
          have fr_o15 : Fr [(0, 14), (0, 17), (77, 9999)] o o15 := Fr.tr fr_o fc_o15 rfl
          have g32_13_o15 : o15.1 32 13 = o.1 32 13 := fc_o15.1 32 13 rfl
          refine T_qB (t_X1_housesIn o15 p9 hB_o15) (fun r16 hc_r16 hp14 => ?_)
          replace hp14 : (0 ≤ r16 ∧ r16 ≤ 32) := hp14
          refine T_some ?_
          show BoxC o15 ∧ (Fr [(0, 14), (0, 17), (77, 9999)] o o15)
          exact ⟨hB_o15, fr_o15⟩
set_option maxRecDepth 20000 in
set_option maxHeartbeats 4000000 in
theorem t_X11_over (o : OO) (x1 : Int) (hB_o : BoxC o) (k0 : inR x1) : T (s_X11_over o x1) (fun v => BoxC v.2 ∧ (Fr [(0, 16), (0, 17), (77, 9999)] o v.2)) := by
  have fr_o : Fr [(0, 16), (0, 17), (77, 9999)] o o := Fr.rf
  have g32_13_o := bC_32_13 hB_o
  unfold s_X11_over
  refine T_qB (t_X4_exists o x1 hB_o (by omega)) (fun r1 hc_r1 hp1 => ?_)
  replace hp1 : ((r1 = 1 ∧ (0 ≤ x1 ∧ x1 < o.1 32 13)) ∨ (r1 = 0 ∧ ¬ (0 ≤ x1 ∧ x1 < o.1 32 13))) := hp1
  refine T_qEq ⟨by omega, by omega⟩ ⟨by decide, by decide⟩ (fun h2 => ?_) (fun h2 => ?_)
  ·
    refine T_some ?_
    show BoxC o ∧ (Fr [(0, 16), (0, 17), (77, 9999)] o o)
    exact ⟨hB_o, fr_o⟩
  ·
    refine T_qB (t_X4_isOf o x1 1 hB_o (by omega) (by omega)) (fun r3 hc_r3 hp3 => ?_)
    replace hp3 : (0 ≤ r3 ∧ r3 ≤ 1) := hp3
    refine T_qEq ⟨by omega, by omega⟩ ⟨by decide, by decide⟩ (fun h4 => ?_) (fun h4 => ?_)
    ·
      refine T_qB2 (t_X11_found o 3 hB_o (by omega)) (fun r10 o12 hc_r10 hp5 => ?_)
      replace hp5 : BoxC o12 ∧ (Fr [(0, 17), (77, 9999)] o o12) ∧ (r10 = -3) := hp5
      obtain ⟨hB_o12, fc_o12, hp5⟩ := hp5
      have fr_o12 : Fr [(0, 16), (0, 17), (77, 9999)] o o12 := Fr.tr fr_o fc_o12 rfl
      have g32_13_o12 : o12.1 32 13 = o.1 32 13 := fc_o12.1 32 13 rfl
      refine T_some ?_
      show BoxC o12 ∧ (Fr [(0, 16), (0, 17), (77, 9999)] o o12)
      exact ⟨hB_o12, fr_o12⟩
    ·
      refine T_qB (t_X4_cells o x1 hB_o (by omega)) (fun p5 hc_p5 hp6 => ?_)
      refine T_qNm (fun o7 e_o7 => ?_)
      have hB_o7 : BoxC o7 := by rw [e_o7]; exact Box.s2 hB_o
      have fr_o7 : Fr [(0, 16), (0, 17), (77, 9999)] o o7 := by rw [e_o7]; exact Fr.s2 fr_o rfl
      have g32_13_o7 : o7.1 32 13 = o.1 32 13 := by rw [e_o7]; rfl
      refine T_qB (t_X4_lengthOf o7 x1 hB_o7 (by omega)) (fun r8 hc_r8 hp7 => ?_)
      replace hp7 : (0 ≤ r8 ∧ r8 ≤ 64) := hp7
      refine T_some ?_
      show BoxC o7 ∧ (Fr [(0, 16), (0, 17), (77, 9999)] o o7)
      exact ⟨hB_o7, fr_o7⟩
set_option maxRecDepth 20000 in
set_option maxHeartbeats 4000000 in
theorem tl_X11_owed_7 (o : OO) (i_z1 : Int64) (i_x3 : Int) (i_x4 : Int) (hB_o : BoxC o) (v0 : 0 ≤ i_x3 ∧ i_x3 ≤ i_x4) (v1 : 0 ≤ i_x4 ∧ i_x4 ≤ o.1 32 13) : T (loopW (fun s => l_X11_owed_7 o s.1 s.2.1 s.2.2) (i_z1, i_x3, i_x4)) (fun r => (0 ≤ r.2 ∧ r.2 ≤ o.1 32 13)) := by
  refine T_loop (fun s => (0 ≤ s.2.1 ∧ s.2.1 ≤ s.2.2) ∧ (0 ≤ s.2.2 ∧ s.2.2 ≤ o.1 32 13)) (fun s => (o.1 32 13 - s.2.2).toNat) (by exact ⟨v0, v1⟩) (fun s hs => ?_)
  obtain ⟨z1, x3, x4⟩ := s
  replace hs : (0 ≤ x3 ∧ x3 ≤ x4) ∧ (0 ≤ x4 ∧ x4 ≤ o.1 32 13) := hs
  obtain ⟨w0, w1⟩ := hs
  have g32_13_o := bC_32_13 hB_o
  show T (l_X11_owed_7 o z1 x3 x4) _
  unfold l_X11_owed_7
  refine T_qB (t_X4_number o hB_o) (fun r2 hc_r2 hp1 => ?_)
  replace hp1 : (r2 = o.1 32 13) := hp1
  refine T_qLt ⟨by omega, by omega⟩ ⟨by omega, by omega⟩ (fun h2 => ?_) (fun h2 => ?_)
  ·
    refine T_qB (t_X4_isOf o x4 3 hB_o (by omega) (by omega)) (fun r4 hc_r4 hp3 => ?_)
    replace hp3 : (0 ≤ r4 ∧ r4 ≤ 1) := hp3
    refine T_qEq ⟨by omega, by omega⟩ ⟨by decide, by decide⟩ (fun h4 => ?_) (fun h4 => ?_)
    ·
      unfold b_X11_owed_73
      refine T_some ?_
      show ((0 ≤ x3 ∧ x3 ≤ (x4 + 1)) ∧ (0 ≤ (x4 + 1) ∧ (x4 + 1) ≤ o.1 32 13)) ∧ (o.1 32 13 - (x4 + 1)).toNat < (o.1 32 13 - x4).toNat
      exact ⟨⟨(by omega), (by omega)⟩, by omega⟩
    ·
      refine T_qB (t_X4_amountOf o x4 hB_o (by omega)) (fun r6 hc_r6 hp5 => ?_)
      replace hp5 : (0 ≤ r6 ∧ r6 ≤ 10000000) := hp5
      refine T_qNm (fun m8 e_m8 => ?_)
      refine T_qB (t_X4_kindOf o x4 hB_o (by omega)) (fun r9 hc_r9 hp6 => ?_)
      replace hp6 : (0 ≤ r9 ∧ r9 ≤ 6) := hp6
      refine T_qEq ⟨by omega, by omega⟩ ⟨by decide, by decide⟩ (fun h7 => ?_) (fun h7 => ?_)
      ·
        refine T_qB (t_X11_isVoidTaking o x4 hB_o (by omega)) (fun r11 hc_r11 hp8 => ?_)
        replace hp8 : (0 ≤ r11 ∧ r11 ≤ 1) := hp8
        refine T_qEq ⟨by omega, by omega⟩ ⟨by decide, by decide⟩ (fun h9 => ?_) (fun h9 => ?_)
        ·
          unfold b_X11_owed_73
          refine T_some ?_
          show ((0 ≤ x3 ∧ x3 ≤ (x4 + 1)) ∧ (0 ≤ (x4 + 1) ∧ (x4 + 1) ≤ o.1 32 13)) ∧ (o.1 32 13 - (x4 + 1)).toNat < (o.1 32 13 - x4).toNat
          exact ⟨⟨(by omega), (by omega)⟩, by omega⟩
        ·
          unfold b_X11_owed_73
          refine T_some ?_
          show ((0 ≤ (x3 + 1) ∧ (x3 + 1) ≤ (x4 + 1)) ∧ (0 ≤ (x4 + 1) ∧ (x4 + 1) ≤ o.1 32 13)) ∧ (o.1 32 13 - (x4 + 1)).toNat < (o.1 32 13 - x4).toNat
          exact ⟨⟨(by omega), (by omega)⟩, by omega⟩
      ·
        unfold b_X11_owed_73
        refine T_some ?_
        show ((0 ≤ x3 ∧ x3 ≤ (x4 + 1)) ∧ (0 ≤ (x4 + 1) ∧ (x4 + 1) ≤ o.1 32 13)) ∧ (o.1 32 13 - (x4 + 1)).toNat < (o.1 32 13 - x4).toNat
        exact ⟨⟨(by omega), (by omega)⟩, by omega⟩
  ·
    refine T_some ?_
    show (0 ≤ x3 ∧ x3 ≤ o.1 32 13)
    exact (by omega)
set_option maxRecDepth 20000 in
set_option maxHeartbeats 4000000 in
theorem t_X11_owed (o : OO) (hB_o : BoxC o) : T (s_X11_owed o) (fun v => BoxC v.2 ∧ (Fr [(0, 15)] o v.2)) := by
  have fr_o : Fr [(0, 15)] o o := Fr.rf
  have g32_13_o := bC_32_13 hB_o
  unfold s_X11_owed
  refine T_qNm (fun m13 e_m13 => ?_)
  unfold e_X11_owed_7
  refine T_qB (tl_X11_owed_7 o m13 0 0 hB_o (by omega) (by omega)) (fun r10 hc_r10 hp11 => ?_)
  obtain ⟨z1_12, x3_13⟩ := r10
  replace hp11 : (0 ≤ x3_13 ∧ x3_13 ≤ o.1 32 13) := hp11
  show T (b_X11_owed_79 o z1_12 x3_13) _
  unfold b_X11_owed_79
  refine T_qNm (fun o1 e_o1 => ?_)
  have hB_o1 : BoxC o1 := by rw [e_o1]; exact Box.s2 hB_o
  have fr_o1 : Fr [(0, 15)] o o1 := by rw [e_o1]; exact Fr.s2 fr_o rfl
  have g32_13_o1 : o1.1 32 13 = o.1 32 13 := by rw [e_o1]; rfl
  refine T_some ?_
  show BoxC o1 ∧ (Fr [(0, 15)] o o1)
  exact ⟨hB_o1, fr_o1⟩
set_option maxRecDepth 20000 in
set_option maxHeartbeats 4000000 in
theorem t_X11_park (o : OO) (x1 : Int) (hB_o : BoxC o) (k0 : inR x1) : T (s_X11_park o x1) (fun v => BoxC v.2 ∧ (Fr [(0, 14), (0, 17), (77, 9999)] o v.2)) := by
  have fr_o : Fr [(0, 14), (0, 17), (77, 9999)] o o := Fr.rf
  have g32_13_o := bC_32_13 hB_o
  unfold s_X11_park
  refine T_qB (t_X4_exists o x1 hB_o (by omega)) (fun r1 hc_r1 hp1 => ?_)
  replace hp1 : ((r1 = 1 ∧ (0 ≤ x1 ∧ x1 < o.1 32 13)) ∨ (r1 = 0 ∧ ¬ (0 ≤ x1 ∧ x1 < o.1 32 13))) := hp1
  refine T_qEq ⟨by omega, by omega⟩ ⟨by decide, by decide⟩ (fun h2 => ?_) (fun h2 => ?_)
  ·
    refine T_some ?_
    show BoxC o ∧ (Fr [(0, 14), (0, 17), (77, 9999)] o o)
    exact ⟨hB_o, fr_o⟩
  ·
    refine T_qB (t_X4_isOf o x1 1 hB_o (by omega) (by omega)) (fun r3 hc_r3 hp3 => ?_)
    replace hp3 : (0 ≤ r3 ∧ r3 ≤ 1) := hp3
    refine T_qEq ⟨by omega, by omega⟩ ⟨by decide, by decide⟩ (fun h4 => ?_) (fun h4 => ?_)
    ·
      refine T_qB2 (t_X11_found o 3 hB_o (by omega)) (fun r14 o16 hc_r14 hp5 => ?_)
      replace hp5 : BoxC o16 ∧ (Fr [(0, 17), (77, 9999)] o o16) ∧ (r14 = -3) := hp5
      obtain ⟨hB_o16, fc_o16, hp5⟩ := hp5
      have fr_o16 : Fr [(0, 14), (0, 17), (77, 9999)] o o16 := Fr.tr fr_o fc_o16 rfl
      have g32_13_o16 : o16.1 32 13 = o.1 32 13 := fc_o16.1 32 13 rfl
      refine T_some ?_
      show BoxC o16 ∧ (Fr [(0, 14), (0, 17), (77, 9999)] o o16)
      exact ⟨hB_o16, fr_o16⟩
    ·
      refine T_qB (t_X4_cells o x1 hB_o (by omega)) (fun p5 hc_p5 hp6 => ?_)
      refine T_qB (t_X3_parksIn o p5 hB_o) (fun r7 hc_r7 hp7 => ?_)
      replace hp7 : (0 ≤ r7 ∧ r7 ≤ 64) := hp7
      refine T_qB2 (t_X11_tell o r7 hB_o) (fun r9 o11 hc_r9 hp8 => ?_)
      replace hp8 : BoxC o11 ∧ (Fr [(0, 14)] o o11) ∧ (r9 = 1) := hp8
      obtain ⟨hB_o11, fc_o11, hp8⟩ := hp8
      have fr_o11 : Fr [(0, 14), (0, 17), (77, 9999)] o o11 := Fr.tr fr_o fc_o11 rfl
      have g32_13_o11 : o11.1 32 13 = o.1 32 13 := fc_o11.1 32 13 rfl
      refine T_qB (t_X11_inForce o11 6 hB_o11 (by omega)) (fun r12 hc_r12 hp9 => ?_)
      replace hp9 : (0 ≤ r12 ∧ r12 ≤ 9999) := hp9
      refine T_qLt ⟨by omega, by omega⟩ ⟨by omega, by omega⟩ (fun h10 => ?_) (fun h10 => ?_)
      ·
        unfold b_X11_park_68
        refine T_some ?_
        show BoxC o11 ∧ (Fr [(0, 14), (0, 17), (77, 9999)] o o11)
        exact ⟨hB_o11, fr_o11⟩
      ·
        unfold b_X11_park_68
        refine T_some ?_
        show BoxC o11 ∧ (Fr [(0, 14), (0, 17), (77, 9999)] o o11)
        exact ⟨hB_o11, fr_o11⟩
set_option maxRecDepth 20000 in
set_option maxHeartbeats 4000000 in
theorem t_X5_add (o : OO) (x1 : Int) (x2 : Int) (x3 : Int) (hB_o : BoxC o) (k0 : x1 = -9 ∨ (0 ≤ x1 ∧ x1 ≤ 63)) (k1 : 0 ≤ x2 ∧ x2 ≤ 1) (k2 : 0 ≤ x3 ∧ x3 ≤ 9) (k3 : o.1 23 4 ≤ 39) : T (s_X5_add o x1 x2 x3) (fun v => BoxC v.2 ∧ (Fr [(23, 4), (24, 9999), (25, 9999), (26, 9999), (27, 9999)] o v.2) ∧ (v.1 = o.1 23 4) ∧ (v.2.1 23 4 = o.1 23 4 + 1)) := by
  have fr_o : Fr [(23, 4), (24, 9999), (25, 9999), (26, 9999), (27, 9999)] o o := Fr.rf
  have g23_4_o := bC_23_4 hB_o
  unfold s_X5_add
  refine T_qNm (fun o1 e_o1 => ?_)
  have hB_o1 : BoxC o1 := by rw [e_o1]; exact Box.s1 hB_o (show 0 ≤ ((o.1 23 4) + 1) ∧ ((o.1 23 4) + 1) ≤ 40 from ⟨by omega, by omega⟩)
  have fr_o1 : Fr [(23, 4), (24, 9999), (25, 9999), (26, 9999), (27, 9999)] o o1 := by rw [e_o1]; exact Fr.s1 fr_o rfl
  have g23_4_o1 : o1.1 23 4 = ((o.1 23 4) + 1) := by rw [e_o1]; rfl
  refine T_qIn ⟨by omega, by omega⟩ ?_
  refine T_qNm (fun o3 e_o3 => ?_)
  have hB_o3 : BoxC o3 := by rw [e_o3]; exact Box.s1 hB_o1 (show (-9) = -9 ∨ (0 ≤ (-9) ∧ (-9) ≤ 31) from (by omega))
  have fr_o3 : Fr [(23, 4), (24, 9999), (25, 9999), (26, 9999), (27, 9999)] o o3 := by rw [e_o3]; exact Fr.s1 fr_o1 rfl
  have g23_4_o3 : o3.1 23 4 = o1.1 23 4 := by rw [e_o3]; rfl
  refine T_qIn ⟨by omega, by omega⟩ ?_
  refine T_qNm (fun o5 e_o5 => ?_)
  have hB_o5 : BoxC o5 := by rw [e_o5]; exact Box.s1 hB_o3 (show x1 = -9 ∨ (0 ≤ x1 ∧ x1 ≤ 63) from (by omega))
  have fr_o5 : Fr [(23, 4), (24, 9999), (25, 9999), (26, 9999), (27, 9999)] o o5 := by rw [e_o5]; exact Fr.s1 fr_o3 rfl
  have g23_4_o5 : o5.1 23 4 = o3.1 23 4 := by rw [e_o5]; rfl
  refine T_qIn ⟨by omega, by omega⟩ ?_
  refine T_qZ (by omega) ?_
  refine T_qNm (fun o8 e_o8 => ?_)
  have hB_o8 : BoxC o8 := by rw [e_o8]; exact Box.s1 hB_o5 (show 0 ≤ x2 ∧ x2 ≤ 1 from ⟨by omega, by omega⟩)
  have fr_o8 : Fr [(23, 4), (24, 9999), (25, 9999), (26, 9999), (27, 9999)] o o8 := by rw [e_o8]; exact Fr.s1 fr_o5 rfl
  have g23_4_o8 : o8.1 23 4 = o5.1 23 4 := by rw [e_o8]; rfl
  refine T_qIn ⟨by omega, by omega⟩ ?_
  refine T_qNm (fun o10 e_o10 => ?_)
  have hB_o10 : BoxC o10 := by rw [e_o10]; exact Box.s1 hB_o8 (show 0 ≤ x3 ∧ x3 ≤ 9 from ⟨by omega, by omega⟩)
  have fr_o10 : Fr [(23, 4), (24, 9999), (25, 9999), (26, 9999), (27, 9999)] o o10 := by rw [e_o10]; exact Fr.s1 fr_o8 rfl
  have g23_4_o10 : o10.1 23 4 = o8.1 23 4 := by rw [e_o10]; rfl
  refine T_some ?_
  show BoxC o10 ∧ (Fr [(23, 4), (24, 9999), (25, 9999), (26, 9999), (27, 9999)] o o10) ∧ ((o.1 23 4) = o.1 23 4) ∧ (o10.1 23 4 = o.1 23 4 + 1)
  exact ⟨hB_o10, fr_o10, (by omega), (by omega)⟩
set_option maxRecDepth 20000 in
set_option maxHeartbeats 4000000 in
theorem t_X11_person (o : OO) (x1 : Int) (x2 : Int) (x3 : Int) (x4 : Int) (hB_o : BoxC o) (k0 : inR x1) (k1 : inR x2) (k2 : 0 ≤ x3 ∧ x3 ≤ 1) (k3 : inR x4) : T (s_X11_person o x1 x2 x3 x4) (fun v => BoxC v.2 ∧ (Fr [(14, 9999), (23, 4), (24, 9999), (25, 9999), (26, 9999), (27, 9999)] o v.2)) := by
  have fr_o : Fr [(14, 9999), (23, 4), (24, 9999), (25, 9999), (26, 9999), (27, 9999)] o o := Fr.rf
  have g10_12_o := bC_10_12 hB_o
  have g23_4_o := bC_23_4 hB_o
  unfold s_X11_person
  refine T_qEq ⟨by omega, by omega⟩ ⟨by decide, by decide⟩ (fun h1 => ?_) (fun h1 => ?_)
  ·
    unfold b_X11_person_19
    refine T_qEq ⟨by omega, by omega⟩ ⟨by decide, by decide⟩ (fun h2 => ?_) (fun h2 => ?_)
    ·
      unfold b_X11_person_34
      refine T_qLt ⟨by omega, by omega⟩ ⟨by decide, by decide⟩ (fun h3 => ?_) (fun h3 => ?_)
      ·
        unfold b_X11_person_46
        refine T_some ?_
        show BoxC o ∧ (Fr [(14, 9999), (23, 4), (24, 9999), (25, 9999), (26, 9999), (27, 9999)] o o)
        exact ⟨hB_o, fr_o⟩
      ·
        refine T_qLt ⟨by decide, by decide⟩ ⟨by omega, by omega⟩ (fun h4 => ?_) (fun h4 => ?_)
        ·
          unfold b_X11_person_46
          refine T_some ?_
          show BoxC o ∧ (Fr [(14, 9999), (23, 4), (24, 9999), (25, 9999), (26, 9999), (27, 9999)] o o)
          exact ⟨hB_o, fr_o⟩
        ·
          refine T_qB (t_X5_number o hB_o) (fun r7 hc_r7 hp5 => ?_)
          replace hp5 : (r7 = o.1 23 4) := hp5
          refine T_qLt ⟨by omega, by omega⟩ ⟨by decide, by decide⟩ (fun h6 => ?_) (fun h6 => ?_)
          ·
            refine T_qEq ⟨by omega, by omega⟩ ⟨by decide, by decide⟩ (fun h7 => ?_) (fun h7 => ?_)
            ·
              unfold b_X11_person_84
              refine T_qB2 (t_X5_add o x2 x3 x4 hB_o (by omega) (by omega) (by omega) (by omega)) (fun r1 o3 hc_r1 hp8 => ?_)
              replace hp8 : BoxC o3 ∧ (Fr [(23, 4), (24, 9999), (25, 9999), (26, 9999), (27, 9999)] o o3) ∧ (r1 = o.1 23 4) ∧ (o3.1 23 4 = o.1 23 4 + 1) := hp8
              obtain ⟨hB_o3, fc_o3, hp8⟩ := hp8
              have fr_o3 : Fr [(14, 9999), (23, 4), (24, 9999), (25, 9999), (26, 9999), (27, 9999)] o o3 := Fr.tr fr_o fc_o3 rfl
              have g10_12_o3 : o3.1 10 12 = o.1 10 12 := fc_o3.1 10 12 rfl
              have g23_4_o3 := bC_23_4 hB_o3
              have hq8 := fc_o3.1 14 x1.toNat rfl
              refine T_qEq ⟨by omega, by omega⟩ ⟨by decide, by decide⟩ (fun h9 => ?_) (fun h9 => ?_)
              ·
                unfold b_X11_person_110
                refine T_some ?_
                show BoxC o3 ∧ (Fr [(14, 9999), (23, 4), (24, 9999), (25, 9999), (26, 9999), (27, 9999)] o o3)
                exact ⟨hB_o3, fr_o3⟩
              ·
                refine T_qB (t_X11_settle o3 r1 x1 hB_o3 (by omega) (by omega) (by omega)) (fun o6 hc_o6 hp10 => ?_)
                replace hp10 : BoxC o6 ∧ (Fr [(14, 9999), (24, 9999)] o3 o6) := hp10
                obtain ⟨hB_o6, fc_o6⟩ := hp10
                have fr_o6 : Fr [(14, 9999), (23, 4), (24, 9999), (25, 9999), (26, 9999), (27, 9999)] o o6 := Fr.tr fr_o3 fc_o6 rfl
                have g10_12_o6 : o6.1 10 12 = o3.1 10 12 := fc_o6.1 10 12 rfl
                have g23_4_o6 : o6.1 23 4 = o3.1 23 4 := fc_o6.1 23 4 rfl
                unfold b_X11_person_110
                refine T_some ?_
                show BoxC o6 ∧ (Fr [(14, 9999), (23, 4), (24, 9999), (25, 9999), (26, 9999), (27, 9999)] o o6)
                exact ⟨hB_o6, fr_o6⟩
            ·
              refine T_qB (t_X1_roomsLeft o x1 hB_o (by omega)) (fun r9 hc_r9 hp11 => ?_)
              replace hp11 : (-40 ≤ r9 ∧ r9 ≤ 20) ∧ (r9 ≤ 0 ∨ o.1 14 x1.toNat ≤ 19) := hp11
              have hps_hp11 := hp11
              obtain ⟨hp11_0, hp11_1⟩ := hps_hp11
              replace hp11 := hid hp11
              refine T_qLt ⟨by omega, by omega⟩ ⟨by decide, by decide⟩ (fun h12 => ?_) (fun h12 => ?_)
              ·
                refine T_some ?_
                show BoxC o ∧ (Fr [(14, 9999), (23, 4), (24, 9999), (25, 9999), (26, 9999), (27, 9999)] o o)
                exact ⟨hB_o, fr_o⟩
              ·
                unfold b_X11_person_84
                refine T_qB2 (t_X5_add o x2 x3 x4 hB_o (by omega) (by omega) (by omega) (by omega)) (fun r1 o3 hc_r1 hp13 => ?_)
                replace hp13 : BoxC o3 ∧ (Fr [(23, 4), (24, 9999), (25, 9999), (26, 9999), (27, 9999)] o o3) ∧ (r1 = o.1 23 4) ∧ (o3.1 23 4 = o.1 23 4 + 1) := hp13
                obtain ⟨hB_o3, fc_o3, hp13⟩ := hp13
                have fr_o3 : Fr [(14, 9999), (23, 4), (24, 9999), (25, 9999), (26, 9999), (27, 9999)] o o3 := Fr.tr fr_o fc_o3 rfl
                have g10_12_o3 : o3.1 10 12 = o.1 10 12 := fc_o3.1 10 12 rfl
                have g23_4_o3 := bC_23_4 hB_o3
                have hq8 := fc_o3.1 14 x1.toNat rfl
                refine T_qEq ⟨by omega, by omega⟩ ⟨by decide, by decide⟩ (fun h14 => ?_) (fun h14 => ?_)
                ·
                  unfold b_X11_person_110
                  refine T_some ?_
                  show BoxC o3 ∧ (Fr [(14, 9999), (23, 4), (24, 9999), (25, 9999), (26, 9999), (27, 9999)] o o3)
                  exact ⟨hB_o3, fr_o3⟩
                ·
                  refine T_qB (t_X11_settle o3 r1 x1 hB_o3 (by omega) (by omega) (by omega)) (fun o6 hc_o6 hp15 => ?_)
                  replace hp15 : BoxC o6 ∧ (Fr [(14, 9999), (24, 9999)] o3 o6) := hp15
                  obtain ⟨hB_o6, fc_o6⟩ := hp15
                  have fr_o6 : Fr [(14, 9999), (23, 4), (24, 9999), (25, 9999), (26, 9999), (27, 9999)] o o6 := Fr.tr fr_o3 fc_o6 rfl
                  have g10_12_o6 : o6.1 10 12 = o3.1 10 12 := fc_o6.1 10 12 rfl
                  have g23_4_o6 : o6.1 23 4 = o3.1 23 4 := fc_o6.1 23 4 rfl
                  unfold b_X11_person_110
                  refine T_some ?_
                  show BoxC o6 ∧ (Fr [(14, 9999), (23, 4), (24, 9999), (25, 9999), (26, 9999), (27, 9999)] o o6)
                  exact ⟨hB_o6, fr_o6⟩
          ·
            refine T_some ?_
            show BoxC o ∧ (Fr [(14, 9999), (23, 4), (24, 9999), (25, 9999), (26, 9999), (27, 9999)] o o)
            exact ⟨hB_o, fr_o⟩
    ·
      refine T_qB (t_X3_isCell x2 (by omega)) (fun r11 hc_r11 hp16 => ?_)
      replace hp16 : ((r11 = 1 ∧ (0 ≤ x2 ∧ x2 < 64)) ∨ (r11 = 0 ∧ ¬ (0 ≤ x2 ∧ x2 < 64))) := hp16
      refine T_qEq ⟨by omega, by omega⟩ ⟨by decide, by decide⟩ (fun h17 => ?_) (fun h17 => ?_)
      ·
        refine T_some ?_
        show BoxC o ∧ (Fr [(14, 9999), (23, 4), (24, 9999), (25, 9999), (26, 9999), (27, 9999)] o o)
        exact ⟨hB_o, fr_o⟩
      ·
        unfold b_X11_person_34
        refine T_qLt ⟨by omega, by omega⟩ ⟨by decide, by decide⟩ (fun h18 => ?_) (fun h18 => ?_)
        ·
          unfold b_X11_person_46
          refine T_some ?_
          show BoxC o ∧ (Fr [(14, 9999), (23, 4), (24, 9999), (25, 9999), (26, 9999), (27, 9999)] o o)
          exact ⟨hB_o, fr_o⟩
        ·
          refine T_qLt ⟨by decide, by decide⟩ ⟨by omega, by omega⟩ (fun h19 => ?_) (fun h19 => ?_)
          ·
            unfold b_X11_person_46
            refine T_some ?_
            show BoxC o ∧ (Fr [(14, 9999), (23, 4), (24, 9999), (25, 9999), (26, 9999), (27, 9999)] o o)
            exact ⟨hB_o, fr_o⟩
          ·
            refine T_qB (t_X5_number o hB_o) (fun r7 hc_r7 hp20 => ?_)
            replace hp20 : (r7 = o.1 23 4) := hp20
            refine T_qLt ⟨by omega, by omega⟩ ⟨by decide, by decide⟩ (fun h21 => ?_) (fun h21 => ?_)
            ·
              refine T_qEq ⟨by omega, by omega⟩ ⟨by decide, by decide⟩ (fun h22 => ?_) (fun h22 => ?_)
              ·
                unfold b_X11_person_84
                refine T_qB2 (t_X5_add o x2 x3 x4 hB_o (by omega) (by omega) (by omega) (by omega)) (fun r1 o3 hc_r1 hp23 => ?_)
                replace hp23 : BoxC o3 ∧ (Fr [(23, 4), (24, 9999), (25, 9999), (26, 9999), (27, 9999)] o o3) ∧ (r1 = o.1 23 4) ∧ (o3.1 23 4 = o.1 23 4 + 1) := hp23
                obtain ⟨hB_o3, fc_o3, hp23⟩ := hp23
                have fr_o3 : Fr [(14, 9999), (23, 4), (24, 9999), (25, 9999), (26, 9999), (27, 9999)] o o3 := Fr.tr fr_o fc_o3 rfl
                have g10_12_o3 : o3.1 10 12 = o.1 10 12 := fc_o3.1 10 12 rfl
                have g23_4_o3 := bC_23_4 hB_o3
                have hq8 := fc_o3.1 14 x1.toNat rfl
                refine T_qEq ⟨by omega, by omega⟩ ⟨by decide, by decide⟩ (fun h24 => ?_) (fun h24 => ?_)
                ·
                  unfold b_X11_person_110
                  refine T_some ?_
                  show BoxC o3 ∧ (Fr [(14, 9999), (23, 4), (24, 9999), (25, 9999), (26, 9999), (27, 9999)] o o3)
                  exact ⟨hB_o3, fr_o3⟩
                ·
                  refine T_qB (t_X11_settle o3 r1 x1 hB_o3 (by omega) (by omega) (by omega)) (fun o6 hc_o6 hp25 => ?_)
                  replace hp25 : BoxC o6 ∧ (Fr [(14, 9999), (24, 9999)] o3 o6) := hp25
                  obtain ⟨hB_o6, fc_o6⟩ := hp25
                  have fr_o6 : Fr [(14, 9999), (23, 4), (24, 9999), (25, 9999), (26, 9999), (27, 9999)] o o6 := Fr.tr fr_o3 fc_o6 rfl
                  have g10_12_o6 : o6.1 10 12 = o3.1 10 12 := fc_o6.1 10 12 rfl
                  have g23_4_o6 : o6.1 23 4 = o3.1 23 4 := fc_o6.1 23 4 rfl
                  unfold b_X11_person_110
                  refine T_some ?_
                  show BoxC o6 ∧ (Fr [(14, 9999), (23, 4), (24, 9999), (25, 9999), (26, 9999), (27, 9999)] o o6)
                  exact ⟨hB_o6, fr_o6⟩
              ·
                refine T_qB (t_X1_roomsLeft o x1 hB_o (by omega)) (fun r9 hc_r9 hp26 => ?_)
                replace hp26 : (-40 ≤ r9 ∧ r9 ≤ 20) ∧ (r9 ≤ 0 ∨ o.1 14 x1.toNat ≤ 19) := hp26
                have hps_hp26 := hp26
                obtain ⟨hp26_0, hp26_1⟩ := hps_hp26
                replace hp26 := hid hp26
                refine T_qLt ⟨by omega, by omega⟩ ⟨by decide, by decide⟩ (fun h27 => ?_) (fun h27 => ?_)
                ·
                  refine T_some ?_
                  show BoxC o ∧ (Fr [(14, 9999), (23, 4), (24, 9999), (25, 9999), (26, 9999), (27, 9999)] o o)
                  exact ⟨hB_o, fr_o⟩
                ·
                  unfold b_X11_person_84
                  refine T_qB2 (t_X5_add o x2 x3 x4 hB_o (by omega) (by omega) (by omega) (by omega)) (fun r1 o3 hc_r1 hp28 => ?_)
                  replace hp28 : BoxC o3 ∧ (Fr [(23, 4), (24, 9999), (25, 9999), (26, 9999), (27, 9999)] o o3) ∧ (r1 = o.1 23 4) ∧ (o3.1 23 4 = o.1 23 4 + 1) := hp28
                  obtain ⟨hB_o3, fc_o3, hp28⟩ := hp28
                  have fr_o3 : Fr [(14, 9999), (23, 4), (24, 9999), (25, 9999), (26, 9999), (27, 9999)] o o3 := Fr.tr fr_o fc_o3 rfl
                  have g10_12_o3 : o3.1 10 12 = o.1 10 12 := fc_o3.1 10 12 rfl
                  have g23_4_o3 := bC_23_4 hB_o3
                  have hq8 := fc_o3.1 14 x1.toNat rfl
                  refine T_qEq ⟨by omega, by omega⟩ ⟨by decide, by decide⟩ (fun h29 => ?_) (fun h29 => ?_)
                  ·
                    unfold b_X11_person_110
                    refine T_some ?_
                    show BoxC o3 ∧ (Fr [(14, 9999), (23, 4), (24, 9999), (25, 9999), (26, 9999), (27, 9999)] o o3)
                    exact ⟨hB_o3, fr_o3⟩
                  ·
                    refine T_qB (t_X11_settle o3 r1 x1 hB_o3 (by omega) (by omega) (by omega)) (fun o6 hc_o6 hp30 => ?_)
                    replace hp30 : BoxC o6 ∧ (Fr [(14, 9999), (24, 9999)] o3 o6) := hp30
                    obtain ⟨hB_o6, fc_o6⟩ := hp30
                    have fr_o6 : Fr [(14, 9999), (23, 4), (24, 9999), (25, 9999), (26, 9999), (27, 9999)] o o6 := Fr.tr fr_o3 fc_o6 rfl
                    have g10_12_o6 : o6.1 10 12 = o3.1 10 12 := fc_o6.1 10 12 rfl
                    have g23_4_o6 : o6.1 23 4 = o3.1 23 4 := fc_o6.1 23 4 rfl
                    unfold b_X11_person_110
                    refine T_some ?_
                    show BoxC o6 ∧ (Fr [(14, 9999), (23, 4), (24, 9999), (25, 9999), (26, 9999), (27, 9999)] o o6)
                    exact ⟨hB_o6, fr_o6⟩
            ·
              refine T_some ?_
              show BoxC o ∧ (Fr [(14, 9999), (23, 4), (24, 9999), (25, 9999), (26, 9999), (27, 9999)] o o)
              exact ⟨hB_o, fr_o⟩
  ·
    refine T_qB (t_X1_exists o x1 hB_o (by omega)) (fun r13 hc_r13 hp31 => ?_)
    replace hp31 : ((r13 = 1 ∧ (0 ≤ x1 ∧ x1 < o.1 10 12)) ∨ (r13 = 0 ∧ ¬ (0 ≤ x1 ∧ x1 < o.1 10 12))) := hp31
    refine T_qEq ⟨by omega, by omega⟩ ⟨by decide, by decide⟩ (fun h32 => ?_) (fun h32 => ?_)
    ·
      refine T_some ?_
      show BoxC o ∧ (Fr [(14, 9999), (23, 4), (24, 9999), (25, 9999), (26, 9999), (27, 9999)] o o)
      exact ⟨hB_o, fr_o⟩
    ·
      unfold b_X11_person_19
      refine T_qEq ⟨by omega, by omega⟩ ⟨by decide, by decide⟩ (fun h33 => ?_) (fun h33 => ?_)
      ·
        unfold b_X11_person_34
        refine T_qLt ⟨by omega, by omega⟩ ⟨by decide, by decide⟩ (fun h34 => ?_) (fun h34 => ?_)
        ·
          unfold b_X11_person_46
          refine T_some ?_
          show BoxC o ∧ (Fr [(14, 9999), (23, 4), (24, 9999), (25, 9999), (26, 9999), (27, 9999)] o o)
          exact ⟨hB_o, fr_o⟩
        ·
          refine T_qLt ⟨by decide, by decide⟩ ⟨by omega, by omega⟩ (fun h35 => ?_) (fun h35 => ?_)
          ·
            unfold b_X11_person_46
            refine T_some ?_
            show BoxC o ∧ (Fr [(14, 9999), (23, 4), (24, 9999), (25, 9999), (26, 9999), (27, 9999)] o o)
            exact ⟨hB_o, fr_o⟩
          ·
            refine T_qB (t_X5_number o hB_o) (fun r7 hc_r7 hp36 => ?_)
            replace hp36 : (r7 = o.1 23 4) := hp36
            refine T_qLt ⟨by omega, by omega⟩ ⟨by decide, by decide⟩ (fun h37 => ?_) (fun h37 => ?_)
            ·
              refine T_qEq ⟨by omega, by omega⟩ ⟨by decide, by decide⟩ (fun h38 => ?_) (fun h38 => ?_)
              ·
                unfold b_X11_person_84
                refine T_qB2 (t_X5_add o x2 x3 x4 hB_o (by omega) (by omega) (by omega) (by omega)) (fun r1 o3 hc_r1 hp39 => ?_)
                replace hp39 : BoxC o3 ∧ (Fr [(23, 4), (24, 9999), (25, 9999), (26, 9999), (27, 9999)] o o3) ∧ (r1 = o.1 23 4) ∧ (o3.1 23 4 = o.1 23 4 + 1) := hp39
                obtain ⟨hB_o3, fc_o3, hp39⟩ := hp39
                have fr_o3 : Fr [(14, 9999), (23, 4), (24, 9999), (25, 9999), (26, 9999), (27, 9999)] o o3 := Fr.tr fr_o fc_o3 rfl
                have g10_12_o3 : o3.1 10 12 = o.1 10 12 := fc_o3.1 10 12 rfl
                have g23_4_o3 := bC_23_4 hB_o3
                have hq8 := fc_o3.1 14 x1.toNat rfl
                refine T_qEq ⟨by omega, by omega⟩ ⟨by decide, by decide⟩ (fun h40 => ?_) (fun h40 => ?_)
                ·
                  unfold b_X11_person_110
                  refine T_some ?_
                  show BoxC o3 ∧ (Fr [(14, 9999), (23, 4), (24, 9999), (25, 9999), (26, 9999), (27, 9999)] o o3)
                  exact ⟨hB_o3, fr_o3⟩
                ·
                  refine T_qB (t_X11_settle o3 r1 x1 hB_o3 (by omega) (by omega) (by omega)) (fun o6 hc_o6 hp41 => ?_)
                  replace hp41 : BoxC o6 ∧ (Fr [(14, 9999), (24, 9999)] o3 o6) := hp41
                  obtain ⟨hB_o6, fc_o6⟩ := hp41
                  have fr_o6 : Fr [(14, 9999), (23, 4), (24, 9999), (25, 9999), (26, 9999), (27, 9999)] o o6 := Fr.tr fr_o3 fc_o6 rfl
                  have g10_12_o6 : o6.1 10 12 = o3.1 10 12 := fc_o6.1 10 12 rfl
                  have g23_4_o6 : o6.1 23 4 = o3.1 23 4 := fc_o6.1 23 4 rfl
                  unfold b_X11_person_110
                  refine T_some ?_
                  show BoxC o6 ∧ (Fr [(14, 9999), (23, 4), (24, 9999), (25, 9999), (26, 9999), (27, 9999)] o o6)
                  exact ⟨hB_o6, fr_o6⟩
              ·
                refine T_qB (t_X1_roomsLeft o x1 hB_o (by omega)) (fun r9 hc_r9 hp42 => ?_)
                replace hp42 : (-40 ≤ r9 ∧ r9 ≤ 20) ∧ (r9 ≤ 0 ∨ o.1 14 x1.toNat ≤ 19) := hp42
                have hps_hp42 := hp42
                obtain ⟨hp42_0, hp42_1⟩ := hps_hp42
                replace hp42 := hid hp42
                refine T_qLt ⟨by omega, by omega⟩ ⟨by decide, by decide⟩ (fun h43 => ?_) (fun h43 => ?_)
                ·
                  refine T_some ?_
                  show BoxC o ∧ (Fr [(14, 9999), (23, 4), (24, 9999), (25, 9999), (26, 9999), (27, 9999)] o o)
                  exact ⟨hB_o, fr_o⟩
                ·
                  unfold b_X11_person_84
                  refine T_qB2 (t_X5_add o x2 x3 x4 hB_o (by omega) (by omega) (by omega) (by omega)) (fun r1 o3 hc_r1 hp44 => ?_)
                  replace hp44 : BoxC o3 ∧ (Fr [(23, 4), (24, 9999), (25, 9999), (26, 9999), (27, 9999)] o o3) ∧ (r1 = o.1 23 4) ∧ (o3.1 23 4 = o.1 23 4 + 1) := hp44
                  obtain ⟨hB_o3, fc_o3, hp44⟩ := hp44
                  have fr_o3 : Fr [(14, 9999), (23, 4), (24, 9999), (25, 9999), (26, 9999), (27, 9999)] o o3 := Fr.tr fr_o fc_o3 rfl
                  have g10_12_o3 : o3.1 10 12 = o.1 10 12 := fc_o3.1 10 12 rfl
                  have g23_4_o3 := bC_23_4 hB_o3
                  have hq8 := fc_o3.1 14 x1.toNat rfl
                  refine T_qEq ⟨by omega, by omega⟩ ⟨by decide, by decide⟩ (fun h45 => ?_) (fun h45 => ?_)
                  ·
                    unfold b_X11_person_110
                    refine T_some ?_
                    show BoxC o3 ∧ (Fr [(14, 9999), (23, 4), (24, 9999), (25, 9999), (26, 9999), (27, 9999)] o o3)
                    exact ⟨hB_o3, fr_o3⟩
                  ·
                    refine T_qB (t_X11_settle o3 r1 x1 hB_o3 (by omega) (by omega) (by omega)) (fun o6 hc_o6 hp46 => ?_)
                    replace hp46 : BoxC o6 ∧ (Fr [(14, 9999), (24, 9999)] o3 o6) := hp46
                    obtain ⟨hB_o6, fc_o6⟩ := hp46
                    have fr_o6 : Fr [(14, 9999), (23, 4), (24, 9999), (25, 9999), (26, 9999), (27, 9999)] o o6 := Fr.tr fr_o3 fc_o6 rfl
                    have g10_12_o6 : o6.1 10 12 = o3.1 10 12 := fc_o6.1 10 12 rfl
                    have g23_4_o6 : o6.1 23 4 = o3.1 23 4 := fc_o6.1 23 4 rfl
                    unfold b_X11_person_110
                    refine T_some ?_
                    show BoxC o6 ∧ (Fr [(14, 9999), (23, 4), (24, 9999), (25, 9999), (26, 9999), (27, 9999)] o o6)
                    exact ⟨hB_o6, fr_o6⟩
            ·
              refine T_some ?_
              show BoxC o ∧ (Fr [(14, 9999), (23, 4), (24, 9999), (25, 9999), (26, 9999), (27, 9999)] o o)
              exact ⟨hB_o, fr_o⟩
      ·
        refine T_qB (t_X3_isCell x2 (by omega)) (fun r11 hc_r11 hp47 => ?_)
        replace hp47 : ((r11 = 1 ∧ (0 ≤ x2 ∧ x2 < 64)) ∨ (r11 = 0 ∧ ¬ (0 ≤ x2 ∧ x2 < 64))) := hp47
        refine T_qEq ⟨by omega, by omega⟩ ⟨by decide, by decide⟩ (fun h48 => ?_) (fun h48 => ?_)
        ·
          refine T_some ?_
          show BoxC o ∧ (Fr [(14, 9999), (23, 4), (24, 9999), (25, 9999), (26, 9999), (27, 9999)] o o)
          exact ⟨hB_o, fr_o⟩
        ·
          unfold b_X11_person_34
          refine T_qLt ⟨by omega, by omega⟩ ⟨by decide, by decide⟩ (fun h49 => ?_) (fun h49 => ?_)
          ·
            unfold b_X11_person_46
            refine T_some ?_
            show BoxC o ∧ (Fr [(14, 9999), (23, 4), (24, 9999), (25, 9999), (26, 9999), (27, 9999)] o o)
            exact ⟨hB_o, fr_o⟩
          ·
            refine T_qLt ⟨by decide, by decide⟩ ⟨by omega, by omega⟩ (fun h50 => ?_) (fun h50 => ?_)
            ·
              unfold b_X11_person_46
              refine T_some ?_
              show BoxC o ∧ (Fr [(14, 9999), (23, 4), (24, 9999), (25, 9999), (26, 9999), (27, 9999)] o o)
              exact ⟨hB_o, fr_o⟩
            ·
              refine T_qB (t_X5_number o hB_o) (fun r7 hc_r7 hp51 => ?_)
              replace hp51 : (r7 = o.1 23 4) := hp51
              refine T_qLt ⟨by omega, by omega⟩ ⟨by decide, by decide⟩ (fun h52 => ?_) (fun h52 => ?_)
              ·
                refine T_qEq ⟨by omega, by omega⟩ ⟨by decide, by decide⟩ (fun h53 => ?_) (fun h53 => ?_)
                ·
                  unfold b_X11_person_84
                  refine T_qB2 (t_X5_add o x2 x3 x4 hB_o (by omega) (by omega) (by omega) (by omega)) (fun r1 o3 hc_r1 hp54 => ?_)
                  replace hp54 : BoxC o3 ∧ (Fr [(23, 4), (24, 9999), (25, 9999), (26, 9999), (27, 9999)] o o3) ∧ (r1 = o.1 23 4) ∧ (o3.1 23 4 = o.1 23 4 + 1) := hp54
                  obtain ⟨hB_o3, fc_o3, hp54⟩ := hp54
                  have fr_o3 : Fr [(14, 9999), (23, 4), (24, 9999), (25, 9999), (26, 9999), (27, 9999)] o o3 := Fr.tr fr_o fc_o3 rfl
                  have g10_12_o3 : o3.1 10 12 = o.1 10 12 := fc_o3.1 10 12 rfl
                  have g23_4_o3 := bC_23_4 hB_o3
                  have hq8 := fc_o3.1 14 x1.toNat rfl
                  refine T_qEq ⟨by omega, by omega⟩ ⟨by decide, by decide⟩ (fun h55 => ?_) (fun h55 => ?_)
                  ·
                    unfold b_X11_person_110
                    refine T_some ?_
                    show BoxC o3 ∧ (Fr [(14, 9999), (23, 4), (24, 9999), (25, 9999), (26, 9999), (27, 9999)] o o3)
                    exact ⟨hB_o3, fr_o3⟩
                  ·
                    refine T_qB (t_X11_settle o3 r1 x1 hB_o3 (by omega) (by omega) (by omega)) (fun o6 hc_o6 hp56 => ?_)
                    replace hp56 : BoxC o6 ∧ (Fr [(14, 9999), (24, 9999)] o3 o6) := hp56
                    obtain ⟨hB_o6, fc_o6⟩ := hp56
                    have fr_o6 : Fr [(14, 9999), (23, 4), (24, 9999), (25, 9999), (26, 9999), (27, 9999)] o o6 := Fr.tr fr_o3 fc_o6 rfl
                    have g10_12_o6 : o6.1 10 12 = o3.1 10 12 := fc_o6.1 10 12 rfl
                    have g23_4_o6 : o6.1 23 4 = o3.1 23 4 := fc_o6.1 23 4 rfl
                    unfold b_X11_person_110
                    refine T_some ?_
                    show BoxC o6 ∧ (Fr [(14, 9999), (23, 4), (24, 9999), (25, 9999), (26, 9999), (27, 9999)] o o6)
                    exact ⟨hB_o6, fr_o6⟩
                ·
                  refine T_qB (t_X1_roomsLeft o x1 hB_o (by omega)) (fun r9 hc_r9 hp57 => ?_)
                  replace hp57 : (-40 ≤ r9 ∧ r9 ≤ 20) ∧ (r9 ≤ 0 ∨ o.1 14 x1.toNat ≤ 19) := hp57
                  have hps_hp57 := hp57
                  obtain ⟨hp57_0, hp57_1⟩ := hps_hp57
                  replace hp57 := hid hp57
                  refine T_qLt ⟨by omega, by omega⟩ ⟨by decide, by decide⟩ (fun h58 => ?_) (fun h58 => ?_)
                  ·
                    refine T_some ?_
                    show BoxC o ∧ (Fr [(14, 9999), (23, 4), (24, 9999), (25, 9999), (26, 9999), (27, 9999)] o o)
                    exact ⟨hB_o, fr_o⟩
                  ·
                    unfold b_X11_person_84
                    refine T_qB2 (t_X5_add o x2 x3 x4 hB_o (by omega) (by omega) (by omega) (by omega)) (fun r1 o3 hc_r1 hp59 => ?_)
                    replace hp59 : BoxC o3 ∧ (Fr [(23, 4), (24, 9999), (25, 9999), (26, 9999), (27, 9999)] o o3) ∧ (r1 = o.1 23 4) ∧ (o3.1 23 4 = o.1 23 4 + 1) := hp59
                    obtain ⟨hB_o3, fc_o3, hp59⟩ := hp59
                    have fr_o3 : Fr [(14, 9999), (23, 4), (24, 9999), (25, 9999), (26, 9999), (27, 9999)] o o3 := Fr.tr fr_o fc_o3 rfl
                    have g10_12_o3 : o3.1 10 12 = o.1 10 12 := fc_o3.1 10 12 rfl
                    have g23_4_o3 := bC_23_4 hB_o3
                    have hq8 := fc_o3.1 14 x1.toNat rfl
                    refine T_qEq ⟨by omega, by omega⟩ ⟨by decide, by decide⟩ (fun h60 => ?_) (fun h60 => ?_)
                    ·
                      unfold b_X11_person_110
                      refine T_some ?_
                      show BoxC o3 ∧ (Fr [(14, 9999), (23, 4), (24, 9999), (25, 9999), (26, 9999), (27, 9999)] o o3)
                      exact ⟨hB_o3, fr_o3⟩
                    ·
                      refine T_qB (t_X11_settle o3 r1 x1 hB_o3 (by omega) (by omega) (by omega)) (fun o6 hc_o6 hp61 => ?_)
                      replace hp61 : BoxC o6 ∧ (Fr [(14, 9999), (24, 9999)] o3 o6) := hp61
                      obtain ⟨hB_o6, fc_o6⟩ := hp61
                      have fr_o6 : Fr [(14, 9999), (23, 4), (24, 9999), (25, 9999), (26, 9999), (27, 9999)] o o6 := Fr.tr fr_o3 fc_o6 rfl
                      have g10_12_o6 : o6.1 10 12 = o3.1 10 12 := fc_o6.1 10 12 rfl
                      have g23_4_o6 : o6.1 23 4 = o3.1 23 4 := fc_o6.1 23 4 rfl
                      unfold b_X11_person_110
                      refine T_some ?_
                      show BoxC o6 ∧ (Fr [(14, 9999), (23, 4), (24, 9999), (25, 9999), (26, 9999), (27, 9999)] o o6)
                      exact ⟨hB_o6, fr_o6⟩
              ·
                refine T_some ?_
                show BoxC o ∧ (Fr [(14, 9999), (23, 4), (24, 9999), (25, 9999), (26, 9999), (27, 9999)] o o)
                exact ⟨hB_o, fr_o⟩
set_option maxRecDepth 20000 in
set_option maxHeartbeats 4000000 in
theorem t_X8_exchange__4 (o : OO) (x1 : Int) (x2 : Int) (x3 : Int) (hB_o : BoxC o) (k0 : 0 ≤ x1 * 40 + x2 ∧ x1 * 40 + x2 < 240) (k1 : inR x3) : T (s_X8_exchange__4 o x1 x2 x3) (fun v => BoxC v.2 ∧ (Fr [(6, 9999)] o v.2) ∧ (inR v.1)) := by
  have fr_o : Fr [(6, 9999)] o o := Fr.rf
  unfold s_X8_exchange__4
  refine T_qIn ⟨by omega, by omega⟩ ?_
  refine T_qNm (fun n2 e_n2 => ?_)
  have b_n2 : -2147483648 ≤ n2 ∧ n2 ≤ 2147483647 := by rw [e_n2]; exact bC_6 hB_o _
  refine T_qIn ⟨by omega, by omega⟩ ?_
  refine T_qNm (fun o4 e_o4 => ?_)
  have hB_o4 : BoxC o4 := by rw [e_o4]; exact Box.s1 hB_o (show -2147483648 ≤ x3 ∧ x3 ≤ 2147483647 from ⟨by omega, by omega⟩)
  have fr_o4 : Fr [(6, 9999)] o o4 := by rw [e_o4]; exact Fr.s1 fr_o rfl
  refine T_some ?_
  show BoxC o4 ∧ (Fr [(6, 9999)] o o4) ∧ (inR n2)
  exact ⟨hB_o4, fr_o4, (by omega)⟩
set_option maxRecDepth 20000 in
set_option maxHeartbeats 4000000 in
theorem t_X11_put (o : OO) (x1 : Int) (x2 : Int) (x3 : Int) (hB_o : BoxC o) (k0 : inR x1) (k1 : inR x2) (k2 : inR x3) : T (s_X11_put o x1 x2 x3) (fun v => BoxC v.2 ∧ (Fr [(0, 17), (6, 9999), (77, 9999)] o v.2)) := by
  have fr_o : Fr [(0, 17), (6, 9999), (77, 9999)] o o := Fr.rf
  have hjb := jb_rng x3
  unfold s_X11_put
  refine T_qB (t_X8_exists__4 o x1 hB_o (by omega)) (fun r1 hc_r1 hp1 => ?_)
  replace hp1 : ((r1 = 1 ∧ (0 ≤ x1 ∧ x1 < 4)) ∨ (r1 = 0 ∧ ¬ (0 ≤ x1 ∧ x1 < 4))) := hp1
  refine T_qEq ⟨by omega, by omega⟩ ⟨by decide, by decide⟩ (fun h2 => ?_) (fun h2 => ?_)
  ·
    refine T_some ?_
    show BoxC o ∧ (Fr [(0, 17), (6, 9999), (77, 9999)] o o)
    exact ⟨hB_o, fr_o⟩
  ·
    refine T_qB (t_X8_isThere__4 o x1 hB_o (by omega)) (fun r3 hc_r3 hp3 => ?_)
    replace hp3 : ((r3 = 1 ∧ (¬ o.1 5 x1.toNat = -1)) ∨ (r3 = 0 ∧ ¬ (¬ o.1 5 x1.toNat = -1))) := hp3
    refine T_qEq ⟨by omega, by omega⟩ ⟨by decide, by decide⟩ (fun h4 => ?_) (fun h4 => ?_)
    ·
      refine T_qB2 (t_X11_found o 1 hB_o (by omega)) (fun r13 o15 hc_r13 hp5 => ?_)
      replace hp5 : BoxC o15 ∧ (Fr [(0, 17), (77, 9999)] o o15) ∧ (r13 = -3) := hp5
      obtain ⟨hB_o15, fc_o15, hp5⟩ := hp5
      have fr_o15 : Fr [(0, 17), (6, 9999), (77, 9999)] o o15 := Fr.tr fr_o fc_o15 rfl
      refine T_some ?_
      show BoxC o15 ∧ (Fr [(0, 17), (6, 9999), (77, 9999)] o o15)
      exact ⟨hB_o15, fr_o15⟩
    ·
      refine T_qB (t_X8_holds o x1 x2 hB_o (by omega) (by omega)) (fun r5 hc_r5 hp6 => ?_)
      replace hp6 : ((r5 = 1 ∧ 0 ≤ x2 ∧ x2 < o.1 5 x1.toNat ∧ o.1 5 x1.toNat ≤ 40) ∨ (r5 = 0 ∧ ¬ (0 ≤ x2 ∧ x2 < o.1 5 x1.toNat))) := hp6
      refine T_qEq ⟨by omega, by omega⟩ ⟨by decide, by decide⟩ (fun h7 => ?_) (fun h7 => ?_)
      ·
        refine T_qB2 (t_X11_found o 2 hB_o (by omega)) (fun r10 o12 hc_r10 hp8 => ?_)
        replace hp8 : BoxC o12 ∧ (Fr [(0, 17), (77, 9999)] o o12) ∧ (r10 = -3) := hp8
        obtain ⟨hB_o12, fc_o12, hp8⟩ := hp8
        have fr_o12 : Fr [(0, 17), (6, 9999), (77, 9999)] o o12 := Fr.tr fr_o fc_o12 rfl
        refine T_some ?_
        show BoxC o12 ∧ (Fr [(0, 17), (6, 9999), (77, 9999)] o o12)
        exact ⟨hB_o12, fr_o12⟩
      ·
        refine T_qB2 (t_X8_exchange__4 o x1 x2 (jb x3) hB_o (by omega) (by omega)) (fun r7 o9 hc_r7 hp9 => ?_)
        replace hp9 : BoxC o9 ∧ (Fr [(6, 9999)] o o9) ∧ (inR r7) := hp9
        obtain ⟨hB_o9, fc_o9, hp9⟩ := hp9
        have fr_o9 : Fr [(0, 17), (6, 9999), (77, 9999)] o o9 := Fr.tr fr_o fc_o9 rfl
        refine T_some ?_
        show BoxC o9 ∧ (Fr [(0, 17), (6, 9999), (77, 9999)] o o9)
        exact ⟨hB_o9, fr_o9⟩
set_option maxRecDepth 20000 in
set_option maxHeartbeats 4000000 in
theorem t_X4_routeOf (o : OO) (x1 : Int) (x2 : Int) (hB_o : BoxC o) (k0 : 0 ≤ x1 ∧ x1 ≤ 23) (k1 : 0 ≤ x2 ∧ x2 ≤ 63) : T (s_X4_routeOf o x1 x2) (fun v => BoxC v ∧ (Fr [(36, 9999), (37, 9999), (38, 9999)] o v)) := by
  have fr_o : Fr [(36, 9999), (37, 9999), (38, 9999)] o o := Fr.rf
  unfold s_X4_routeOf
  refine T_qIn ⟨by omega, by omega⟩ ?_
  refine T_qNm (fun o2 e_o2 => ?_)
  have hB_o2 : BoxC o2 := by rw [e_o2]; exact Box.s1 hB_o (show 0 ≤ 1 ∧ 1 ≤ 64 from ⟨by omega, by omega⟩)
  have fr_o2 : Fr [(36, 9999), (37, 9999), (38, 9999)] o o2 := by rw [e_o2]; exact Fr.s1 fr_o rfl
  refine T_qIn ⟨by omega, by omega⟩ ?_
  refine T_qNm (fun o4 e_o4 => ?_)
  have hB_o4 : BoxC o4 := by rw [e_o4]; exact Box.s1 hB_o2 (show 0 ≤ x2 ∧ x2 ≤ 63 from ⟨by omega, by omega⟩)
  have fr_o4 : Fr [(36, 9999), (37, 9999), (38, 9999)] o o4 := by rw [e_o4]; exact Fr.s1 fr_o2 rfl
  refine T_qB (t_X3_bit x2) (fun p5 hc_p5 hp1 => ?_)
  replace hp1 : (p5 = jshl 1 (Int32.ofInt x2)) := hp1
  refine T_qIn ⟨by omega, by omega⟩ ?_
  refine T_qNm (fun o8 e_o8 => ?_)
  have hB_o8 : BoxC o8 := by rw [e_o8]; exact Box.s2 hB_o4
  have fr_o8 : Fr [(36, 9999), (37, 9999), (38, 9999)] o o8 := by rw [e_o8]; exact Fr.s2 fr_o4 rfl
  refine T_some ?_
  show BoxC o8 ∧ (Fr [(36, 9999), (37, 9999), (38, 9999)] o o8)
  exact ⟨hB_o8, fr_o8⟩
set_option maxRecDepth 20000 in
set_option maxHeartbeats 4000000 in
theorem t_X11_ramp (o : OO) (x1 : Int) (x2 : Int) (hB_o : BoxC o) (k0 : inR x1) (k1 : inR x2) : T (s_X11_ramp o x1 x2) (fun v => BoxC v.2 ∧ (Fr [(0, 17), (32, 13), (33, 9999), (34, 9999), (35, 9999), (36, 9999), (37, 9999), (38, 9999), (40, 9999), (77, 9999)] o v.2)) := by
  have fr_o : Fr [(0, 17), (32, 13), (33, 9999), (34, 9999), (35, 9999), (36, 9999), (37, 9999), (38, 9999), (40, 9999), (77, 9999)] o o := Fr.rf
  have g0_13_o := bC_0_13 hB_o
  have g32_13_o := bC_32_13 hB_o
  unfold s_X11_ramp
  refine T_qB (t_X4_exists o x1 hB_o (by omega)) (fun r9 hc_r9 hp1 => ?_)
  replace hp1 : ((r9 = 1 ∧ (0 ≤ x1 ∧ x1 < o.1 32 13)) ∨ (r9 = 0 ∧ ¬ (0 ≤ x1 ∧ x1 < o.1 32 13))) := hp1
  refine T_qEq ⟨by omega, by omega⟩ ⟨by decide, by decide⟩ (fun h2 => ?_) (fun h2 => ?_)
  ·
    unfold b_X11_ramp_18
    refine T_some ?_
    show BoxC o ∧ (Fr [(0, 17), (32, 13), (33, 9999), (34, 9999), (35, 9999), (36, 9999), (37, 9999), (38, 9999), (40, 9999), (77, 9999)] o o)
    exact ⟨hB_o, fr_o⟩
  ·
    refine T_qB (t_X3_isCell x2 (by omega)) (fun r11 hc_r11 hp3 => ?_)
    replace hp3 : ((r11 = 1 ∧ (0 ≤ x2 ∧ x2 < 64)) ∨ (r11 = 0 ∧ ¬ (0 ≤ x2 ∧ x2 < 64))) := hp3
    refine T_qEq ⟨by omega, by omega⟩ ⟨by decide, by decide⟩ (fun h4 => ?_) (fun h4 => ?_)
    ·
      unfold b_X11_ramp_18
      refine T_some ?_
      show BoxC o ∧ (Fr [(0, 17), (32, 13), (33, 9999), (34, 9999), (35, 9999), (36, 9999), (37, 9999), (38, 9999), (40, 9999), (77, 9999)] o o)
      exact ⟨hB_o, fr_o⟩
    ·
      refine T_qB (t_X4_number o hB_o) (fun r13 hc_r13 hp5 => ?_)
      replace hp5 : (r13 = o.1 32 13) := hp5
      refine T_qLt ⟨by omega, by omega⟩ ⟨by decide, by decide⟩ (fun h6 => ?_) (fun h6 => ?_)
      ·
        refine T_qB (t_X4_isOf o x1 1 hB_o (by omega) (by omega)) (fun r15 hc_r15 hp7 => ?_)
        replace hp7 : (0 ≤ r15 ∧ r15 ≤ 1) := hp7
        refine T_qEq ⟨by omega, by omega⟩ ⟨by decide, by decide⟩ (fun h8 => ?_) (fun h8 => ?_)
        ·
          refine T_qB2 (t_X11_found o 3 hB_o (by omega)) (fun r25 o27 hc_r25 hp9 => ?_)
          replace hp9 : BoxC o27 ∧ (Fr [(0, 17), (77, 9999)] o o27) ∧ (r25 = -3) := hp9
          obtain ⟨hB_o27, fc_o27, hp9⟩ := hp9
          have fr_o27 : Fr [(0, 17), (32, 13), (33, 9999), (34, 9999), (35, 9999), (36, 9999), (37, 9999), (38, 9999), (40, 9999), (77, 9999)] o o27 := Fr.tr fr_o fc_o27 rfl
          have g0_13_o27 : o27.1 0 13 = o.1 0 13 := fc_o27.1 0 13 rfl
          have g32_13_o27 : o27.1 32 13 = o.1 32 13 := fc_o27.1 32 13 rfl
          refine T_some ?_
          show BoxC o27 ∧ (Fr [(0, 17), (32, 13), (33, 9999), (34, 9999), (35, 9999), (36, 9999), (37, 9999), (38, 9999), (40, 9999), (77, 9999)] o o27)
          exact ⟨hB_o27, fr_o27⟩
        ·
          refine T_qB (t_X4_cells o x1 hB_o (by omega)) (fun p17 hc_p17 hp10 => ?_)
          refine T_qB (t_X3_spread p17) (fun p19 hc_p19 hp11 => ?_)
          refine T_qB (t_X3_has p19 x2) (fun r21 hc_r21 hp12 => ?_)
          replace hp12 : (0 ≤ r21 ∧ r21 ≤ 1) ∧ (HBT p19 x2 r21) := hp12
          have hps_hp12 := hp12
          obtain ⟨hp12_0, hp12_1⟩ := hps_hp12
          replace hp12 := hid hp12
          refine T_qEq ⟨by omega, by omega⟩ ⟨by decide, by decide⟩ (fun h13 => ?_) (fun h13 => ?_)
          ·
            unfold b_X11_ramp_85
            unfold b_X11_ramp_86
            refine T_qB (t_X3_isWater o x2 hB_o (by omega)) (fun r1 hc_r1 hp14 => ?_)
            replace hp14 : ((r1 = 1 ∧ (o.1 8 x2.toNat = 4)) ∨ (r1 = 0 ∧ ¬ (o.1 8 x2.toNat = 4))) := hp14
            refine T_qEq ⟨by omega, by omega⟩ ⟨by decide, by decide⟩ (fun h15 => ?_) (fun h15 => ?_)
            ·
              refine T_qEq ⟨by decide, by decide⟩ ⟨by decide, by decide⟩ (fun h16 => ?_) (fun h16 => ?_)
              ·
                unfold b_X11_ramp_104
                refine T_some ?_
                show BoxC o ∧ (Fr [(0, 17), (32, 13), (33, 9999), (34, 9999), (35, 9999), (36, 9999), (37, 9999), (38, 9999), (40, 9999), (77, 9999)] o o)
                exact ⟨hB_o, fr_o⟩
              ·
                refine T_qB2 (t_X4_add o 2 (o.1 0 13) x1 hB_o (by omega) (by omega) (by omega) (by omega)) (fun r3 o5 hc_r3 hp17 => ?_)
                replace hp17 : BoxC o5 ∧ (Fr [(32, 13), (33, 9999), (34, 9999), (35, 9999), (40, 9999)] o o5) ∧ (r3 = o.1 32 13) ∧ (o5.1 32 13 = o.1 32 13 + 1) := hp17
                obtain ⟨hB_o5, fc_o5, hp17⟩ := hp17
                have fr_o5 : Fr [(0, 17), (32, 13), (33, 9999), (34, 9999), (35, 9999), (36, 9999), (37, 9999), (38, 9999), (40, 9999), (77, 9999)] o o5 := Fr.tr fr_o fc_o5 rfl
                have g0_13_o5 : o5.1 0 13 = o.1 0 13 := fc_o5.1 0 13 rfl
                have g32_13_o5 := bC_32_13 hB_o5
                refine T_qB (t_X4_routeOf o5 r3 x2 hB_o5 (by omega) (by omega)) (fun o8 hc_o8 hp18 => ?_)
                replace hp18 : BoxC o8 ∧ (Fr [(36, 9999), (37, 9999), (38, 9999)] o5 o8) := hp18
                obtain ⟨hB_o8, fc_o8⟩ := hp18
                have fr_o8 : Fr [(0, 17), (32, 13), (33, 9999), (34, 9999), (35, 9999), (36, 9999), (37, 9999), (38, 9999), (40, 9999), (77, 9999)] o o8 := Fr.tr fr_o5 fc_o8 rfl
                have g0_13_o8 : o8.1 0 13 = o5.1 0 13 := fc_o8.1 0 13 rfl
                have g32_13_o8 : o8.1 32 13 = o5.1 32 13 := fc_o8.1 32 13 rfl
                refine T_some ?_
                show BoxC o8 ∧ (Fr [(0, 17), (32, 13), (33, 9999), (34, 9999), (35, 9999), (36, 9999), (37, 9999), (38, 9999), (40, 9999), (77, 9999)] o o8)
                exact ⟨hB_o8, fr_o8⟩
            ·
              unfold b_X11_ramp_104
              refine T_some ?_
              show BoxC o ∧ (Fr [(0, 17), (32, 13), (33, 9999), (34, 9999), (35, 9999), (36, 9999), (37, 9999), (38, 9999), (40, 9999), (77, 9999)] o o)
              exact ⟨hB_o, fr_o⟩
          ·
            refine T_qB (t_X3_has p17 x2) (fun r23 hc_r23 hp19 => ?_)
            replace hp19 : (0 ≤ r23 ∧ r23 ≤ 1) ∧ (HBT p17 x2 r23) := hp19
            have hps_hp19 := hp19
            obtain ⟨hp19_0, hp19_1⟩ := hps_hp19
            replace hp19 := hid hp19
            refine T_qEq ⟨by omega, by omega⟩ ⟨by decide, by decide⟩ (fun h20 => ?_) (fun h20 => ?_)
            ·
              unfold b_X11_ramp_86
              refine T_qB (t_X3_isWater o x2 hB_o (by omega)) (fun r1 hc_r1 hp21 => ?_)
              replace hp21 : ((r1 = 1 ∧ (o.1 8 x2.toNat = 4)) ∨ (r1 = 0 ∧ ¬ (o.1 8 x2.toNat = 4))) := hp21
              refine T_qEq ⟨by omega, by omega⟩ ⟨by decide, by decide⟩ (fun h22 => ?_) (fun h22 => ?_)
              ·
                refine T_qEq ⟨by decide, by decide⟩ ⟨by decide, by decide⟩ (fun h23 => ?_) (fun h23 => ?_)
                ·
                  unfold b_X11_ramp_104
                  refine T_some ?_
                  show BoxC o ∧ (Fr [(0, 17), (32, 13), (33, 9999), (34, 9999), (35, 9999), (36, 9999), (37, 9999), (38, 9999), (40, 9999), (77, 9999)] o o)
                  exact ⟨hB_o, fr_o⟩
                ·
                  refine T_qB2 (t_X4_add o 2 (o.1 0 13) x1 hB_o (by omega) (by omega) (by omega) (by omega)) (fun r3 o5 hc_r3 hp24 => ?_)
                  replace hp24 : BoxC o5 ∧ (Fr [(32, 13), (33, 9999), (34, 9999), (35, 9999), (40, 9999)] o o5) ∧ (r3 = o.1 32 13) ∧ (o5.1 32 13 = o.1 32 13 + 1) := hp24
                  obtain ⟨hB_o5, fc_o5, hp24⟩ := hp24
                  have fr_o5 : Fr [(0, 17), (32, 13), (33, 9999), (34, 9999), (35, 9999), (36, 9999), (37, 9999), (38, 9999), (40, 9999), (77, 9999)] o o5 := Fr.tr fr_o fc_o5 rfl
                  have g0_13_o5 : o5.1 0 13 = o.1 0 13 := fc_o5.1 0 13 rfl
                  have g32_13_o5 := bC_32_13 hB_o5
                  refine T_qB (t_X4_routeOf o5 r3 x2 hB_o5 (by omega) (by omega)) (fun o8 hc_o8 hp25 => ?_)
                  replace hp25 : BoxC o8 ∧ (Fr [(36, 9999), (37, 9999), (38, 9999)] o5 o8) := hp25
                  obtain ⟨hB_o8, fc_o8⟩ := hp25
                  have fr_o8 : Fr [(0, 17), (32, 13), (33, 9999), (34, 9999), (35, 9999), (36, 9999), (37, 9999), (38, 9999), (40, 9999), (77, 9999)] o o8 := Fr.tr fr_o5 fc_o8 rfl
                  have g0_13_o8 : o8.1 0 13 = o5.1 0 13 := fc_o8.1 0 13 rfl
                  have g32_13_o8 : o8.1 32 13 = o5.1 32 13 := fc_o8.1 32 13 rfl
                  refine T_some ?_
                  show BoxC o8 ∧ (Fr [(0, 17), (32, 13), (33, 9999), (34, 9999), (35, 9999), (36, 9999), (37, 9999), (38, 9999), (40, 9999), (77, 9999)] o o8)
                  exact ⟨hB_o8, fr_o8⟩
              ·
                unfold b_X11_ramp_104
                refine T_some ?_
                show BoxC o ∧ (Fr [(0, 17), (32, 13), (33, 9999), (34, 9999), (35, 9999), (36, 9999), (37, 9999), (38, 9999), (40, 9999), (77, 9999)] o o)
                exact ⟨hB_o, fr_o⟩
            ·
              unfold b_X11_ramp_85
              unfold b_X11_ramp_86
              refine T_qB (t_X3_isWater o x2 hB_o (by omega)) (fun r1 hc_r1 hp26 => ?_)
              replace hp26 : ((r1 = 1 ∧ (o.1 8 x2.toNat = 4)) ∨ (r1 = 0 ∧ ¬ (o.1 8 x2.toNat = 4))) := hp26
              refine T_qEq ⟨by omega, by omega⟩ ⟨by decide, by decide⟩ (fun h27 => ?_) (fun h27 => ?_)
              ·
                refine T_qEq ⟨by decide, by decide⟩ ⟨by decide, by decide⟩ (fun h28 => ?_) (fun h28 => ?_)
                ·
                  unfold b_X11_ramp_104
                  refine T_some ?_
                  show BoxC o ∧ (Fr [(0, 17), (32, 13), (33, 9999), (34, 9999), (35, 9999), (36, 9999), (37, 9999), (38, 9999), (40, 9999), (77, 9999)] o o)
                  exact ⟨hB_o, fr_o⟩
                ·
                  refine T_qB2 (t_X4_add o 2 (o.1 0 13) x1 hB_o (by omega) (by omega) (by omega) (by omega)) (fun r3 o5 hc_r3 hp29 => ?_)
                  replace hp29 : BoxC o5 ∧ (Fr [(32, 13), (33, 9999), (34, 9999), (35, 9999), (40, 9999)] o o5) ∧ (r3 = o.1 32 13) ∧ (o5.1 32 13 = o.1 32 13 + 1) := hp29
                  obtain ⟨hB_o5, fc_o5, hp29⟩ := hp29
                  have fr_o5 : Fr [(0, 17), (32, 13), (33, 9999), (34, 9999), (35, 9999), (36, 9999), (37, 9999), (38, 9999), (40, 9999), (77, 9999)] o o5 := Fr.tr fr_o fc_o5 rfl
                  have g0_13_o5 : o5.1 0 13 = o.1 0 13 := fc_o5.1 0 13 rfl
                  have g32_13_o5 := bC_32_13 hB_o5
                  refine T_qB (t_X4_routeOf o5 r3 x2 hB_o5 (by omega) (by omega)) (fun o8 hc_o8 hp30 => ?_)
                  replace hp30 : BoxC o8 ∧ (Fr [(36, 9999), (37, 9999), (38, 9999)] o5 o8) := hp30
                  obtain ⟨hB_o8, fc_o8⟩ := hp30
                  have fr_o8 : Fr [(0, 17), (32, 13), (33, 9999), (34, 9999), (35, 9999), (36, 9999), (37, 9999), (38, 9999), (40, 9999), (77, 9999)] o o8 := Fr.tr fr_o5 fc_o8 rfl
                  have g0_13_o8 : o8.1 0 13 = o5.1 0 13 := fc_o8.1 0 13 rfl
                  have g32_13_o8 : o8.1 32 13 = o5.1 32 13 := fc_o8.1 32 13 rfl
                  refine T_some ?_
                  show BoxC o8 ∧ (Fr [(0, 17), (32, 13), (33, 9999), (34, 9999), (35, 9999), (36, 9999), (37, 9999), (38, 9999), (40, 9999), (77, 9999)] o o8)
                  exact ⟨hB_o8, fr_o8⟩
              ·
                unfold b_X11_ramp_104
                refine T_some ?_
                show BoxC o ∧ (Fr [(0, 17), (32, 13), (33, 9999), (34, 9999), (35, 9999), (36, 9999), (37, 9999), (38, 9999), (40, 9999), (77, 9999)] o o)
                exact ⟨hB_o, fr_o⟩
      ·
        refine T_some ?_
        show BoxC o ∧ (Fr [(0, 17), (32, 13), (33, 9999), (34, 9999), (35, 9999), (36, 9999), (37, 9999), (38, 9999), (40, 9999), (77, 9999)] o o)
        exact ⟨hB_o, fr_o⟩
set_option maxRecDepth 20000 in
set_option maxHeartbeats 4000000 in
theorem t_J7_rangeCheck_23922 (x0 : Int) (x1 : Int) (x2 : Int) (k0 : 0 ≤ x1 ∧ x1 ≤ x2) (k1 : x2 ≤ x0) (k2 : x0 ≤ 10000) : T (s_J7_rangeCheck_23922 x0 x1 x2) (fun _ => True) := by
  unfold s_J7_rangeCheck_23922
  refine T_qLt ⟨by omega, by omega⟩ ⟨by omega, by omega⟩ (fun h1 => ?_) (fun h1 => ?_)
  ·
    exfalso
    omega
  ·
    refine T_qLt ⟨by omega, by omega⟩ ⟨by decide, by decide⟩ (fun h2 => ?_) (fun h2 => ?_)
    ·
      exfalso
      omega
    ·
      refine T_qLt ⟨by omega, by omega⟩ ⟨by omega, by omega⟩ (fun h3 => ?_) (fun h3 => ?_)
      ·
        exfalso
        omega
      ·
        refine T_some ?_
        show True
        exact trivial
set_option maxRecDepth 20000 in
set_option maxHeartbeats 4000000 in
theorem tl_J7_fill_fda19_10 (x2 : Int) (x3 : Int) (i_o : OO) (i_x4 : Int) (hB_i_o : BoxC i_o) (k0 : 0 ≤ x2 ∧ x2 ≤ 240) (k1 : -2147483648 ≤ x3 ∧ x3 ≤ 2147483647) (v0 : 0 ≤ i_x4 ∧ i_x4 ≤ 240) : T (loopW (fun s => l_J7_fill_fda19_10 x2 x3 s.1 s.2) (i_o, i_x4)) (fun r => BoxC r ∧ (Fr [(3, 9999)] i_o r)) := by
  have fr_i_o : Fr [(3, 9999)] i_o i_o := Fr.rf
  refine T_loop (fun s => BoxC s.1 ∧ (Fr [(3, 9999)] i_o s.1) ∧ (0 ≤ s.2 ∧ s.2 ≤ 240)) (fun s => (240 - s.2).toNat) (by exact ⟨hB_i_o, fr_i_o, v0⟩) (fun s hs => ?_)
  obtain ⟨o, x4⟩ := s
  replace hs : BoxC o ∧ (Fr [(3, 9999)] i_o o) ∧ (0 ≤ x4 ∧ x4 ≤ 240) := hs
  obtain ⟨hB_o, fr_o, w0⟩ := hs
  show T (l_J7_fill_fda19_10 x2 x3 o x4) _
  unfold l_J7_fill_fda19_10
  refine T_qLt ⟨by omega, by omega⟩ ⟨by omega, by omega⟩ (fun h1 => ?_) (fun h1 => ?_)
  ·
    refine T_qIn ⟨by omega, by omega⟩ ?_
    refine T_qNm (fun o2 e_o2 => ?_)
    have hB_o2 : BoxC o2 := by rw [e_o2]; exact Box.s1 hB_o (show -2147483648 ≤ x3 ∧ x3 ≤ 2147483647 from ⟨by omega, by omega⟩)
    have fr_o2 : Fr [(3, 9999)] i_o o2 := by rw [e_o2]; exact Fr.s1 fr_o rfl
    refine T_some ?_
    show (BoxC o2 ∧ (Fr [(3, 9999)] i_o o2) ∧ (0 ≤ (x4 + 1) ∧ (x4 + 1) ≤ 240)) ∧ (240 - (x4 + 1)).toNat < (240 - x4).toNat
    exact ⟨⟨hB_o2, fr_o2, (by omega)⟩, by omega⟩
  ·
    refine T_some ?_
    show BoxC o ∧ (Fr [(3, 9999)] i_o o)
    exact ⟨hB_o, fr_o⟩
set_option maxRecDepth 20000 in
set_option maxHeartbeats 4000000 in
theorem t_J7_fill_fda19 (o : OO) (x1 : Int) (x2 : Int) (x3 : Int) (hB_o : BoxC o) (k0 : 0 ≤ x1 ∧ x1 ≤ x2) (k1 : x2 ≤ 240) (k2 : -2147483648 ≤ x3 ∧ x3 ≤ 2147483647) : T (s_J7_fill_fda19 o x1 x2 x3) (fun v => BoxC v ∧ (Fr [(3, 9999)] o v)) := by
  have fr_o : Fr [(3, 9999)] o o := Fr.rf
  unfold s_J7_fill_fda19
  refine T_qB (t_J7_rangeCheck_23922 240 x1 x2 (by omega) (by omega) (by omega)) (fun u2 hc_u2 hp3 => ?_)
  unfold e_J7_fill_fda19_10
  refine T_qB (tl_J7_fill_fda19_10 x2 x3 o x1 hB_o (by omega) (by omega) (by omega)) (fun r4 hc_r4 hp5 => ?_)
  obtain ⟨o_6, q_o_6⟩ : ∃ q, q = r4 := ⟨_, rfl⟩
  subst q_o_6
  replace hp5 : BoxC o_6 ∧ (Fr [(3, 9999)] o o_6) := hp5
  have hps_hp5 := hp5
  obtain ⟨hp5_0, hp5_1⟩ := hps_hp5
  obtain ⟨hB_o_6, fc_o_6⟩ := hp5
  have fr_o_6 : Fr [(3, 9999)] o o_6 := Fr.tr fr_o fc_o_6 rfl
  show T (b_J7_fill_fda19_27 o_6) _
  unfold b_J7_fill_fda19_27
  refine T_some ?_
  show BoxC o_6 ∧ (Fr [(3, 9999)] o o_6)
  exact ⟨hB_o_6, fr_o_6⟩
set_option maxRecDepth 20000 in
set_option maxHeartbeats 4000000 in
theorem t_X8_layOut (o : OO) (x1 : Int) (x2 : Int) (hB_o : BoxC o) (k0 : 0 ≤ x1 ∧ x1 ≤ 5) (k1 : 0 ≤ x2 ∧ x2 ≤ 40) : T (s_X8_layOut o x1 x2) (fun v => BoxC v ∧ (Fr [(2, 9999), (3, 9999)] o v)) := by
  have fr_o : Fr [(2, 9999), (3, 9999)] o o := Fr.rf
  have g1_1_o := bC_1_1 hB_o
  unfold s_X8_layOut
  refine T_qIn ⟨by omega, by omega⟩ ?_
  refine T_qNm (fun o2 e_o2 => ?_)
  have hB_o2 : BoxC o2 := by rw [e_o2]; exact Box.s1 hB_o (show -1 ≤ x2 ∧ x2 ≤ 40 from ⟨by omega, by omega⟩)
  have fr_o2 : Fr [(2, 9999), (3, 9999)] o o2 := by rw [e_o2]; exact Fr.s1 fr_o rfl
  have g1_1_o2 : o2.1 1 1 = o.1 1 1 := by rw [e_o2]; rfl
  refine T_qB (t_J7_fill_fda19 o2 (x1 * 40) ((x1 * 40) + x2) (o2.1 1 1) hB_o2 (by omega) (by omega) (by omega)) (fun o5 hc_o5 hp1 => ?_)
  replace hp1 : BoxC o5 ∧ (Fr [(3, 9999)] o2 o5) := hp1
  obtain ⟨hB_o5, fc_o5⟩ := hp1
  have fr_o5 : Fr [(2, 9999), (3, 9999)] o o5 := Fr.tr fr_o2 fc_o5 rfl
  have g1_1_o5 : o5.1 1 1 = o2.1 1 1 := fc_o5.1 1 1 rfl
  refine T_some ?_
  show BoxC o5 ∧ (Fr [(2, 9999), (3, 9999)] o o5)
  exact ⟨hB_o5, fr_o5⟩
set_option maxRecDepth 20000 in
set_option maxHeartbeats 4000000 in
theorem t_X11_row (o : OO) (x1 : Int) (x2 : Int) (hB_o : BoxC o) (k0 : inR x1) (k1 : inR x2) : T (s_X11_row o x1 x2) (fun v => BoxC v.2 ∧ (Fr [(0, 17), (2, 9999), (3, 9999), (77, 9999)] o v.2) ∧ (v.1 = RWA x1 x2)) := by
  have fr_o : Fr [(0, 17), (2, 9999), (3, 9999), (77, 9999)] o o := Fr.rf
  unfold s_X11_row
  refine T_qB (t_X8_exists o x1 hB_o (by omega)) (fun r1 hc_r1 hp1 => ?_)
  replace hp1 : ((r1 = 1 ∧ (0 ≤ x1 ∧ x1 < 6)) ∨ (r1 = 0 ∧ ¬ (0 ≤ x1 ∧ x1 < 6))) := hp1
  refine T_qEq ⟨by omega, by omega⟩ ⟨by decide, by decide⟩ (fun h2 => ?_) (fun h2 => ?_)
  ·
    unfold b_X11_row_17
    refine T_some ?_
    show BoxC o ∧ (Fr [(0, 17), (2, 9999), (3, 9999), (77, 9999)] o o) ∧ ((-1) = RWA x1 x2)
    exact ⟨hB_o, fr_o, (by unfold RWA; split <;> first | omega | (split <;> first | omega | (split <;> first | omega | (split <;> omega))))⟩
  ·
    refine T_qLt ⟨by decide, by decide⟩ ⟨by omega, by omega⟩ (fun h3 => ?_) (fun h3 => ?_)
    ·
      unfold b_X11_row_17
      refine T_some ?_
      show BoxC o ∧ (Fr [(0, 17), (2, 9999), (3, 9999), (77, 9999)] o o) ∧ ((-1) = RWA x1 x2)
      exact ⟨hB_o, fr_o, (by unfold RWA; split <;> first | omega | (split <;> first | omega | (split <;> first | omega | (split <;> omega))))⟩
    ·
      refine T_qLt ⟨by omega, by omega⟩ ⟨by decide, by decide⟩ (fun h4 => ?_) (fun h4 => ?_)
      ·
        refine T_qB2 (t_X11_found o 5 hB_o (by omega)) (fun r6 o8 hc_r6 hp5 => ?_)
        replace hp5 : BoxC o8 ∧ (Fr [(0, 17), (77, 9999)] o o8) ∧ (r6 = -3) := hp5
        obtain ⟨hB_o8, fc_o8, hp5⟩ := hp5
        have fr_o8 : Fr [(0, 17), (2, 9999), (3, 9999), (77, 9999)] o o8 := Fr.tr fr_o fc_o8 rfl
        refine T_some ?_
        show BoxC o8 ∧ (Fr [(0, 17), (2, 9999), (3, 9999), (77, 9999)] o o8) ∧ (r6 = RWA x1 x2)
        exact ⟨hB_o8, fr_o8, (by unfold RWA; split <;> first | omega | (split <;> first | omega | (split <;> first | omega | (split <;> omega))))⟩
      ·
        refine T_qB (t_X8_layOut o x1 x2 hB_o (by omega) (by omega)) (fun o5 hc_o5 hp6 => ?_)
        replace hp6 : BoxC o5 ∧ (Fr [(2, 9999), (3, 9999)] o o5) := hp6
        obtain ⟨hB_o5, fc_o5⟩ := hp6
        have fr_o5 : Fr [(0, 17), (2, 9999), (3, 9999), (77, 9999)] o o5 := Fr.tr fr_o fc_o5 rfl
        refine T_some ?_
        show BoxC o5 ∧ (Fr [(0, 17), (2, 9999), (3, 9999), (77, 9999)] o o5) ∧ (x2 = RWA x1 x2)
        exact ⟨hB_o5, fr_o5, (by unfold RWA; split <;> first | omega | (split <;> first | omega | (split <;> first | omega | (split <;> omega))))⟩
set_option maxRecDepth 20000 in
set_option maxHeartbeats 4000000 in
theorem tl_J7_fill_fda19__31_10 (x2 : Int) (x3 : Int) (i_o : OO) (i_x4 : Int) (hB_i_o : BoxC i_o) (k0 : 0 ≤ x2 ∧ x2 ≤ 128) (k1 : -1 ≤ x3 ∧ x3 ≤ 9999) (v0 : 0 ≤ i_x4 ∧ i_x4 ≤ 128) : T (loopW (fun s => l_J7_fill_fda19__31_10 x2 x3 s.1 s.2) (i_o, i_x4)) (fun r => BoxC r ∧ (Fr [(31, 9999)] i_o r)) := by
  have fr_i_o : Fr [(31, 9999)] i_o i_o := Fr.rf
  refine T_loop (fun s => BoxC s.1 ∧ (Fr [(31, 9999)] i_o s.1) ∧ (0 ≤ s.2 ∧ s.2 ≤ 128)) (fun s => (128 - s.2).toNat) (by exact ⟨hB_i_o, fr_i_o, v0⟩) (fun s hs => ?_)
  obtain ⟨o, x4⟩ := s
  replace hs : BoxC o ∧ (Fr [(31, 9999)] i_o o) ∧ (0 ≤ x4 ∧ x4 ≤ 128) := hs
  obtain ⟨hB_o, fr_o, w0⟩ := hs
  show T (l_J7_fill_fda19__31_10 x2 x3 o x4) _
  unfold l_J7_fill_fda19__31_10
  refine T_qLt ⟨by omega, by omega⟩ ⟨by omega, by omega⟩ (fun h1 => ?_) (fun h1 => ?_)
  ·
    refine T_qIn ⟨by omega, by omega⟩ ?_
    refine T_qNm (fun o2 e_o2 => ?_)
    have hB_o2 : BoxC o2 := by rw [e_o2]; exact Box.s1 hB_o (show -1 ≤ x3 ∧ x3 ≤ 9999 from ⟨by omega, by omega⟩)
    have fr_o2 : Fr [(31, 9999)] i_o o2 := by rw [e_o2]; exact Fr.s1 fr_o rfl
    refine T_some ?_
    show (BoxC o2 ∧ (Fr [(31, 9999)] i_o o2) ∧ (0 ≤ (x4 + 1) ∧ (x4 + 1) ≤ 128)) ∧ (128 - (x4 + 1)).toNat < (128 - x4).toNat
    exact ⟨⟨hB_o2, fr_o2, (by omega)⟩, by omega⟩
  ·
    refine T_some ?_
    show BoxC o ∧ (Fr [(31, 9999)] i_o o)
    exact ⟨hB_o, fr_o⟩
set_option maxRecDepth 20000 in
set_option maxHeartbeats 4000000 in
theorem t_J7_fill_fda19__31 (o : OO) (x1 : Int) (x2 : Int) (x3 : Int) (hB_o : BoxC o) (k0 : 0 ≤ x1 ∧ x1 ≤ x2) (k1 : x2 ≤ 128) (k2 : -1 ≤ x3 ∧ x3 ≤ 9999) : T (s_J7_fill_fda19__31 o x1 x2 x3) (fun v => BoxC v ∧ (Fr [(31, 9999)] o v)) := by
  have fr_o : Fr [(31, 9999)] o o := Fr.rf
  unfold s_J7_fill_fda19__31
  refine T_qB (t_J7_rangeCheck_23922 128 x1 x2 (by omega) (by omega) (by omega)) (fun u2 hc_u2 hp3 => ?_)
  unfold e_J7_fill_fda19__31_10
  refine T_qB (tl_J7_fill_fda19__31_10 x2 x3 o x1 hB_o (by omega) (by omega) (by omega)) (fun r4 hc_r4 hp5 => ?_)
  obtain ⟨o_6, q_o_6⟩ : ∃ q, q = r4 := ⟨_, rfl⟩
  subst q_o_6
  replace hp5 : BoxC o_6 ∧ (Fr [(31, 9999)] o o_6) := hp5
  have hps_hp5 := hp5
  obtain ⟨hp5_0, hp5_1⟩ := hps_hp5
  obtain ⟨hB_o_6, fc_o_6⟩ := hp5
  have fr_o_6 : Fr [(31, 9999)] o o_6 := Fr.tr fr_o fc_o_6 rfl
  show T (b_J7_fill_fda19__31_27 o_6) _
  unfold b_J7_fill_fda19__31_27
  refine T_some ?_
  show BoxC o_6 ∧ (Fr [(31, 9999)] o o_6)
  exact ⟨hB_o_6, fr_o_6⟩
set_option maxRecDepth 20000 in
set_option maxHeartbeats 4000000 in
theorem tl_X7_numberAt_6 (o : OO) (x1 : Int) (x2 : Int) (x3 : Int) (i_x4 : Int) (i_x5 : Int) (hB_o : BoxC o) (k0 : 0 ≤ x1 ∧ x1 ≤ 5) (k1 : 0 ≤ x2 ∧ x2 ≤ 100) (k2 : 0 ≤ x3 ∧ x3 ≤ 4) (k3 : x3 = 0 ∨ x2 + x3 ≤ 40) (k4 : ∀ k : Int, x2 ≤ k → k < x2 + x3 → 48 ≤ o.1 6 (x1 * 40 + k).toNat ∧ o.1 6 (x1 * 40 + k).toNat ≤ 57) (v0 : x2 ≤ i_x5 ∧ i_x5 ≤ x2 + x3) (v1 : 0 ≤ i_x4) (v2 : i_x5 = x2 ∧ i_x4 = 0 ∨ i_x5 = x2 + 1 ∧ i_x4 ≤ 9 ∨ i_x5 = x2 + 2 ∧ i_x4 ≤ 99 ∨ i_x5 = x2 + 3 ∧ i_x4 ≤ 999 ∨ i_x5 = x2 + 4 ∧ i_x4 ≤ 9999) : T (loopW (fun s => l_X7_numberAt_6 o x1 x2 x3 s.1 s.2) (i_x4, i_x5)) (fun r => (0 ≤ r ∧ r ≤ 9999)) := by
  refine T_loop (fun s => (x2 ≤ s.2 ∧ s.2 ≤ x2 + x3) ∧ (0 ≤ s.1) ∧ (s.2 = x2 ∧ s.1 = 0 ∨ s.2 = x2 + 1 ∧ s.1 ≤ 9 ∨ s.2 = x2 + 2 ∧ s.1 ≤ 99 ∨ s.2 = x2 + 3 ∧ s.1 ≤ 999 ∨ s.2 = x2 + 4 ∧ s.1 ≤ 9999)) (fun s => (x2 + x3 - s.2).toNat) (by exact ⟨v0, v1, v2⟩) (fun s hs => ?_)
  obtain ⟨x4, x5⟩ := s
  replace hs : (x2 ≤ x5 ∧ x5 ≤ x2 + x3) ∧ (0 ≤ x4) ∧ (x5 = x2 ∧ x4 = 0 ∨ x5 = x2 + 1 ∧ x4 ≤ 9 ∨ x5 = x2 + 2 ∧ x4 ≤ 99 ∨ x5 = x2 + 3 ∧ x4 ≤ 999 ∨ x5 = x2 + 4 ∧ x4 ≤ 9999) := hs
  obtain ⟨w0, w1, w2⟩ := hs
  show T (l_X7_numberAt_6 o x1 x2 x3 x4 x5) _
  unfold l_X7_numberAt_6
  refine T_qLt ⟨by omega, by omega⟩ ⟨by omega, by omega⟩ (fun h1 => ?_) (fun h1 => ?_)
  ·
    refine T_qB (t_X8_at__4 o x1 x5 hB_o (by omega)) (fun r1 hc_r1 hp2 => ?_)
    replace hp2 : (r1 = o.1 6 (x1 * 40 + x5).toNat) ∧ (inR r1) := hp2
    have hps_hp2 := hp2
    obtain ⟨hp2_0, hp2_1⟩ := hps_hp2
    replace hp2 := hid hp2
    have hq1 := k4 x5 (by omega) (by omega)
    refine T_qNm (fun n3 e_n3 => ?_)
    refine T_some ?_
    show ((x2 ≤ (x5 + 1) ∧ (x5 + 1) ≤ x2 + x3) ∧ (0 ≤ n3) ∧ ((x5 + 1) = x2 ∧ n3 = 0 ∨ (x5 + 1) = x2 + 1 ∧ n3 ≤ 9 ∨ (x5 + 1) = x2 + 2 ∧ n3 ≤ 99 ∨ (x5 + 1) = x2 + 3 ∧ n3 ≤ 999 ∨ (x5 + 1) = x2 + 4 ∧ n3 ≤ 9999)) ∧ (x2 + x3 - (x5 + 1)).toNat < (x2 + x3 - x5).toNat
    exact ⟨⟨(by omega), (by omega), (by omega)⟩, by omega⟩
  ·
    refine T_some ?_
    show (0 ≤ x4 ∧ x4 ≤ 9999)
    exact (by omega)
set_option maxRecDepth 20000 in
set_option maxHeartbeats 4000000 in
theorem t_X7_numberAt (o : OO) (x1 : Int) (x2 : Int) (x3 : Int) (hB_o : BoxC o) (k0 : 0 ≤ x1 ∧ x1 ≤ 5) (k1 : 0 ≤ x2 ∧ x2 ≤ 100) (k2 : 0 ≤ x3 ∧ x3 ≤ 4) (k3 : x3 = 0 ∨ x2 + x3 ≤ 40) (k4 : ∀ k : Int, x2 ≤ k → k < x2 + x3 → 48 ≤ o.1 6 (x1 * 40 + k).toNat ∧ o.1 6 (x1 * 40 + k).toNat ≤ 57) : T (s_X7_numberAt o x1 x2 x3) (fun v => (0 ≤ v ∧ v ≤ 9999)) := by
  unfold s_X7_numberAt
  unfold e_X7_numberAt_6
  refine T_qB (tl_X7_numberAt_6 o x1 x2 x3 0 x2 hB_o (by omega) (by omega) (by omega) (by omega) (by omega) (by omega) (by omega) (by omega)) (fun r3 hc_r3 hp4 => ?_)
  obtain ⟨x4_5, q_x4_5⟩ : ∃ q, q = r3 := ⟨_, rfl⟩
  subst q_x4_5
  replace hp4 : (0 ≤ x4_5 ∧ x4_5 ≤ 9999) := hp4
  show T (b_X7_numberAt_38 o x4_5) _
  unfold b_X7_numberAt_38
  refine T_some ?_
  show (0 ≤ x4_5 ∧ x4_5 ≤ 9999)
  exact (by omega)
set_option maxRecDepth 20000 in
set_option maxHeartbeats 4000000 in
theorem tl_X7_add_56 (x2 : Int) (x5 : Int) (i_o : OO) (i_x6 : Int) (hB_i_o : BoxC i_o) (k0 : 0 ≤ x2 ∧ x2 ≤ 3) (k1 : 0 ≤ x5 ∧ x5 ≤ 15) (v0 : 0 ≤ i_x6 ∧ i_x6 ≤ 40) : T (loopW (fun s => l_X7_add_56 x2 x5 s.1 s.2) (i_o, i_x6)) (fun r => BoxC r ∧ (Fr [(31, 9999)] i_o r)) := by
  have fr_i_o : Fr [(31, 9999)] i_o i_o := Fr.rf
  refine T_loop (fun s => BoxC s.1 ∧ (Fr [(31, 9999)] i_o s.1) ∧ (0 ≤ s.2 ∧ s.2 ≤ 40)) (fun s => (40 - s.2).toNat) (by exact ⟨hB_i_o, fr_i_o, v0⟩) (fun s hs => ?_)
  obtain ⟨o, x6⟩ := s
  replace hs : BoxC o ∧ (Fr [(31, 9999)] i_o o) ∧ (0 ≤ x6 ∧ x6 ≤ 40) := hs
  obtain ⟨hB_o, fr_o, w0⟩ := hs
  have g28_3_i := bC_28_3 hB_i_o
  have g28_3_o : o.1 28 3 = i_o.1 28 3 := fr_o.1 28 3 rfl
  show T (l_X7_add_56 x2 x5 o x6) _
  unfold l_X7_add_56
  refine T_qB (t_X8_sizeOf__4 o x2 hB_o (by omega)) (fun r1 hc_r1 hp1 => ?_)
  replace hp1 : (r1 = o.1 5 x2.toNat) ∧ (-1 ≤ r1 ∧ r1 ≤ 40) := hp1
  have hps_hp1 := hp1
  obtain ⟨hp1_0, hp1_1⟩ := hps_hp1
  replace hp1 := hid hp1
  refine T_qLt ⟨by omega, by omega⟩ ⟨by omega, by omega⟩ (fun h2 => ?_) (fun h2 => ?_)
  ·
    refine T_qB (t_X8_at__4 o x2 x6 hB_o (by omega)) (fun r3 hc_r3 hp3 => ?_)
    replace hp3 : (r3 = o.1 6 (x2 * 40 + x6).toNat) ∧ (inR r3) := hp3
    have hps_hp3 := hp3
    obtain ⟨hp3_0, hp3_1⟩ := hps_hp3
    replace hp3 := hid hp3
    refine T_qB (t_X7_letterOf r3 (by omega)) (fun r5 hc_r5 hp4 => ?_)
    replace hp4 : (-9 ≤ r5 ∧ r5 ≤ 7) ∧ (r5 = -9 ∨ 0 ≤ r5) := hp4
    have hps_hp4 := hp4
    obtain ⟨hp4_0, hp4_1⟩ := hps_hp4
    replace hp4 := hid hp4
    refine T_qEq ⟨by omega, by omega⟩ ⟨by decide, by decide⟩ (fun h5 => ?_) (fun h5 => ?_)
    ·
      unfold b_X7_add_119
      refine T_some ?_
      show (BoxC o ∧ (Fr [(31, 9999)] i_o o) ∧ (0 ≤ (x6 + 1) ∧ (x6 + 1) ≤ 40)) ∧ (40 - (x6 + 1)).toNat < (40 - x6).toNat
      exact ⟨⟨hB_o, fr_o, (by omega)⟩, by omega⟩
    ·
      refine T_qB (t_X7_digitsAt o x2 (x6 + 1) hB_o (by omega) (by omega)) (fun r7 hc_r7 hp6 => ?_)
      replace hp6 : (0 ≤ r7 ∧ r7 ≤ 4) ∧ (r7 = 0 ∨ (x6 + 1) + r7 ≤ o.1 5 x2.toNat) ∧ (∀ k : Int, (x6 + 1) ≤ k → k < (x6 + 1) + r7 → 48 ≤ o.1 6 (x2 * 40 + k).toNat ∧ o.1 6 (x2 * 40 + k).toNat ≤ 57) := hp6
      have hps_hp6 := hp6
      obtain ⟨hp6_0, hp6_1, hp6_2⟩ := hps_hp6
      replace hp6 := hid hp6
      refine T_qB (t_X7_numberAt o x2 (x6 + 1) r7 hB_o (by omega) (by omega) (by omega) (by omega) (by omega)) (fun r9 hc_r9 hp7 => ?_)
      replace hp7 : (0 ≤ r9 ∧ r9 ≤ 9999) := hp7
      refine T_qIn ⟨by omega, by omega⟩ ?_
      refine T_qNm (fun o12 e_o12 => ?_)
      have hB_o12 : BoxC o12 := by rw [e_o12]; exact Box.s1 hB_o (show -1 ≤ r9 ∧ r9 ≤ 9999 from ⟨by omega, by omega⟩)
      have fr_o12 : Fr [(31, 9999)] i_o o12 := by rw [e_o12]; exact Fr.s1 fr_o rfl
      have g28_3_o12 : o12.1 28 3 = o.1 28 3 := by rw [e_o12]; rfl
      unfold b_X7_add_119
      refine T_some ?_
      show (BoxC o12 ∧ (Fr [(31, 9999)] i_o o12) ∧ (0 ≤ (x6 + 1) ∧ (x6 + 1) ≤ 40)) ∧ (40 - (x6 + 1)).toNat < (40 - x6).toNat
      exact ⟨⟨hB_o12, fr_o12, (by omega)⟩, by omega⟩
  ·
    refine T_some ?_
    show BoxC o ∧ (Fr [(31, 9999)] i_o o)
    exact ⟨hB_o, fr_o⟩
set_option maxRecDepth 20000 in
set_option maxHeartbeats 4000000 in
theorem t_X7_add (o : OO) (x2 : Int) (x3 : Int) (x4 : Int) (hB_o : BoxC o) (k0 : 0 ≤ x2 ∧ x2 ≤ 3) (k1 : 0 ≤ x3 ∧ x3 ≤ 999) (k2 : 0 ≤ x4 ∧ x4 ≤ 999) (k3 : o.1 28 3 ≤ 15) : T (s_X7_add o x2 x3 x4) (fun v => BoxC v.2 ∧ (Fr [(28, 3), (29, 9999), (30, 9999), (31, 9999)] o v.2) ∧ (v.1 = o.1 28 3)) := by
  have fr_o : Fr [(28, 3), (29, 9999), (30, 9999), (31, 9999)] o o := Fr.rf
  have g28_3_o := bC_28_3 hB_o
  unfold s_X7_add
  refine T_qNm (fun o13 e_o13 => ?_)
  have hB_o13 : BoxC o13 := by rw [e_o13]; exact Box.s1 hB_o (show 0 ≤ ((o.1 28 3) + 1) ∧ ((o.1 28 3) + 1) ≤ 16 from ⟨by omega, by omega⟩)
  have fr_o13 : Fr [(28, 3), (29, 9999), (30, 9999), (31, 9999)] o o13 := by rw [e_o13]; exact Fr.s1 fr_o rfl
  have g28_3_o13 : o13.1 28 3 = ((o.1 28 3) + 1) := by rw [e_o13]; rfl
  refine T_qIn ⟨by omega, by omega⟩ ?_
  refine T_qNm (fun o15 e_o15 => ?_)
  have hB_o15 : BoxC o15 := by rw [e_o15]; exact Box.s1 hB_o13 (show 0 ≤ x3 ∧ x3 ≤ 999 from ⟨by omega, by omega⟩)
  have fr_o15 : Fr [(28, 3), (29, 9999), (30, 9999), (31, 9999)] o o15 := by rw [e_o15]; exact Fr.s1 fr_o13 rfl
  have g28_3_o15 : o15.1 28 3 = o13.1 28 3 := by rw [e_o15]; rfl
  refine T_qIn ⟨by omega, by omega⟩ ?_
  refine T_qNm (fun o17 e_o17 => ?_)
  have hB_o17 : BoxC o17 := by rw [e_o17]; exact Box.s1 hB_o15 (show 0 ≤ x4 ∧ x4 ≤ 999 from ⟨by omega, by omega⟩)
  have fr_o17 : Fr [(28, 3), (29, 9999), (30, 9999), (31, 9999)] o o17 := by rw [e_o17]; exact Fr.s1 fr_o15 rfl
  have g28_3_o17 : o17.1 28 3 = o15.1 28 3 := by rw [e_o17]; rfl
  refine T_qB (t_J7_fill_fda19__31 o17 ((o.1 28 3) * 8) (((o.1 28 3) + 1) * 8) (-1) hB_o17 (by omega) (by omega) (by omega)) (fun o20 hc_o20 hp8 => ?_)
  replace hp8 : BoxC o20 ∧ (Fr [(31, 9999)] o17 o20) := hp8
  obtain ⟨hB_o20, fc_o20⟩ := hp8
  have fr_o20 : Fr [(28, 3), (29, 9999), (30, 9999), (31, 9999)] o o20 := Fr.tr fr_o17 fc_o20 rfl
  have g28_3_o20 : o20.1 28 3 = o17.1 28 3 := fc_o20.1 28 3 rfl
  unfold e_X7_add_56
  refine T_qB (tl_X7_add_56 x2 (o.1 28 3) o20 0 hB_o20 (by omega) (by omega) (by omega)) (fun r9 hc_r9 hp10 => ?_)
  obtain ⟨o_11, q_o_11⟩ : ∃ q, q = r9 := ⟨_, rfl⟩
  subst q_o_11
  replace hp10 : BoxC o_11 ∧ (Fr [(31, 9999)] o20 o_11) := hp10
  have hps_hp10 := hp10
  obtain ⟨hp10_0, hp10_1⟩ := hps_hp10
  obtain ⟨hB_o_11, fc_o_11⟩ := hp10
  have fr_o_11 : Fr [(28, 3), (29, 9999), (30, 9999), (31, 9999)] o o_11 := Fr.tr fr_o20 fc_o_11 rfl
  have g28_3_o_11 : o_11.1 28 3 = o20.1 28 3 := fc_o_11.1 28 3 rfl
  show T (b_X7_add_125 o_11 (o.1 28 3)) _
  unfold b_X7_add_125
  refine T_some ?_
  show BoxC o_11 ∧ (Fr [(28, 3), (29, 9999), (30, 9999), (31, 9999)] o o_11) ∧ ((o.1 28 3) = o.1 28 3)
  exact ⟨hB_o_11, fr_o_11, (by omega)⟩
set_option maxRecDepth 20000 in
set_option maxHeartbeats 4000000 in
theorem t_X11_rule (o : OO) (x1 : Int) (x2 : Int) (hB_o : BoxC o) (k0 : inR x1) (k1 : inR x2) : T (s_X11_rule o x1 x2) (fun v => BoxC v.2 ∧ (Fr [(0, 17), (28, 3), (29, 9999), (30, 9999), (31, 9999), (77, 9999)] o v.2)) := by
  have fr_o : Fr [(0, 17), (28, 3), (29, 9999), (30, 9999), (31, 9999), (77, 9999)] o o := Fr.rf
  have g0_13_o := bC_0_13 hB_o
  have g28_3_o := bC_28_3 hB_o
  unfold s_X11_rule
  refine T_qB (t_X8_exists__4 o x1 hB_o (by omega)) (fun r1 hc_r1 hp1 => ?_)
  replace hp1 : ((r1 = 1 ∧ (0 ≤ x1 ∧ x1 < 4)) ∨ (r1 = 0 ∧ ¬ (0 ≤ x1 ∧ x1 < 4))) := hp1
  refine T_qEq ⟨by omega, by omega⟩ ⟨by decide, by decide⟩ (fun h2 => ?_) (fun h2 => ?_)
  ·
    unfold b_X11_rule_18
    refine T_some ?_
    show BoxC o ∧ (Fr [(0, 17), (28, 3), (29, 9999), (30, 9999), (31, 9999), (77, 9999)] o o)
    exact ⟨hB_o, fr_o⟩
  ·
    refine T_qB (t_X11_isDay x2 (by omega)) (fun r3 hc_r3 hp3 => ?_)
    replace hp3 : ((r3 = 1 ∧ (0 ≤ x2 ∧ x2 ≤ 999)) ∨ (r3 = 0 ∧ ¬ (0 ≤ x2 ∧ x2 ≤ 999))) := hp3
    refine T_qEq ⟨by omega, by omega⟩ ⟨by decide, by decide⟩ (fun h4 => ?_) (fun h4 => ?_)
    ·
      unfold b_X11_rule_18
      refine T_some ?_
      show BoxC o ∧ (Fr [(0, 17), (28, 3), (29, 9999), (30, 9999), (31, 9999), (77, 9999)] o o)
      exact ⟨hB_o, fr_o⟩
    ·
      refine T_qB (t_X7_number o hB_o) (fun r5 hc_r5 hp5 => ?_)
      replace hp5 : (r5 = o.1 28 3) := hp5
      refine T_qLt ⟨by omega, by omega⟩ ⟨by decide, by decide⟩ (fun h6 => ?_) (fun h6 => ?_)
      ·
        refine T_qB (t_X8_isThere__4 o x1 hB_o (by omega)) (fun r7 hc_r7 hp7 => ?_)
        replace hp7 : ((r7 = 1 ∧ (¬ o.1 5 x1.toNat = -1)) ∨ (r7 = 0 ∧ ¬ (¬ o.1 5 x1.toNat = -1))) := hp7
        refine T_qEq ⟨by omega, by omega⟩ ⟨by decide, by decide⟩ (fun h8 => ?_) (fun h8 => ?_)
        ·
          refine T_qB2 (t_X11_found o 1 hB_o (by omega)) (fun r14 o16 hc_r14 hp9 => ?_)
          replace hp9 : BoxC o16 ∧ (Fr [(0, 17), (77, 9999)] o o16) ∧ (r14 = -3) := hp9
          obtain ⟨hB_o16, fc_o16, hp9⟩ := hp9
          have fr_o16 : Fr [(0, 17), (28, 3), (29, 9999), (30, 9999), (31, 9999), (77, 9999)] o o16 := Fr.tr fr_o fc_o16 rfl
          have g0_13_o16 : o16.1 0 13 = o.1 0 13 := fc_o16.1 0 13 rfl
          have g28_3_o16 : o16.1 28 3 = o.1 28 3 := fc_o16.1 28 3 rfl
          refine T_some ?_
          show BoxC o16 ∧ (Fr [(0, 17), (28, 3), (29, 9999), (30, 9999), (31, 9999), (77, 9999)] o o16)
          exact ⟨hB_o16, fr_o16⟩
        ·
          refine T_qB (t_X7_firstFault o x1 hB_o (by omega)) (fun r9 hc_r9 hp10 => ?_)
          replace hp10 : (-9 ≤ r9 ∧ r9 ≤ 41) := hp10
          refine T_qEq ⟨by omega, by omega⟩ ⟨by decide, by decide⟩ (fun h11 => ?_) (fun h11 => ?_)
          ·
            refine T_qB2 (t_X7_add o x1 (o.1 0 13) x2 hB_o (by omega) (by omega) (by omega) (by omega)) (fun r11 o13 hc_r11 hp12 => ?_)
            replace hp12 : BoxC o13 ∧ (Fr [(28, 3), (29, 9999), (30, 9999), (31, 9999)] o o13) ∧ (r11 = o.1 28 3) := hp12
            obtain ⟨hB_o13, fc_o13, hp12⟩ := hp12
            have fr_o13 : Fr [(0, 17), (28, 3), (29, 9999), (30, 9999), (31, 9999), (77, 9999)] o o13 := Fr.tr fr_o fc_o13 rfl
            have g0_13_o13 : o13.1 0 13 = o.1 0 13 := fc_o13.1 0 13 rfl
            have g28_3_o13 := bC_28_3 hB_o13
            refine T_some ?_
            show BoxC o13 ∧ (Fr [(0, 17), (28, 3), (29, 9999), (30, 9999), (31, 9999), (77, 9999)] o o13)
            exact ⟨hB_o13, fr_o13⟩
          ·
            refine T_some ?_
            show BoxC o ∧ (Fr [(0, 17), (28, 3), (29, 9999), (30, 9999), (31, 9999), (77, 9999)] o o)
            exact ⟨hB_o, fr_o⟩
      ·
        refine T_some ?_
        show BoxC o ∧ (Fr [(0, 17), (28, 3), (29, 9999), (30, 9999), (31, 9999), (77, 9999)] o o)
        exact ⟨hB_o, fr_o⟩
