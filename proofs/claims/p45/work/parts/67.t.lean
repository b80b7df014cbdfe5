set_option maxRecDepth 20000 in
set_option maxHeartbeats 4000000 in
theorem tl_X12_mean_18 (o : OO) (x1 : Int) (i_x2 : Int) (i_x3 : Int) (i_x4 : Int) (hB_o : BoxM o) (k0 : inR x1) (v0 : 0 ≤ i_x2 ∧ i_x2 ≤ i_x4) (v1 : 0 ≤ i_x4 ∧ i_x4 ≤ o.1 0 17) (v2 : -9 * i_x4 ≤ i_x3 ∧ i_x3 ≤ 100000 * i_x4) : T (loopW (fun s => l_X12_mean_18 o x1 s.1 s.2.1 s.2.2) (i_x2, i_x3, i_x4)) (fun r => (0 ≤ r.1 ∧ r.1 ≤ o.1 0 17) ∧ (-300 ≤ r.2 ∧ r.2 ≤ 3200000)) := by
  refine T_loop (fun s => (0 ≤ s.1 ∧ s.1 ≤ s.2.2) ∧ (0 ≤ s.2.2 ∧ s.2.2 ≤ o.1 0 17) ∧ (-9 * s.2.2 ≤ s.2.1 ∧ s.2.1 ≤ 100000 * s.2.2)) (fun s => (o.1 0 17 - s.2.2).toNat) (by exact ⟨v0, v1, v2⟩) (fun s hs => ?_)
  obtain ⟨x2, x3, x4⟩ := s
  replace hs : (0 ≤ x2 ∧ x2 ≤ x4) ∧ (0 ≤ x4 ∧ x4 ≤ o.1 0 17) ∧ (-9 * x4 ≤ x3 ∧ x3 ≤ 100000 * x4) := hs
  obtain ⟨w0, w1, w2⟩ := hs
  have g0_4_o := bM_0_4 hB_o
  have g0_17_o := bM_0_17 hB_o
  show T (l_X12_mean_18 o x1 x2 x3 x4) _
  unfold l_X12_mean_18
  refine T_qLt ⟨by omega, by omega⟩ ⟨by omega, by omega⟩ (fun h1 => ?_) (fun h1 => ?_)
  ·
    refine T_qIn ⟨by omega, by omega⟩ ?_
    refine T_qNm (fun n13 e_n13 => ?_)
    have b_n13 : 0 ≤ n13 ∧ n13 ≤ 2 := by rw [e_n13]; exact bM_14 hB_o _
    refine T_qEq ⟨by omega, by omega⟩ ⟨by omega, by omega⟩ (fun h2 => ?_) (fun h2 => ?_)
    ·
      refine T_qIn ⟨by omega, by omega⟩ ?_
      refine T_qNm (fun n15 e_n15 => ?_)
      have b_n15 : 0 ≤ n15 ∧ n15 ≤ 1 := by rw [e_n15]; exact bM_16 hB_o _
      refine T_qEq ⟨by omega, by omega⟩ ⟨by decide, by decide⟩ (fun h3 => ?_) (fun h3 => ?_)
      ·
        unfold b_X12_mean_53
        refine T_qEq ⟨by decide, by decide⟩ ⟨by decide, by decide⟩ (fun h4 => ?_) (fun h4 => ?_)
        ·
          unfold b_X12_mean_66
          refine T_qNm (fun n9 e_n9 => ?_)
          refine T_qEq ⟨by decide, by decide⟩ ⟨by decide, by decide⟩ (fun h5 => ?_) (fun h5 => ?_)
          ·
            unfold b_X12_mean_88
            refine T_qNm (fun n8 e_n8 => ?_)
            refine T_some ?_
            show ((0 ≤ n9 ∧ n9 ≤ (x4 + 1)) ∧ (0 ≤ (x4 + 1) ∧ (x4 + 1) ≤ o.1 0 17) ∧ (-9 * (x4 + 1) ≤ n8 ∧ n8 ≤ 100000 * (x4 + 1))) ∧ (o.1 0 17 - (x4 + 1)).toNat < (o.1 0 17 - x4).toNat
            exact ⟨⟨(by omega), (by omega), (by omega)⟩, by omega⟩
          ·
            refine T_qB (t_X12_valueOf o x4 (o.1 0 4) hB_o (by omega) (by omega)) (fun r10 hc_r10 hp6 => ?_)
            replace hp6 : (-9 ≤ r10 ∧ r10 ≤ 100000) ∧ (r10 = -9 ∨ 0 ≤ r10) := hp6
            have hps_hp6 := hp6
            obtain ⟨hp6_0, hp6_1⟩ := hps_hp6
            replace hp6 := hid hp6
            unfold b_X12_mean_88
            refine T_qNm (fun n8 e_n8 => ?_)
            refine T_some ?_
            show ((0 ≤ n9 ∧ n9 ≤ (x4 + 1)) ∧ (0 ≤ (x4 + 1) ∧ (x4 + 1) ≤ o.1 0 17) ∧ (-9 * (x4 + 1) ≤ n8 ∧ n8 ≤ 100000 * (x4 + 1))) ∧ (o.1 0 17 - (x4 + 1)).toNat < (o.1 0 17 - x4).toNat
            exact ⟨⟨(by omega), (by omega), (by omega)⟩, by omega⟩
        ·
          unfold b_X12_mean_66
          refine T_qNm (fun n9 e_n9 => ?_)
          refine T_qEq ⟨by decide, by decide⟩ ⟨by decide, by decide⟩ (fun h7 => ?_) (fun h7 => ?_)
          ·
            unfold b_X12_mean_88
            refine T_qNm (fun n8 e_n8 => ?_)
            refine T_some ?_
            show ((0 ≤ n9 ∧ n9 ≤ (x4 + 1)) ∧ (0 ≤ (x4 + 1) ∧ (x4 + 1) ≤ o.1 0 17) ∧ (-9 * (x4 + 1) ≤ n8 ∧ n8 ≤ 100000 * (x4 + 1))) ∧ (o.1 0 17 - (x4 + 1)).toNat < (o.1 0 17 - x4).toNat
            exact ⟨⟨(by omega), (by omega), (by omega)⟩, by omega⟩
          ·
            refine T_qB (t_X12_valueOf o x4 (o.1 0 4) hB_o (by omega) (by omega)) (fun r10 hc_r10 hp8 => ?_)
            replace hp8 : (-9 ≤ r10 ∧ r10 ≤ 100000) ∧ (r10 = -9 ∨ 0 ≤ r10) := hp8
            have hps_hp8 := hp8
            obtain ⟨hp8_0, hp8_1⟩ := hps_hp8
            replace hp8 := hid hp8
            unfold b_X12_mean_88
            refine T_qNm (fun n8 e_n8 => ?_)
            refine T_some ?_
            show ((0 ≤ n9 ∧ n9 ≤ (x4 + 1)) ∧ (0 ≤ (x4 + 1) ∧ (x4 + 1) ≤ o.1 0 17) ∧ (-9 * (x4 + 1) ≤ n8 ∧ n8 ≤ 100000 * (x4 + 1))) ∧ (o.1 0 17 - (x4 + 1)).toNat < (o.1 0 17 - x4).toNat
            exact ⟨⟨(by omega), (by omega), (by omega)⟩, by omega⟩
      ·
        unfold b_X12_mean_52
        unfold b_X12_mean_53
        refine T_qEq ⟨by decide, by decide⟩ ⟨by decide, by decide⟩ (fun h9 => ?_) (fun h9 => ?_)
        ·
          unfold b_X12_mean_66
          refine T_qNm (fun n9 e_n9 => ?_)
          refine T_qEq ⟨by decide, by decide⟩ ⟨by decide, by decide⟩ (fun h10 => ?_) (fun h10 => ?_)
          ·
            unfold b_X12_mean_88
            refine T_qNm (fun n8 e_n8 => ?_)
            refine T_some ?_
            show ((0 ≤ n9 ∧ n9 ≤ (x4 + 1)) ∧ (0 ≤ (x4 + 1) ∧ (x4 + 1) ≤ o.1 0 17) ∧ (-9 * (x4 + 1) ≤ n8 ∧ n8 ≤ 100000 * (x4 + 1))) ∧ (o.1 0 17 - (x4 + 1)).toNat < (o.1 0 17 - x4).toNat
            exact ⟨⟨(by omega), (by omega), (by omega)⟩, by omega⟩
          ·
            refine T_qB (t_X12_valueOf o x4 (o.1 0 4) hB_o (by omega) (by omega)) (fun r10 hc_r10 hp11 => ?_)
            replace hp11 : (-9 ≤ r10 ∧ r10 ≤ 100000) ∧ (r10 = -9 ∨ 0 ≤ r10) := hp11
            have hps_hp11 := hp11
            obtain ⟨hp11_0, hp11_1⟩ := hps_hp11
            replace hp11 := hid hp11
            unfold b_X12_mean_88
            refine T_qNm (fun n8 e_n8 => ?_)
            refine T_some ?_
            show ((0 ≤ n9 ∧ n9 ≤ (x4 + 1)) ∧ (0 ≤ (x4 + 1) ∧ (x4 + 1) ≤ o.1 0 17) ∧ (-9 * (x4 + 1) ≤ n8 ∧ n8 ≤ 100000 * (x4 + 1))) ∧ (o.1 0 17 - (x4 + 1)).toNat < (o.1 0 17 - x4).toNat
            exact ⟨⟨(by omega), (by omega), (by omega)⟩, by omega⟩
        ·
          unfold b_X12_mean_66
          refine T_qNm (fun n9 e_n9 => ?_)
          refine T_qEq ⟨by decide, by decide⟩ ⟨by decide, by decide⟩ (fun h12 => ?_) (fun h12 => ?_)
          ·
            unfold b_X12_mean_88
            refine T_qNm (fun n8 e_n8 => ?_)
            refine T_some ?_
            show ((0 ≤ n9 ∧ n9 ≤ (x4 + 1)) ∧ (0 ≤ (x4 + 1) ∧ (x4 + 1) ≤ o.1 0 17) ∧ (-9 * (x4 + 1) ≤ n8 ∧ n8 ≤ 100000 * (x4 + 1))) ∧ (o.1 0 17 - (x4 + 1)).toNat < (o.1 0 17 - x4).toNat
            exact ⟨⟨(by omega), (by omega), (by omega)⟩, by omega⟩
          ·
            refine T_qB (t_X12_valueOf o x4 (o.1 0 4) hB_o (by omega) (by omega)) (fun r10 hc_r10 hp13 => ?_)
            replace hp13 : (-9 ≤ r10 ∧ r10 ≤ 100000) ∧ (r10 = -9 ∨ 0 ≤ r10) := hp13
            have hps_hp13 := hp13
            obtain ⟨hp13_0, hp13_1⟩ := hps_hp13
            replace hp13 := hid hp13
            unfold b_X12_mean_88
            refine T_qNm (fun n8 e_n8 => ?_)
            refine T_some ?_
            show ((0 ≤ n9 ∧ n9 ≤ (x4 + 1)) ∧ (0 ≤ (x4 + 1) ∧ (x4 + 1) ≤ o.1 0 17) ∧ (-9 * (x4 + 1) ≤ n8 ∧ n8 ≤ 100000 * (x4 + 1))) ∧ (o.1 0 17 - (x4 + 1)).toNat < (o.1 0 17 - x4).toNat
            exact ⟨⟨(by omega), (by omega), (by omega)⟩, by omega⟩
    ·
      unfold b_X12_mean_52
      unfold b_X12_mean_53
      refine T_qEq ⟨by decide, by decide⟩ ⟨by decide, by decide⟩ (fun h14 => ?_) (fun h14 => ?_)
      ·
        unfold b_X12_mean_66
        refine T_qNm (fun n9 e_n9 => ?_)
        refine T_qEq ⟨by decide, by decide⟩ ⟨by decide, by decide⟩ (fun h15 => ?_) (fun h15 => ?_)
        ·
          unfold b_X12_mean_88
          refine T_qNm (fun n8 e_n8 => ?_)
          refine T_some ?_
          show ((0 ≤ n9 ∧ n9 ≤ (x4 + 1)) ∧ (0 ≤ (x4 + 1) ∧ (x4 + 1) ≤ o.1 0 17) ∧ (-9 * (x4 + 1) ≤ n8 ∧ n8 ≤ 100000 * (x4 + 1))) ∧ (o.1 0 17 - (x4 + 1)).toNat < (o.1 0 17 - x4).toNat
          exact ⟨⟨(by omega), (by omega), (by omega)⟩, by omega⟩
        ·
          refine T_qB (t_X12_valueOf o x4 (o.1 0 4) hB_o (by omega) (by omega)) (fun r10 hc_r10 hp16 => ?_)
          replace hp16 : (-9 ≤ r10 ∧ r10 ≤ 100000) ∧ (r10 = -9 ∨ 0 ≤ r10) := hp16
          have hps_hp16 := hp16
          obtain ⟨hp16_0, hp16_1⟩ := hps_hp16
          replace hp16 := hid hp16
          unfold b_X12_mean_88
          refine T_qNm (fun n8 e_n8 => ?_)
          refine T_some ?_
          show ((0 ≤ n9 ∧ n9 ≤ (x4 + 1)) ∧ (0 ≤ (x4 + 1) ∧ (x4 + 1) ≤ o.1 0 17) ∧ (-9 * (x4 + 1) ≤ n8 ∧ n8 ≤ 100000 * (x4 + 1))) ∧ (o.1 0 17 - (x4 + 1)).toNat < (o.1 0 17 - x4).toNat
          exact ⟨⟨(by omega), (by omega), (by omega)⟩, by omega⟩
      ·
        unfold b_X12_mean_66
        refine T_qNm (fun n9 e_n9 => ?_)
        refine T_qEq ⟨by decide, by decide⟩ ⟨by decide, by decide⟩ (fun h17 => ?_) (fun h17 => ?_)
        ·
          unfold b_X12_mean_88
          refine T_qNm (fun n8 e_n8 => ?_)
          refine T_some ?_
          show ((0 ≤ n9 ∧ n9 ≤ (x4 + 1)) ∧ (0 ≤ (x4 + 1) ∧ (x4 + 1) ≤ o.1 0 17) ∧ (-9 * (x4 + 1) ≤ n8 ∧ n8 ≤ 100000 * (x4 + 1))) ∧ (o.1 0 17 - (x4 + 1)).toNat < (o.1 0 17 - x4).toNat
          exact ⟨⟨(by omega), (by omega), (by omega)⟩, by omega⟩
        ·
          refine T_qB (t_X12_valueOf o x4 (o.1 0 4) hB_o (by omega) (by omega)) (fun r10 hc_r10 hp18 => ?_)
          replace hp18 : (-9 ≤ r10 ∧ r10 ≤ 100000) ∧ (r10 = -9 ∨ 0 ≤ r10) := hp18
          have hps_hp18 := hp18
          obtain ⟨hp18_0, hp18_1⟩ := hps_hp18
          replace hp18 := hid hp18
          unfold b_X12_mean_88
          refine T_qNm (fun n8 e_n8 => ?_)
          refine T_some ?_
          show ((0 ≤ n9 ∧ n9 ≤ (x4 + 1)) ∧ (0 ≤ (x4 + 1) ∧ (x4 + 1) ≤ o.1 0 17) ∧ (-9 * (x4 + 1) ≤ n8 ∧ n8 ≤ 100000 * (x4 + 1))) ∧ (o.1 0 17 - (x4 + 1)).toNat < (o.1 0 17 - x4).toNat
          exact ⟨⟨(by omega), (by omega), (by omega)⟩, by omega⟩
  ·
    refine T_some ?_
    show (0 ≤ x2 ∧ x2 ≤ o.1 0 17) ∧ (-300 ≤ x3 ∧ x3 ≤ 3200000)
    exact ⟨(by omega), (by omega)⟩
set_option maxRecDepth 20000 in
set_option maxHeartbeats 4000000 in
theorem t_X12_mean (o : OO) (x1 : Int) (hB_o : BoxM o) (k0 : inR x1) : T (s_X12_mean o x1) (fun v => BoxM v.2 ∧ (Fr [(0, 0), (0, 2), (1, 9999)] o v.2)) := by
  have fr_o : Fr [(0, 0), (0, 2), (1, 9999)] o o := Fr.rf
  have g0_4_o := bM_0_4 hB_o
  have g0_17_o := bM_0_17 hB_o
  unfold s_X12_mean
  refine T_qB (t_X12_in x1 0 2 (by omega) (by omega) (by omega)) (fun r16 hc_r16 hp19 => ?_)
  replace hp19 : ((r16 = 1 ∧ 0 ≤ x1 ∧ x1 ≤ 2) ∨ (r16 = 0 ∧ (x1 < 0 ∨ 2 < x1))) := hp19
  refine T_qEq ⟨by omega, by omega⟩ ⟨by decide, by decide⟩ (fun h20 => ?_) (fun h20 => ?_)
  ·
    refine T_some ?_
    show BoxM o ∧ (Fr [(0, 0), (0, 2), (1, 9999)] o o)
    exact ⟨hB_o, fr_o⟩
  ·
    unfold e_X12_mean_18
    refine T_qB (tl_X12_mean_18 o x1 0 0 0 hB_o (by omega) (by omega) (by omega) (by omega)) (fun r21 hc_r21 hp22 => ?_)
    obtain ⟨x2_23, x3_24⟩ := r21
    replace hp22 : (0 ≤ x2_23 ∧ x2_23 ≤ o.1 0 17) ∧ (-300 ≤ x3_24 ∧ x3_24 ≤ 3200000) := hp22
    have hps_hp22 := hp22
    obtain ⟨hp22_0, hp22_1⟩ := hps_hp22
    replace hp22 := hid hp22
    show T (b_X12_mean_96 o x2_23 x3_24) _
    unfold b_X12_mean_96
    refine T_qEq ⟨by omega, by omega⟩ ⟨by decide, by decide⟩ (fun h25 => ?_) (fun h25 => ?_)
    ·
      refine T_qB2 (t_X12_meets o 4 hB_o (by omega)) (fun r5 o7 hc_r5 hp26 => ?_)
      replace hp26 : BoxM o7 ∧ (Fr [(0, 0), (1, 9999)] o o7) ∧ (r5 = -3) := hp26
      obtain ⟨hB_o7, fc_o7, hp26⟩ := hp26
      have fr_o7 : Fr [(0, 0), (0, 2), (1, 9999)] o o7 := Fr.tr fr_o fc_o7 rfl
      have g0_4_o7 : o7.1 0 4 = o.1 0 4 := fc_o7.1 0 4 rfl
      have g0_17_o7 : o7.1 0 17 = o.1 0 17 := fc_o7.1 0 17 rfl
      unfold b_X12_mean_116
      refine T_some ?_
      show BoxM o7 ∧ (Fr [(0, 0), (0, 2), (1, 9999)] o o7)
      exact ⟨hB_o7, fr_o7⟩
    ·
      refine T_qDv ⟨⟨by omega, by omega⟩, ⟨by omega, by omega⟩, by omega⟩ ?_
      have jd27 := jq_abs (a := x3_24) (b := x2_23) (by omega)
      refine T_qB2 (t_X12_ask o (jq x3_24 x2_23) 1 hB_o) (fun r2 o4 hc_r2 hp28 => ?_)
      replace hp28 : BoxM o4 ∧ (Fr [(0, 2)] o o4) ∧ (r2 = 1) := hp28
      obtain ⟨hB_o4, fc_o4, hp28⟩ := hp28
      have fr_o4 : Fr [(0, 0), (0, 2), (1, 9999)] o o4 := Fr.tr fr_o fc_o4 rfl
      have g0_4_o4 : o4.1 0 4 = o.1 0 4 := fc_o4.1 0 4 rfl
      have g0_17_o4 : o4.1 0 17 = o.1 0 17 := fc_o4.1 0 17 rfl
      unfold b_X12_mean_116
      refine T_some ?_
      show BoxM o4 ∧ (Fr [(0, 0), (0, 2), (1, 9999)] o o4)
      exact ⟨hB_o4, fr_o4⟩
set_option maxRecDepth 20000 in
set_option maxHeartbeats 4000000 in
theorem t_X12_hasRoom (o : OO) (x1 : Int) (hB_o : BoxM o) (k0 : 0 ≤ x1 ∧ x1 ≤ 31) : T (s_X12_hasRoom o x1) (fun v => (0 ≤ v ∧ v ≤ 1)) := by
  unfold s_X12_hasRoom
  refine T_qIn ⟨by omega, by omega⟩ ?_
  refine T_qNm (fun n2 e_n2 => ?_)
  have b_n2 : 0 ≤ n2 ∧ n2 ≤ 2 := by rw [e_n2]; exact bM_14 hB_o _
  refine T_qEq ⟨by omega, by omega⟩ ⟨by decide, by decide⟩ (fun h1 => ?_) (fun h1 => ?_)
  ·
    refine T_qIn ⟨by omega, by omega⟩ ?_
    refine T_qNm (fun n4 e_n4 => ?_)
    have b_n4 : 0 ≤ n4 ∧ n4 ≤ 1 := by rw [e_n4]; exact bM_16 hB_o _
    refine T_qEq ⟨by omega, by omega⟩ ⟨by decide, by decide⟩ (fun h2 => ?_) (fun h2 => ?_)
    ·
      refine T_qB (t_X12_living o x1 hB_o (by omega)) (fun r5 hc_r5 hp3 => ?_)
      replace hp3 : (0 ≤ r5 ∧ r5 ≤ 40) := hp3
      refine T_qIn ⟨by omega, by omega⟩ ?_
      refine T_qNm (fun n8 e_n8 => ?_)
      have b_n8 : 0 ≤ n8 ∧ n8 ≤ 20 := by rw [e_n8]; exact bM_15 hB_o _
      refine T_qLt ⟨by omega, by omega⟩ ⟨by omega, by omega⟩ (fun h4 => ?_) (fun h4 => ?_)
      ·
        unfold b_X12_hasRoom_37
        refine T_qZ (Or.inr rfl) ?_
        refine T_some ?_
        show (0 ≤ 1 ∧ 1 ≤ 1)
        exact (by omega)
      ·
        unfold b_X12_hasRoom_36
        unfold b_X12_hasRoom_37
        refine T_qZ (Or.inl rfl) ?_
        refine T_some ?_
        show (0 ≤ 0 ∧ 0 ≤ 1)
        exact (by omega)
    ·
      unfold b_X12_hasRoom_36
      unfold b_X12_hasRoom_37
      refine T_qZ (Or.inl rfl) ?_
      refine T_some ?_
      show (0 ≤ 0 ∧ 0 ≤ 1)
      exact (by omega)
  ·
    unfold b_X12_hasRoom_36
    unfold b_X12_hasRoom_37
    refine T_qZ (Or.inl rfl) ?_
    refine T_some ?_
    show (0 ≤ 0 ∧ 0 ≤ 1)
    exact (by omega)
set_option maxRecDepth 20000 in
set_option maxHeartbeats 4000000 in
theorem t_X12_moved (o : OO) (x1 : Int) (x2 : Int) (x3 : Int) (hB_o : BoxM o) (k0 : inR x1) (k1 : inR x2) (k2 : inR x3) : T (s_X12_moved o x1 x2 x3) (fun v => BoxM v.2 ∧ (Fr [(0, 0), (0, 2), (0, 32), (1, 9999), (21, 9999), (25, 9999), (26, 9999), (27, 9999), (29, 9999), (30, 9999), (32, 9999), (33, 9999)] o v.2)) := by
  have fr_o : Fr [(0, 0), (0, 2), (0, 32), (1, 9999), (21, 9999), (25, 9999), (26, 9999), (27, 9999), (29, 9999), (30, 9999), (32, 9999), (33, 9999)] o o := Fr.rf
  have g0_32_o := bM_0_32 hB_o
  have g0_27_o := bM_0_27 hB_o
  have g0_17_o := bM_0_17 hB_o
  unfold s_X12_moved
  refine T_qB (t_X12_isMark o x1 hB_o (by omega)) (fun r1 hc_r1 hp1 => ?_)
  replace hp1 : ((r1 = 1 ∧ 0 ≤ x1 ∧ x1 < o.1 0 32) ∨ (r1 = 0 ∧ (x1 < 0 ∨ o.1 0 32 ≤ x1))) := hp1
  refine T_qEq ⟨by omega, by omega⟩ ⟨by decide, by decide⟩ (fun h2 => ?_) (fun h2 => ?_)
  ·
    unfold b_X12_moved_24
    refine T_some ?_
    show BoxM o ∧ (Fr [(0, 0), (0, 2), (0, 32), (1, 9999), (21, 9999), (25, 9999), (26, 9999), (27, 9999), (29, 9999), (30, 9999), (32, 9999), (33, 9999)] o o)
    exact ⟨hB_o, fr_o⟩
  ·
    refine T_qB (t_X12_isPerson o x2 hB_o (by omega)) (fun r3 hc_r3 hp3 => ?_)
    replace hp3 : ((r3 = 1 ∧ 0 ≤ x2 ∧ x2 < o.1 0 27) ∨ (r3 = 0 ∧ (x2 < 0 ∨ o.1 0 27 ≤ x2))) := hp3
    refine T_qEq ⟨by omega, by omega⟩ ⟨by decide, by decide⟩ (fun h4 => ?_) (fun h4 => ?_)
    ·
      unfold b_X12_moved_24
      refine T_some ?_
      show BoxM o ∧ (Fr [(0, 0), (0, 2), (0, 32), (1, 9999), (21, 9999), (25, 9999), (26, 9999), (27, 9999), (29, 9999), (30, 9999), (32, 9999), (33, 9999)] o o)
      exact ⟨hB_o, fr_o⟩
    ·
      refine T_qB (t_X12_isBuilding o x3 hB_o (by omega)) (fun r5 hc_r5 hp5 => ?_)
      replace hp5 : ((r5 = 1 ∧ 0 ≤ x3 ∧ x3 < o.1 0 17) ∨ (r5 = 0 ∧ (x3 < 0 ∨ o.1 0 17 ≤ x3))) := hp5
      refine T_qEq ⟨by omega, by omega⟩ ⟨by decide, by decide⟩ (fun h6 => ?_) (fun h6 => ?_)
      ·
        unfold b_X12_moved_24
        refine T_some ?_
        show BoxM o ∧ (Fr [(0, 0), (0, 2), (0, 32), (1, 9999), (21, 9999), (25, 9999), (26, 9999), (27, 9999), (29, 9999), (30, 9999), (32, 9999), (33, 9999)] o o)
        exact ⟨hB_o, fr_o⟩
      ·
        refine T_qEq ⟨by omega, by omega⟩ ⟨by decide, by decide⟩ (fun h7 => ?_) (fun h7 => ?_)
        ·
          refine T_some ?_
          show BoxM o ∧ (Fr [(0, 0), (0, 2), (0, 32), (1, 9999), (21, 9999), (25, 9999), (26, 9999), (27, 9999), (29, 9999), (30, 9999), (32, 9999), (33, 9999)] o o)
          exact ⟨hB_o, fr_o⟩
        ·
          refine T_qIn ⟨by omega, by omega⟩ ?_
          refine T_qNm (fun n8 e_n8 => ?_)
          have b_n8 : 0 ≤ n8 ∧ n8 ≤ 6 := by rw [e_n8]; exact bM_25 hB_o _
          refine T_qEq ⟨by omega, by omega⟩ ⟨by decide, by decide⟩ (fun h8 => ?_) (fun h8 => ?_)
          ·
            refine T_qIn ⟨by omega, by omega⟩ ?_
            refine T_qNm (fun m10 e_m10 => ?_)
            refine T_qB (t_X12_has m10 x2 (by omega)) (fun r11 hc_r11 hp9 => ?_)
            replace hp9 : ((r11 = 1 ∧ bt m10 x2.toNat = true) ∨ (r11 = 0 ∧ bt m10 x2.toNat = false)) := hp9
            refine T_qEq ⟨by omega, by omega⟩ ⟨by decide, by decide⟩ (fun h10 => ?_) (fun h10 => ?_)
            ·
              unfold b_X12_moved_84
              refine T_some ?_
              show BoxM o ∧ (Fr [(0, 0), (0, 2), (0, 32), (1, 9999), (21, 9999), (25, 9999), (26, 9999), (27, 9999), (29, 9999), (30, 9999), (32, 9999), (33, 9999)] o o)
              exact ⟨hB_o, fr_o⟩
            ·
              refine T_qIn ⟨by omega, by omega⟩ ?_
              refine T_qNm (fun n14 e_n14 => ?_)
              have b_n14 : -9 ≤ n14 ∧ n14 ≤ 31 := by rw [e_n14]; exact bM_21 hB_o _
              refine T_qLt ⟨by omega, by omega⟩ ⟨by decide, by decide⟩ (fun h11 => ?_) (fun h11 => ?_)
              ·
                refine T_qB (t_X12_hasRoom o x3 hB_o (by omega)) (fun r15 hc_r15 hp12 => ?_)
                replace hp12 : (0 ≤ r15 ∧ r15 ≤ 1) := hp12
                refine T_qEq ⟨by omega, by omega⟩ ⟨by decide, by decide⟩ (fun h13 => ?_) (fun h13 => ?_)
                ·
                  unfold b_X12_moved_84
                  refine T_some ?_
                  show BoxM o ∧ (Fr [(0, 0), (0, 2), (0, 32), (1, 9999), (21, 9999), (25, 9999), (26, 9999), (27, 9999), (29, 9999), (30, 9999), (32, 9999), (33, 9999)] o o)
                  exact ⟨hB_o, fr_o⟩
                ·
                  refine T_qB2 (t_X12_enter o 4 x1 hB_o (by omega) (by omega) (by omega)) (fun r17 o19 hc_r17 hp14 => ?_)
                  replace hp14 : BoxM o19 ∧ (Fr [(0, 32), (25, 9999), (26, 9999), (27, 9999), (29, 9999), (30, 9999)] o o19) ∧ (r17 = o.1 0 32) ∧ (o19.1 0 32 = o.1 0 32 + 1) := hp14
                  obtain ⟨hB_o19, fc_o19, hp14⟩ := hp14
                  have fr_o19 : Fr [(0, 0), (0, 2), (0, 32), (1, 9999), (21, 9999), (25, 9999), (26, 9999), (27, 9999), (29, 9999), (30, 9999), (32, 9999), (33, 9999)] o o19 := Fr.tr fr_o fc_o19 rfl
                  have g0_32_o19 := bM_0_32 hB_o19
                  have g0_27_o19 : o19.1 0 27 = o.1 0 27 := fc_o19.1 0 27 rfl
                  have g0_17_o19 : o19.1 0 17 = o.1 0 17 := fc_o19.1 0 17 rfl
                  refine T_qB (t_X12_nowInForce o19 3 hB_o19 (by omega)) (fun r20 hc_r20 hp15 => ?_)
                  replace hp15 : (0 ≤ r20 ∧ r20 ≤ 9999) := hp15
                  refine T_qIn ⟨by omega, by omega⟩ ?_
                  refine T_qNm (fun o23 e_o23 => ?_)
                  have hB_o23 : BoxM o23 := by rw [e_o23]; exact Box.s1 hB_o19 (show 0 ≤ r20 ∧ r20 ≤ 10000000 from ⟨by omega, by omega⟩)
                  have fr_o23 : Fr [(0, 0), (0, 2), (0, 32), (1, 9999), (21, 9999), (25, 9999), (26, 9999), (27, 9999), (29, 9999), (30, 9999), (32, 9999), (33, 9999)] o o23 := by rw [e_o23]; exact Fr.s1 fr_o19 rfl
                  have g0_32_o23 : o23.1 0 32 = o19.1 0 32 := by rw [e_o23]; rfl
                  have g0_27_o23 : o23.1 0 27 = o19.1 0 27 := by rw [e_o23]; rfl
                  have g0_17_o23 : o23.1 0 17 = o19.1 0 17 := by rw [e_o23]; rfl
                  refine T_qIn ⟨by omega, by omega⟩ ?_
                  refine T_qNm (fun o25 e_o25 => ?_)
                  have hB_o25 : BoxM o25 := by rw [e_o25]; exact Box.s1 hB_o23 (show 0 ≤ x2 ∧ x2 ≤ 39 from ⟨by omega, by omega⟩)
                  have fr_o25 : Fr [(0, 0), (0, 2), (0, 32), (1, 9999), (21, 9999), (25, 9999), (26, 9999), (27, 9999), (29, 9999), (30, 9999), (32, 9999), (33, 9999)] o o25 := by rw [e_o25]; exact Fr.s1 fr_o23 rfl
                  have g0_32_o25 : o25.1 0 32 = o23.1 0 32 := by rw [e_o25]; rfl
                  have g0_27_o25 : o25.1 0 27 = o23.1 0 27 := by rw [e_o25]; rfl
                  have g0_17_o25 : o25.1 0 17 = o23.1 0 17 := by rw [e_o25]; rfl
                  refine T_qIn ⟨by omega, by omega⟩ ?_
                  refine T_qNm (fun o27 e_o27 => ?_)
                  have hB_o27 : BoxM o27 := by rw [e_o27]; exact Box.s1 hB_o25 (show -9 ≤ x3 ∧ x3 ≤ 31 from ⟨by omega, by omega⟩)
                  have fr_o27 : Fr [(0, 0), (0, 2), (0, 32), (1, 9999), (21, 9999), (25, 9999), (26, 9999), (27, 9999), (29, 9999), (30, 9999), (32, 9999), (33, 9999)] o o27 := by rw [e_o27]; exact Fr.s1 fr_o25 rfl
                  have g0_32_o27 : o27.1 0 32 = o25.1 0 32 := by rw [e_o27]; rfl
                  have g0_27_o27 : o27.1 0 27 = o25.1 0 27 := by rw [e_o27]; rfl
                  have g0_17_o27 : o27.1 0 17 = o25.1 0 17 := by rw [e_o27]; rfl
                  refine T_qIn ⟨by omega, by omega⟩ ?_
                  refine T_qNm (fun n29 e_n29 => ?_)
                  have b_n29 : 0 ≤ n29 ∧ n29 ≤ 10000000 := by rw [e_n29]; exact bM_32 hB_o27 _
                  refine T_qB2 (t_X12_ask o27 n29 r17 hB_o27) (fun r30 o32 hc_r30 hp16 => ?_)
                  replace hp16 : BoxM o32 ∧ (Fr [(0, 2)] o27 o32) ∧ (r30 = r17) := hp16
                  obtain ⟨hB_o32, fc_o32, hp16⟩ := hp16
                  have fr_o32 : Fr [(0, 0), (0, 2), (0, 32), (1, 9999), (21, 9999), (25, 9999), (26, 9999), (27, 9999), (29, 9999), (30, 9999), (32, 9999), (33, 9999)] o o32 := Fr.tr fr_o27 fc_o32 rfl
                  have g0_32_o32 : o32.1 0 32 = o27.1 0 32 := fc_o32.1 0 32 rfl
                  have g0_27_o32 : o32.1 0 27 = o27.1 0 27 := fc_o32.1 0 27 rfl
                  have g0_17_o32 : o32.1 0 17 = o27.1 0 17 := fc_o32.1 0 17 rfl
                  refine T_some ?_
                  show BoxM o32 ∧ (Fr [(0, 0), (0, 2), (0, 32), (1, 9999), (21, 9999), (25, 9999), (26, 9999), (27, 9999), (29, 9999), (30, 9999), (32, 9999), (33, 9999)] o o32)
                  exact ⟨hB_o32, fr_o32⟩
              ·
                unfold b_X12_moved_84
                refine T_some ?_
                show BoxM o ∧ (Fr [(0, 0), (0, 2), (0, 32), (1, 9999), (21, 9999), (25, 9999), (26, 9999), (27, 9999), (29, 9999), (30, 9999), (32, 9999), (33, 9999)] o o)
                exact ⟨hB_o, fr_o⟩
          ·
            refine T_qB2 (t_X12_meets o 3 hB_o (by omega)) (fun r33 o35 hc_r33 hp17 => ?_)
            replace hp17 : BoxM o35 ∧ (Fr [(0, 0), (1, 9999)] o o35) ∧ (r33 = -3) := hp17
            obtain ⟨hB_o35, fc_o35, hp17⟩ := hp17
            have fr_o35 : Fr [(0, 0), (0, 2), (0, 32), (1, 9999), (21, 9999), (25, 9999), (26, 9999), (27, 9999), (29, 9999), (30, 9999), (32, 9999), (33, 9999)] o o35 := Fr.tr fr_o fc_o35 rfl
            have g0_32_o35 : o35.1 0 32 = o.1 0 32 := fc_o35.1 0 32 rfl
            have g0_27_o35 : o35.1 0 27 = o.1 0 27 := fc_o35.1 0 27 rfl
            have g0_17_o35 : o35.1 0 17 = o.1 0 17 := fc_o35.1 0 17 rfl
            refine T_some ?_
            show BoxM o35 ∧ (Fr [(0, 0), (0, 2), (0, 32), (1, 9999), (21, 9999), (25, 9999), (26, 9999), (27, 9999), (29, 9999), (30, 9999), (32, 9999), (33, 9999)] o o35)
            exact ⟨hB_o35, fr_o35⟩
set_option maxRecDepth 20000 in
set_option maxHeartbeats 4000000 in
theorem t_X12_noise (o : OO) (x1 : Int) (x2 : Int) (hB_o : BoxM o) (k0 : inR x1) (k1 : inR x2) : T (s_X12_noise o x1 x2) (fun v => BoxM v.2 ∧ (Fr [(0, 0), (0, 2), (1, 9999)] o v.2)) := by
  have fr_o : Fr [(0, 0), (0, 2), (1, 9999)] o o := Fr.rf
  have g0_32_o := bM_0_32 hB_o
  unfold s_X12_noise
  refine T_qB (t_X12_isMark o x1 hB_o (by omega)) (fun r1 hc_r1 hp1 => ?_)
  replace hp1 : ((r1 = 1 ∧ 0 ≤ x1 ∧ x1 < o.1 0 32) ∨ (r1 = 0 ∧ (x1 < 0 ∨ o.1 0 32 ≤ x1))) := hp1
  refine T_qEq ⟨by omega, by omega⟩ ⟨by decide, by decide⟩ (fun h2 => ?_) (fun h2 => ?_)
  ·
    unfold b_X12_noise_15
    refine T_some ?_
    show BoxM o ∧ (Fr [(0, 0), (0, 2), (1, 9999)] o o)
    exact ⟨hB_o, fr_o⟩
  ·
    refine T_qB (t_X12_isRow x2 (by omega)) (fun r3 hc_r3 hp3 => ?_)
    replace hp3 : ((r3 = 1 ∧ 0 ≤ x2 ∧ x2 ≤ 5) ∨ (r3 = 0 ∧ (x2 < 0 ∨ 5 < x2))) := hp3
    refine T_qEq ⟨by omega, by omega⟩ ⟨by decide, by decide⟩ (fun h4 => ?_) (fun h4 => ?_)
    ·
      unfold b_X12_noise_15
      refine T_some ?_
      show BoxM o ∧ (Fr [(0, 0), (0, 2), (1, 9999)] o o)
      exact ⟨hB_o, fr_o⟩
    ·
      refine T_qB (t_X12_isLine o x1 hB_o (by omega)) (fun r5 hc_r5 hp5 => ?_)
      replace hp5 : (0 ≤ r5 ∧ r5 ≤ 1) := hp5
      refine T_qEq ⟨by omega, by omega⟩ ⟨by decide, by decide⟩ (fun h6 => ?_) (fun h6 => ?_)
      ·
        refine T_qB2 (t_X12_meets o 3 hB_o (by omega)) (fun r19 o21 hc_r19 hp7 => ?_)
        replace hp7 : BoxM o21 ∧ (Fr [(0, 0), (1, 9999)] o o21) ∧ (r19 = -3) := hp7
        obtain ⟨hB_o21, fc_o21, hp7⟩ := hp7
        have fr_o21 : Fr [(0, 0), (0, 2), (1, 9999)] o o21 := Fr.tr fr_o fc_o21 rfl
        have g0_32_o21 : o21.1 0 32 = o.1 0 32 := fc_o21.1 0 32 rfl
        refine T_some ?_
        show BoxM o21 ∧ (Fr [(0, 0), (0, 2), (1, 9999)] o o21)
        exact ⟨hB_o21, fr_o21⟩
      ·
        refine T_qIn ⟨by omega, by omega⟩ ?_
        refine T_qNm (fun n8 e_n8 => ?_)
        have b_n8 : -9 ≤ n8 ∧ n8 ≤ 40 := by rw [e_n8]; exact bM_2 hB_o _
        refine T_qLt ⟨by omega, by omega⟩ ⟨by decide, by decide⟩ (fun h8 => ?_) (fun h8 => ?_)
        ·
          refine T_qB2 (t_X12_meets o 1 hB_o (by omega)) (fun r16 o18 hc_r16 hp9 => ?_)
          replace hp9 : BoxM o18 ∧ (Fr [(0, 0), (1, 9999)] o o18) ∧ (r16 = -3) := hp9
          obtain ⟨hB_o18, fc_o18, hp9⟩ := hp9
          have fr_o18 : Fr [(0, 0), (0, 2), (1, 9999)] o o18 := Fr.tr fr_o fc_o18 rfl
          have g0_32_o18 : o18.1 0 32 = o.1 0 32 := fc_o18.1 0 32 rfl
          unfold b_X12_noise_66
          refine T_some ?_
          show BoxM o18 ∧ (Fr [(0, 0), (0, 2), (1, 9999)] o o18)
          exact ⟨hB_o18, fr_o18⟩
        ·
          refine T_qB (t_X12_loud o x1 x2 1 hB_o (by omega) (by omega) (by omega)) (fun r9 hc_r9 hp10 => ?_)
          replace hp10 : (0 ≤ r9 ∧ r9 ≤ 1280) := hp10
          refine T_qB (t_X12_loud o x1 x2 0 hB_o (by omega) (by omega) (by omega)) (fun r11 hc_r11 hp11 => ?_)
          replace hp11 : (0 ≤ r11 ∧ r11 ≤ 1280) := hp11
          refine T_qB2 (t_X12_ask o r9 r11 hB_o) (fun r13 o15 hc_r13 hp12 => ?_)
          replace hp12 : BoxM o15 ∧ (Fr [(0, 2)] o o15) ∧ (r13 = r11) := hp12
          obtain ⟨hB_o15, fc_o15, hp12⟩ := hp12
          have fr_o15 : Fr [(0, 0), (0, 2), (1, 9999)] o o15 := Fr.tr fr_o fc_o15 rfl
          have g0_32_o15 : o15.1 0 32 = o.1 0 32 := fc_o15.1 0 32 rfl
          unfold b_X12_noise_66
          refine T_some ?_
          show BoxM o15 ∧ (Fr [(0, 0), (0, 2), (1, 9999)] o o15)
          exact ⟨hB_o15, fr_o15⟩
set_option maxRecDepth 20000 in
set_option maxHeartbeats 4000000 in
theorem t_X12_over (o : OO) (x1 : Int) (hB_o : BoxM o) (k0 : inR x1) : T (s_X12_over o x1) (fun v => BoxM v.2 ∧ (Fr [(0, 0), (0, 3), (1, 9999)] o v.2)) := by
  have fr_o : Fr [(0, 0), (0, 3), (1, 9999)] o o := Fr.rf
  have g0_32_o := bM_0_32 hB_o
  unfold s_X12_over
  refine T_qB2 (t_X12_askedLine o x1 hB_o (by omega)) (fun r1 o3 hc_r1 hp1 => ?_)
  replace hp1 : BoxM o3 ∧ (Fr [(0, 0), (1, 9999)] o o3) ∧ (r1 = -1 ∨ r1 = -3 ∨ (r1 = 0 ∧ 0 ≤ x1 ∧ x1 < o.1 0 32)) := hp1
  obtain ⟨hB_o3, fc_o3, hp1⟩ := hp1
  have fr_o3 : Fr [(0, 0), (0, 3), (1, 9999)] o o3 := Fr.tr fr_o fc_o3 rfl
  have g0_32_o3 : o3.1 0 32 = o.1 0 32 := fc_o3.1 0 32 rfl
  refine T_qLt ⟨by omega, by omega⟩ ⟨by decide, by decide⟩ (fun h2 => ?_) (fun h2 => ?_)
  ·
    refine T_some ?_
    show BoxM o3 ∧ (Fr [(0, 0), (0, 3), (1, 9999)] o o3)
    exact ⟨hB_o3, fr_o3⟩
  ·
    refine T_qB (t_X12_cellsOf o3 x1 hB_o3 (by omega)) (fun p4 hc_p4 hp3 => ?_)
    refine T_qNm (fun o6 e_o6 => ?_)
    have hB_o6 : BoxM o6 := by rw [e_o6]; exact Box.s2 hB_o3
    have fr_o6 : Fr [(0, 0), (0, 3), (1, 9999)] o o6 := by rw [e_o6]; exact Fr.s2 fr_o3 rfl
    have g0_32_o6 : o6.1 0 32 = o3.1 0 32 := by rw [e_o6]; rfl
    refine T_qIn ⟨by omega, by omega⟩ ?_
    refine T_qNm (fun n8 e_n8 => ?_)
    have b_n8 : 0 ≤ n8 ∧ n8 ≤ 64 := by rw [e_n8]; exact bM_30 hB_o6 _
    refine T_some ?_
    show BoxM o6 ∧ (Fr [(0, 0), (0, 3), (1, 9999)] o o6)
    exact ⟨hB_o6, fr_o6⟩
set_option maxRecDepth 20000 in
set_option maxHeartbeats 4000000 in
theorem tl_X12_owed_9  (i_o : OO) (i_x1 : Int) (i_x2 : Int) (hB_i_o : BoxM i_o) (v0 : 0 ≤ i_x1 ∧ i_x1 ≤ i_x2) (v1 : 0 ≤ i_x2 ∧ i_x2 ≤ i_o.1 0 32) : T (loopW (fun s => l_X12_owed_9 s.1 s.2.1 s.2.2) (i_o, i_x1, i_x2)) (fun r => BoxM r.1 ∧ (Fr [(0, 64)] i_o r.1) ∧ (0 ≤ r.2 ∧ r.2 ≤ i_o.1 0 32)) := by
  have fr_i_o : Fr [(0, 64)] i_o i_o := Fr.rf
  refine T_loop (fun s => BoxM s.1 ∧ (Fr [(0, 64)] i_o s.1) ∧ (0 ≤ s.2.1 ∧ s.2.1 ≤ s.2.2) ∧ (0 ≤ s.2.2 ∧ s.2.2 ≤ s.1.1 0 32)) (fun s => (s.1.1 0 32 - s.2.2).toNat) (by exact ⟨hB_i_o, fr_i_o, v0, v1⟩) (fun s hs => ?_)
  obtain ⟨o, x1, x2⟩ := s
  replace hs : BoxM o ∧ (Fr [(0, 64)] i_o o) ∧ (0 ≤ x1 ∧ x1 ≤ x2) ∧ (0 ≤ x2 ∧ x2 ≤ o.1 0 32) := hs
  obtain ⟨hB_o, fr_o, w0, w1⟩ := hs
  have g0_32_i := bM_0_32 hB_i_o
  have g0_32_o : o.1 0 32 = i_o.1 0 32 := fr_o.1 0 32 rfl
  show T (l_X12_owed_9 o x1 x2) _
  unfold l_X12_owed_9
  refine T_qLt ⟨by omega, by omega⟩ ⟨by omega, by omega⟩ (fun h1 => ?_) (fun h1 => ?_)
  ·
    refine T_qIn ⟨by omega, by omega⟩ ?_
    refine T_qNm (fun n10 e_n10 => ?_)
    have b_n10 : 0 ≤ n10 ∧ n10 ≤ 6 := by rw [e_n10]; exact bM_25 hB_o _
    refine T_qEq ⟨by omega, by omega⟩ ⟨by decide, by decide⟩ (fun h2 => ?_) (fun h2 => ?_)
    ·
      unfold b_X12_owed_42
      refine T_qIn ⟨by omega, by omega⟩ ?_
      refine T_qNm (fun n8 e_n8 => ?_)
      have b_n8 : 0 ≤ n8 ∧ n8 ≤ 10000000 := by rw [e_n8]; exact bM_32 hB_o _
      unfold b_X12_owed_53
      refine T_qNm (fun o2 e_o2 => ?_)
      have hB_o2 : BoxM o2 := by rw [e_o2]; exact Box.s2 hB_o
      have fr_o2 : Fr [(0, 64)] i_o o2 := by rw [e_o2]; exact Fr.s2 fr_o rfl
      have g0_32_o2 : o2.1 0 32 = o.1 0 32 := by rw [e_o2]; rfl
      refine T_qIn ⟨by omega, by omega⟩ ?_
      refine T_qNm (fun n4 e_n4 => ?_)
      have b_n4 : 0 ≤ n4 ∧ n4 ≤ 6 := by rw [e_n4]; exact bM_25 hB_o2 _
      refine T_qEq ⟨by omega, by omega⟩ ⟨by decide, by decide⟩ (fun h3 => ?_) (fun h3 => ?_)
      ·
        refine T_qB (t_X12_isVoidTaking o2 x2 hB_o2 (by omega)) (fun r5 hc_r5 hp4 => ?_)
        replace hp4 : (0 ≤ r5 ∧ r5 ≤ 1) := hp4
        refine T_qEq ⟨by omega, by omega⟩ ⟨by decide, by decide⟩ (fun h5 => ?_) (fun h5 => ?_)
        ·
          unfold b_X12_owed_80
          unfold b_X12_owed_81
          refine T_qNm (fun n1 e_n1 => ?_)
          refine T_some ?_
          show (BoxM o2 ∧ (Fr [(0, 64)] i_o o2) ∧ (0 ≤ n1 ∧ n1 ≤ (x2 + 1)) ∧ (0 ≤ (x2 + 1) ∧ (x2 + 1) ≤ o2.1 0 32)) ∧ (o2.1 0 32 - (x2 + 1)).toNat < (o.1 0 32 - x2).toNat
          exact ⟨⟨hB_o2, fr_o2, (by omega), (by omega)⟩, by omega⟩
        ·
          unfold b_X12_owed_81
          refine T_qNm (fun n1 e_n1 => ?_)
          refine T_some ?_
          show (BoxM o2 ∧ (Fr [(0, 64)] i_o o2) ∧ (0 ≤ n1 ∧ n1 ≤ (x2 + 1)) ∧ (0 ≤ (x2 + 1) ∧ (x2 + 1) ≤ o2.1 0 32)) ∧ (o2.1 0 32 - (x2 + 1)).toNat < (o.1 0 32 - x2).toNat
          exact ⟨⟨hB_o2, fr_o2, (by omega), (by omega)⟩, by omega⟩
      ·
        unfold b_X12_owed_80
        unfold b_X12_owed_81
        refine T_qNm (fun n1 e_n1 => ?_)
        refine T_some ?_
        show (BoxM o2 ∧ (Fr [(0, 64)] i_o o2) ∧ (0 ≤ n1 ∧ n1 ≤ (x2 + 1)) ∧ (0 ≤ (x2 + 1) ∧ (x2 + 1) ≤ o2.1 0 32)) ∧ (o2.1 0 32 - (x2 + 1)).toNat < (o.1 0 32 - x2).toNat
        exact ⟨⟨hB_o2, fr_o2, (by omega), (by omega)⟩, by omega⟩
    ·
      refine T_qIn ⟨by omega, by omega⟩ ?_
      refine T_qNm (fun n12 e_n12 => ?_)
      have b_n12 : 0 ≤ n12 ∧ n12 ≤ 6 := by rw [e_n12]; exact bM_25 hB_o _
      refine T_qEq ⟨by omega, by omega⟩ ⟨by decide, by decide⟩ (fun h6 => ?_) (fun h6 => ?_)
      ·
        unfold b_X12_owed_42
        refine T_qIn ⟨by omega, by omega⟩ ?_
        refine T_qNm (fun n8 e_n8 => ?_)
        have b_n8 : 0 ≤ n8 ∧ n8 ≤ 10000000 := by rw [e_n8]; exact bM_32 hB_o _
        unfold b_X12_owed_53
        refine T_qNm (fun o2 e_o2 => ?_)
        have hB_o2 : BoxM o2 := by rw [e_o2]; exact Box.s2 hB_o
        have fr_o2 : Fr [(0, 64)] i_o o2 := by rw [e_o2]; exact Fr.s2 fr_o rfl
        have g0_32_o2 : o2.1 0 32 = o.1 0 32 := by rw [e_o2]; rfl
        refine T_qIn ⟨by omega, by omega⟩ ?_
        refine T_qNm (fun n4 e_n4 => ?_)
        have b_n4 : 0 ≤ n4 ∧ n4 ≤ 6 := by rw [e_n4]; exact bM_25 hB_o2 _
        refine T_qEq ⟨by omega, by omega⟩ ⟨by decide, by decide⟩ (fun h7 => ?_) (fun h7 => ?_)
        ·
          refine T_qB (t_X12_isVoidTaking o2 x2 hB_o2 (by omega)) (fun r5 hc_r5 hp8 => ?_)
          replace hp8 : (0 ≤ r5 ∧ r5 ≤ 1) := hp8
          refine T_qEq ⟨by omega, by omega⟩ ⟨by decide, by decide⟩ (fun h9 => ?_) (fun h9 => ?_)
          ·
            unfold b_X12_owed_80
            unfold b_X12_owed_81
            refine T_qNm (fun n1 e_n1 => ?_)
            refine T_some ?_
            show (BoxM o2 ∧ (Fr [(0, 64)] i_o o2) ∧ (0 ≤ n1 ∧ n1 ≤ (x2 + 1)) ∧ (0 ≤ (x2 + 1) ∧ (x2 + 1) ≤ o2.1 0 32)) ∧ (o2.1 0 32 - (x2 + 1)).toNat < (o.1 0 32 - x2).toNat
            exact ⟨⟨hB_o2, fr_o2, (by omega), (by omega)⟩, by omega⟩
          ·
            unfold b_X12_owed_81
            refine T_qNm (fun n1 e_n1 => ?_)
            refine T_some ?_
            show (BoxM o2 ∧ (Fr [(0, 64)] i_o o2) ∧ (0 ≤ n1 ∧ n1 ≤ (x2 + 1)) ∧ (0 ≤ (x2 + 1) ∧ (x2 + 1) ≤ o2.1 0 32)) ∧ (o2.1 0 32 - (x2 + 1)).toNat < (o.1 0 32 - x2).toNat
            exact ⟨⟨hB_o2, fr_o2, (by omega), (by omega)⟩, by omega⟩
        ·
          unfold b_X12_owed_80
          unfold b_X12_owed_81
          refine T_qNm (fun n1 e_n1 => ?_)
          refine T_some ?_
          show (BoxM o2 ∧ (Fr [(0, 64)] i_o o2) ∧ (0 ≤ n1 ∧ n1 ≤ (x2 + 1)) ∧ (0 ≤ (x2 + 1) ∧ (x2 + 1) ≤ o2.1 0 32)) ∧ (o2.1 0 32 - (x2 + 1)).toNat < (o.1 0 32 - x2).toNat
          exact ⟨⟨hB_o2, fr_o2, (by omega), (by omega)⟩, by omega⟩
      ·
        unfold b_X12_owed_53
        refine T_qNm (fun o2 e_o2 => ?_)
        have hB_o2 : BoxM o2 := by rw [e_o2]; exact Box.s2 hB_o
        have fr_o2 : Fr [(0, 64)] i_o o2 := by rw [e_o2]; exact Fr.s2 fr_o rfl
        have g0_32_o2 : o2.1 0 32 = o.1 0 32 := by rw [e_o2]; rfl
        refine T_qIn ⟨by omega, by omega⟩ ?_
        refine T_qNm (fun n4 e_n4 => ?_)
        have b_n4 : 0 ≤ n4 ∧ n4 ≤ 6 := by rw [e_n4]; exact bM_25 hB_o2 _
        refine T_qEq ⟨by omega, by omega⟩ ⟨by decide, by decide⟩ (fun h10 => ?_) (fun h10 => ?_)
        ·
          refine T_qB (t_X12_isVoidTaking o2 x2 hB_o2 (by omega)) (fun r5 hc_r5 hp11 => ?_)
          replace hp11 : (0 ≤ r5 ∧ r5 ≤ 1) := hp11
          refine T_qEq ⟨by omega, by omega⟩ ⟨by decide, by decide⟩ (fun h12 => ?_) (fun h12 => ?_)
          ·
            unfold b_X12_owed_80
            unfold b_X12_owed_81
            refine T_qNm (fun n1 e_n1 => ?_)
            refine T_some ?_
            show (BoxM o2 ∧ (Fr [(0, 64)] i_o o2) ∧ (0 ≤ n1 ∧ n1 ≤ (x2 + 1)) ∧ (0 ≤ (x2 + 1) ∧ (x2 + 1) ≤ o2.1 0 32)) ∧ (o2.1 0 32 - (x2 + 1)).toNat < (o.1 0 32 - x2).toNat
            exact ⟨⟨hB_o2, fr_o2, (by omega), (by omega)⟩, by omega⟩
          ·
            unfold b_X12_owed_81
            refine T_qNm (fun n1 e_n1 => ?_)
            refine T_some ?_
            show (BoxM o2 ∧ (Fr [(0, 64)] i_o o2) ∧ (0 ≤ n1 ∧ n1 ≤ (x2 + 1)) ∧ (0 ≤ (x2 + 1) ∧ (x2 + 1) ≤ o2.1 0 32)) ∧ (o2.1 0 32 - (x2 + 1)).toNat < (o.1 0 32 - x2).toNat
            exact ⟨⟨hB_o2, fr_o2, (by omega), (by omega)⟩, by omega⟩
        ·
          unfold b_X12_owed_80
          unfold b_X12_owed_81
          refine T_qNm (fun n1 e_n1 => ?_)
          refine T_some ?_
          show (BoxM o2 ∧ (Fr [(0, 64)] i_o o2) ∧ (0 ≤ n1 ∧ n1 ≤ (x2 + 1)) ∧ (0 ≤ (x2 + 1) ∧ (x2 + 1) ≤ o2.1 0 32)) ∧ (o2.1 0 32 - (x2 + 1)).toNat < (o.1 0 32 - x2).toNat
          exact ⟨⟨hB_o2, fr_o2, (by omega), (by omega)⟩, by omega⟩
  ·
    refine T_some ?_
    show BoxM o ∧ (Fr [(0, 64)] i_o o) ∧ (0 ≤ x1 ∧ x1 ≤ i_o.1 0 32)
    exact ⟨hB_o, fr_o, (by omega)⟩
set_option maxRecDepth 20000 in
set_option maxHeartbeats 4000000 in
theorem t_X12_owed (o : OO) (hB_o : BoxM o) : T (s_X12_owed o) (fun v => BoxM v.2 ∧ (Fr [(0, 64)] o v.2)) := by
  have fr_o : Fr [(0, 64)] o o := Fr.rf
  have g0_32_o := bM_0_32 hB_o
  unfold s_X12_owed
  refine T_qNm (fun o13 e_o13 => ?_)
  have hB_o13 : BoxM o13 := by rw [e_o13]; exact Box.s2 hB_o
  have fr_o13 : Fr [(0, 64)] o o13 := by rw [e_o13]; exact Fr.s2 fr_o rfl
  have g0_32_o13 : o13.1 0 32 = o.1 0 32 := by rw [e_o13]; rfl
  unfold e_X12_owed_9
  refine T_qB (tl_X12_owed_9 o13 0 0 hB_o13 (by omega) (by omega)) (fun r13 hc_r13 hp14 => ?_)
  obtain ⟨o_15, x1_16⟩ := r13
  replace hp14 : BoxM o_15 ∧ (Fr [(0, 64)] o13 o_15) ∧ (0 ≤ x1_16 ∧ x1_16 ≤ o13.1 0 32) := hp14
  have hps_hp14 := hp14
  obtain ⟨hp14_0, hp14_1, hp14_2⟩ := hps_hp14
  obtain ⟨hB_o_15, fc_o_15, hp14⟩ := hp14
  replace hp14 := hid hp14
  have fr_o_15 : Fr [(0, 64)] o o_15 := Fr.tr fr_o13 fc_o_15 rfl
  have g0_32_o_15 : o_15.1 0 32 = o13.1 0 32 := fc_o_15.1 0 32 rfl
  show T (b_X12_owed_89 o_15 x1_16) _
  unfold b_X12_owed_89
  refine T_some ?_
  show BoxM o_15 ∧ (Fr [(0, 64)] o o_15)
  exact ⟨hB_o_15, fr_o_15⟩
set_option maxRecDepth 20000 in
set_option maxHeartbeats 4000000 in
theorem t_X12_park (o : OO) (x1 : Int) (hB_o : BoxM o) (k0 : inR x1) : T (s_X12_park o x1) (fun v => BoxM v.2 ∧ (Fr [(0, 0), (0, 2), (1, 9999)] o v.2)) := by
  have fr_o : Fr [(0, 0), (0, 2), (1, 9999)] o o := Fr.rf
  have g0_32_o := bM_0_32 hB_o
  unfold s_X12_park
  refine T_qB2 (t_X12_askedLine o x1 hB_o (by omega)) (fun r4 o6 hc_r4 hp1 => ?_)
  replace hp1 : BoxM o6 ∧ (Fr [(0, 0), (1, 9999)] o o6) ∧ (r4 = -1 ∨ r4 = -3 ∨ (r4 = 0 ∧ 0 ≤ x1 ∧ x1 < o.1 0 32)) := hp1
  obtain ⟨hB_o6, fc_o6, hp1⟩ := hp1
  have fr_o6 : Fr [(0, 0), (0, 2), (1, 9999)] o o6 := Fr.tr fr_o fc_o6 rfl
  have g0_32_o6 : o6.1 0 32 = o.1 0 32 := fc_o6.1 0 32 rfl
  refine T_qLt ⟨by omega, by omega⟩ ⟨by decide, by decide⟩ (fun h2 => ?_) (fun h2 => ?_)
  ·
    unfold b_X12_park_42
    refine T_some ?_
    show BoxM o6 ∧ (Fr [(0, 0), (0, 2), (1, 9999)] o o6)
    exact ⟨hB_o6, fr_o6⟩
  ·
    refine T_qB (t_X12_parks o6 x1 hB_o6 (by omega)) (fun r7 hc_r7 hp3 => ?_)
    replace hp3 : (0 ≤ r7 ∧ r7 ≤ 64) := hp3
    refine T_qB (t_X12_parks o6 x1 hB_o6 (by omega)) (fun r9 hc_r9 hp4 => ?_)
    replace hp4 : (0 ≤ r9 ∧ r9 ≤ 64) := hp4
    refine T_qB (t_X12_nowInForce o6 6 hB_o6 (by omega)) (fun r11 hc_r11 hp5 => ?_)
    replace hp5 : (0 ≤ r11 ∧ r11 ≤ 9999) := hp5
    refine T_qLt ⟨by omega, by omega⟩ ⟨by omega, by omega⟩ (fun h6 => ?_) (fun h6 => ?_)
    ·
      unfold b_X12_park_39
      refine T_qB2 (t_X12_ask o6 r7 0 hB_o6) (fun r1 o3 hc_r1 hp7 => ?_)
      replace hp7 : BoxM o3 ∧ (Fr [(0, 2)] o6 o3) ∧ (r1 = 0) := hp7
      obtain ⟨hB_o3, fc_o3, hp7⟩ := hp7
      have fr_o3 : Fr [(0, 0), (0, 2), (1, 9999)] o o3 := Fr.tr fr_o6 fc_o3 rfl
      have g0_32_o3 : o3.1 0 32 = o6.1 0 32 := fc_o3.1 0 32 rfl
      unfold b_X12_park_42
      refine T_some ?_
      show BoxM o3 ∧ (Fr [(0, 0), (0, 2), (1, 9999)] o o3)
      exact ⟨hB_o3, fr_o3⟩
    ·
      unfold b_X12_park_39
      refine T_qB2 (t_X12_ask o6 r7 1 hB_o6) (fun r1 o3 hc_r1 hp8 => ?_)
      replace hp8 : BoxM o3 ∧ (Fr [(0, 2)] o6 o3) ∧ (r1 = 1) := hp8
      obtain ⟨hB_o3, fc_o3, hp8⟩ := hp8
      have fr_o3 : Fr [(0, 0), (0, 2), (1, 9999)] o o3 := Fr.tr fr_o6 fc_o3 rfl
      have g0_32_o3 : o3.1 0 32 = o6.1 0 32 := fc_o3.1 0 32 rfl
      unfold b_X12_park_42
      refine T_some ?_
      show BoxM o3 ∧ (Fr [(0, 0), (0, 2), (1, 9999)] o o3)
      exact ⟨hB_o3, fr_o3⟩
set_option maxRecDepth 20000 in
set_option maxHeartbeats 4000000 in
theorem t_X12_person (o : OO) (x1 : Int) (x2 : Int) (x3 : Int) (x4 : Int) (hB_o : BoxM o) (k0 : inR x1) (k1 : inR x2) (k2 : 0 ≤ x3 ∧ x3 ≤ 1) (k3 : inR x4) : T (s_X12_person o x1 x2 x3 x4) (fun v => BoxM v.2 ∧ (Fr [(0, 27), (21, 9999), (22, 9999), (23, 9999), (24, 9999)] o v.2)) := by
  have fr_o : Fr [(0, 27), (21, 9999), (22, 9999), (23, 9999), (24, 9999)] o o := Fr.rf
  have g0_27_o := bM_0_27 hB_o
  have g0_17_o := bM_0_17 hB_o
  unfold s_X12_person
  refine T_qEq ⟨by omega, by omega⟩ ⟨by decide, by decide⟩ (fun h1 => ?_) (fun h1 => ?_)
  ·
    unfold b_X12_person_14
    refine T_qEq ⟨by omega, by omega⟩ ⟨by decide, by decide⟩ (fun h2 => ?_) (fun h2 => ?_)
    ·
      unfold b_X12_person_27
      refine T_qB (t_X12_in x4 0 9 (by omega) (by omega) (by omega)) (fun r11 hc_r11 hp3 => ?_)
      replace hp3 : ((r11 = 1 ∧ 0 ≤ x4 ∧ x4 ≤ 9) ∨ (r11 = 0 ∧ (x4 < 0 ∨ 9 < x4))) := hp3
      refine T_qEq ⟨by omega, by omega⟩ ⟨by decide, by decide⟩ (fun h4 => ?_) (fun h4 => ?_)
      ·
        unfold b_X12_person_38
        refine T_some ?_
        show BoxM o ∧ (Fr [(0, 27), (21, 9999), (22, 9999), (23, 9999), (24, 9999)] o o)
        exact ⟨hB_o, fr_o⟩
      ·
        refine T_qEq ⟨by omega, by omega⟩ ⟨by decide, by decide⟩ (fun h5 => ?_) (fun h5 => ?_)
        ·
          refine T_some ?_
          show BoxM o ∧ (Fr [(0, 27), (21, 9999), (22, 9999), (23, 9999), (24, 9999)] o o)
          exact ⟨hB_o, fr_o⟩
        ·
          refine T_qEq ⟨by omega, by omega⟩ ⟨by decide, by decide⟩ (fun h6 => ?_) (fun h6 => ?_)
          ·
            unfold b_X12_person_69
            refine T_qIn ⟨by omega, by omega⟩ ?_
            refine T_qNm (fun o2 e_o2 => ?_)
            have hB_o2 : BoxM o2 := by rw [e_o2]; exact Box.s1 hB_o (show -9 ≤ x1 ∧ x1 ≤ 31 from ⟨by omega, by omega⟩)
            have fr_o2 : Fr [(0, 27), (21, 9999), (22, 9999), (23, 9999), (24, 9999)] o o2 := by rw [e_o2]; exact Fr.s1 fr_o rfl
            have g0_27_o2 : o2.1 0 27 = o.1 0 27 := by rw [e_o2]; rfl
            have g0_17_o2 : o2.1 0 17 = o.1 0 17 := by rw [e_o2]; rfl
            refine T_qIn ⟨by omega, by omega⟩ ?_
            refine T_qNm (fun o4 e_o4 => ?_)
            have hB_o4 : BoxM o4 := by rw [e_o4]; exact Box.s1 hB_o2 (show -9 ≤ x2 ∧ x2 ≤ 63 from ⟨by omega, by omega⟩)
            have fr_o4 : Fr [(0, 27), (21, 9999), (22, 9999), (23, 9999), (24, 9999)] o o4 := by rw [e_o4]; exact Fr.s1 fr_o2 rfl
            have g0_27_o4 : o4.1 0 27 = o2.1 0 27 := by rw [e_o4]; rfl
            have g0_17_o4 : o4.1 0 17 = o2.1 0 17 := by rw [e_o4]; rfl
            refine T_qIn ⟨by omega, by omega⟩ ?_
            refine T_qZ (by omega) ?_
            refine T_qNm (fun o7 e_o7 => ?_)
            have hB_o7 : BoxM o7 := by rw [e_o7]; exact Box.s1 hB_o4 (show 0 ≤ x3 ∧ x3 ≤ 1 from ⟨by omega, by omega⟩)
            have fr_o7 : Fr [(0, 27), (21, 9999), (22, 9999), (23, 9999), (24, 9999)] o o7 := by rw [e_o7]; exact Fr.s1 fr_o4 rfl
            have g0_27_o7 : o7.1 0 27 = o4.1 0 27 := by rw [e_o7]; rfl
            have g0_17_o7 : o7.1 0 17 = o4.1 0 17 := by rw [e_o7]; rfl
            refine T_qIn ⟨by omega, by omega⟩ ?_
            refine T_qNm (fun o9 e_o9 => ?_)
            have hB_o9 : BoxM o9 := by rw [e_o9]; exact Box.s1 hB_o7 (show 0 ≤ x4 ∧ x4 ≤ 9 from ⟨by omega, by omega⟩)
            have fr_o9 : Fr [(0, 27), (21, 9999), (22, 9999), (23, 9999), (24, 9999)] o o9 := by rw [e_o9]; exact Fr.s1 fr_o7 rfl
            have g0_27_o9 : o9.1 0 27 = o7.1 0 27 := by rw [e_o9]; rfl
            have g0_17_o9 : o9.1 0 17 = o7.1 0 17 := by rw [e_o9]; rfl
            refine T_qNm (fun o10 e_o10 => ?_)
            have hB_o10 : BoxM o10 := by rw [e_o10]; exact Box.s1 hB_o9 (show 0 ≤ ((o9.1 0 27) + 1) ∧ ((o9.1 0 27) + 1) ≤ 40 from ⟨by omega, by omega⟩)
            have fr_o10 : Fr [(0, 27), (21, 9999), (22, 9999), (23, 9999), (24, 9999)] o o10 := by rw [e_o10]; exact Fr.s1 fr_o9 rfl
            have g0_27_o10 : o10.1 0 27 = ((o9.1 0 27) + 1) := by rw [e_o10]; rfl
            have g0_17_o10 : o10.1 0 17 = o9.1 0 17 := by rw [e_o10]; rfl
            refine T_some ?_
            show BoxM o10 ∧ (Fr [(0, 27), (21, 9999), (22, 9999), (23, 9999), (24, 9999)] o o10)
            exact ⟨hB_o10, fr_o10⟩
          ·
            refine T_qB (t_X12_hasRoom o x1 hB_o (by omega)) (fun r13 hc_r13 hp7 => ?_)
            replace hp7 : (0 ≤ r13 ∧ r13 ≤ 1) := hp7
            refine T_qEq ⟨by omega, by omega⟩ ⟨by decide, by decide⟩ (fun h8 => ?_) (fun h8 => ?_)
            ·
              refine T_some ?_
              show BoxM o ∧ (Fr [(0, 27), (21, 9999), (22, 9999), (23, 9999), (24, 9999)] o o)
              exact ⟨hB_o, fr_o⟩
            ·
              unfold b_X12_person_69
              refine T_qIn ⟨by omega, by omega⟩ ?_
              refine T_qNm (fun o2 e_o2 => ?_)
              have hB_o2 : BoxM o2 := by rw [e_o2]; exact Box.s1 hB_o (show -9 ≤ x1 ∧ x1 ≤ 31 from ⟨by omega, by omega⟩)
              have fr_o2 : Fr [(0, 27), (21, 9999), (22, 9999), (23, 9999), (24, 9999)] o o2 := by rw [e_o2]; exact Fr.s1 fr_o rfl
              have g0_27_o2 : o2.1 0 27 = o.1 0 27 := by rw [e_o2]; rfl
              have g0_17_o2 : o2.1 0 17 = o.1 0 17 := by rw [e_o2]; rfl
              refine T_qIn ⟨by omega, by omega⟩ ?_
              refine T_qNm (fun o4 e_o4 => ?_)
              have hB_o4 : BoxM o4 := by rw [e_o4]; exact Box.s1 hB_o2 (show -9 ≤ x2 ∧ x2 ≤ 63 from ⟨by omega, by omega⟩)
              have fr_o4 : Fr [(0, 27), (21, 9999), (22, 9999), (23, 9999), (24, 9999)] o o4 := by rw [e_o4]; exact Fr.s1 fr_o2 rfl
              have g0_27_o4 : o4.1 0 27 = o2.1 0 27 := by rw [e_o4]; rfl
              have g0_17_o4 : o4.1 0 17 = o2.1 0 17 := by rw [e_o4]; rfl
              refine T_qIn ⟨by omega, by omega⟩ ?_
              refine T_qZ (by omega) ?_
              refine T_qNm (fun o7 e_o7 => ?_)
              have hB_o7 : BoxM o7 := by rw [e_o7]; exact Box.s1 hB_o4 (show 0 ≤ x3 ∧ x3 ≤ 1 from ⟨by omega, by omega⟩)
              have fr_o7 : Fr [(0, 27), (21, 9999), (22, 9999), (23, 9999), (24, 9999)] o o7 := by rw [e_o7]; exact Fr.s1 fr_o4 rfl
              have g0_27_o7 : o7.1 0 27 = o4.1 0 27 := by rw [e_o7]; rfl
              have g0_17_o7 : o7.1 0 17 = o4.1 0 17 := by rw [e_o7]; rfl
              refine T_qIn ⟨by omega, by omega⟩ ?_
              refine T_qNm (fun o9 e_o9 => ?_)
              have hB_o9 : BoxM o9 := by rw [e_o9]; exact Box.s1 hB_o7 (show 0 ≤ x4 ∧ x4 ≤ 9 from ⟨by omega, by omega⟩)
              have fr_o9 : Fr [(0, 27), (21, 9999), (22, 9999), (23, 9999), (24, 9999)] o o9 := by rw [e_o9]; exact Fr.s1 fr_o7 rfl
              have g0_27_o9 : o9.1 0 27 = o7.1 0 27 := by rw [e_o9]; rfl
              have g0_17_o9 : o9.1 0 17 = o7.1 0 17 := by rw [e_o9]; rfl
              refine T_qNm (fun o10 e_o10 => ?_)
              have hB_o10 : BoxM o10 := by rw [e_o10]; exact Box.s1 hB_o9 (show 0 ≤ ((o9.1 0 27) + 1) ∧ ((o9.1 0 27) + 1) ≤ 40 from ⟨by omega, by omega⟩)
              have fr_o10 : Fr [(0, 27), (21, 9999), (22, 9999), (23, 9999), (24, 9999)] o o10 := by rw [e_o10]; exact Fr.s1 fr_o9 rfl
              have g0_27_o10 : o10.1 0 27 = ((o9.1 0 27) + 1) := by rw [e_o10]; rfl
              have g0_17_o10 : o10.1 0 17 = o9.1 0 17 := by rw [e_o10]; rfl
              refine T_some ?_
              show BoxM o10 ∧ (Fr [(0, 27), (21, 9999), (22, 9999), (23, 9999), (24, 9999)] o o10)
              exact ⟨hB_o10, fr_o10⟩
    ·
      refine T_qB (t_X12_isCell x2 (by omega)) (fun r15 hc_r15 hp9 => ?_)
      replace hp9 : ((r15 = 1 ∧ 0 ≤ x2 ∧ x2 ≤ 63) ∨ (r15 = 0 ∧ (x2 < 0 ∨ 63 < x2))) := hp9
      refine T_qEq ⟨by omega, by omega⟩ ⟨by decide, by decide⟩ (fun h10 => ?_) (fun h10 => ?_)
      ·
        unfold b_X12_person_38
        refine T_some ?_
        show BoxM o ∧ (Fr [(0, 27), (21, 9999), (22, 9999), (23, 9999), (24, 9999)] o o)
        exact ⟨hB_o, fr_o⟩
      ·
        unfold b_X12_person_27
        refine T_qB (t_X12_in x4 0 9 (by omega) (by omega) (by omega)) (fun r11 hc_r11 hp11 => ?_)
        replace hp11 : ((r11 = 1 ∧ 0 ≤ x4 ∧ x4 ≤ 9) ∨ (r11 = 0 ∧ (x4 < 0 ∨ 9 < x4))) := hp11
        refine T_qEq ⟨by omega, by omega⟩ ⟨by decide, by decide⟩ (fun h12 => ?_) (fun h12 => ?_)
        ·
          unfold b_X12_person_38
          refine T_some ?_
          show BoxM o ∧ (Fr [(0, 27), (21, 9999), (22, 9999), (23, 9999), (24, 9999)] o o)
          exact ⟨hB_o, fr_o⟩
        ·
          refine T_qEq ⟨by omega, by omega⟩ ⟨by decide, by decide⟩ (fun h13 => ?_) (fun h13 => ?_)
          ·
            refine T_some ?_
            show BoxM o ∧ (Fr [(0, 27), (21, 9999), (22, 9999), (23, 9999), (24, 9999)] o o)
            exact ⟨hB_o, fr_o⟩
          ·
            refine T_qEq ⟨by omega, by omega⟩ ⟨by decide, by decide⟩ (fun h14 => ?_) (fun h14 => ?_)
            ·
              unfold b_X12_person_69
              refine T_qIn ⟨by omega, by omega⟩ ?_
              refine T_qNm (fun o2 e_o2 => ?_)
              have hB_o2 : BoxM o2 := by rw [e_o2]; exact Box.s1 hB_o (show -9 ≤ x1 ∧ x1 ≤ 31 from ⟨by omega, by omega⟩)
              have fr_o2 : Fr [(0, 27), (21, 9999), (22, 9999), (23, 9999), (24, 9999)] o o2 := by rw [e_o2]; exact Fr.s1 fr_o rfl
              have g0_27_o2 : o2.1 0 27 = o.1 0 27 := by rw [e_o2]; rfl
              have g0_17_o2 : o2.1 0 17 = o.1 0 17 := by rw [e_o2]; rfl
              refine T_qIn ⟨by omega, by omega⟩ ?_
              refine T_qNm (fun o4 e_o4 => ?_)
              have hB_o4 : BoxM o4 := by rw [e_o4]; exact Box.s1 hB_o2 (show -9 ≤ x2 ∧ x2 ≤ 63 from ⟨by omega, by omega⟩)
              have fr_o4 : Fr [(0, 27), (21, 9999), (22, 9999), (23, 9999), (24, 9999)] o o4 := by rw [e_o4]; exact Fr.s1 fr_o2 rfl
              have g0_27_o4 : o4.1 0 27 = o2.1 0 27 := by rw [e_o4]; rfl
              have g0_17_o4 : o4.1 0 17 = o2.1 0 17 := by rw [e_o4]; rfl
              refine T_qIn ⟨by omega, by omega⟩ ?_
              refine T_qZ (by omega) ?_
              refine T_qNm (fun o7 e_o7 => ?_)
              have hB_o7 : BoxM o7 := by rw [e_o7]; exact Box.s1 hB_o4 (show 0 ≤ x3 ∧ x3 ≤ 1 from ⟨by omega, by omega⟩)
              have fr_o7 : Fr [(0, 27), (21, 9999), (22, 9999), (23, 9999), (24, 9999)] o o7 := by rw [e_o7]; exact Fr.s1 fr_o4 rfl
              have g0_27_o7 : o7.1 0 27 = o4.1 0 27 := by rw [e_o7]; rfl
              have g0_17_o7 : o7.1 0 17 = o4.1 0 17 := by rw [e_o7]; rfl
              refine T_qIn ⟨by omega, by omega⟩ ?_
              refine T_qNm (fun o9 e_o9 => ?_)
              have hB_o9 : BoxM o9 := by rw [e_o9]; exact Box.s1 hB_o7 (show 0 ≤ x4 ∧ x4 ≤ 9 from ⟨by omega, by omega⟩)
              have fr_o9 : Fr [(0, 27), (21, 9999), (22, 9999), (23, 9999), (24, 9999)] o o9 := by rw [e_o9]; exact Fr.s1 fr_o7 rfl
              have g0_27_o9 : o9.1 0 27 = o7.1 0 27 := by rw [e_o9]; rfl
              have g0_17_o9 : o9.1 0 17 = o7.1 0 17 := by rw [e_o9]; rfl
              refine T_qNm (fun o10 e_o10 => ?_)
              have hB_o10 : BoxM o10 := by rw [e_o10]; exact Box.s1 hB_o9 (show 0 ≤ ((o9.1 0 27) + 1) ∧ ((o9.1 0 27) + 1) ≤ 40 from ⟨by omega, by omega⟩)
              have fr_o10 : Fr [(0, 27), (21, 9999), (22, 9999), (23, 9999), (24, 9999)] o o10 := by rw [e_o10]; exact Fr.s1 fr_o9 rfl
              have g0_27_o10 : o10.1 0 27 = ((o9.1 0 27) + 1) := by rw [e_o10]; rfl
              have g0_17_o10 : o10.1 0 17 = o9.1 0 17 := by rw [e_o10]; rfl
              refine T_some ?_
              show BoxM o10 ∧ (Fr [(0, 27), (21, 9999), (22, 9999), (23, 9999), (24, 9999)] o o10)
              exact ⟨hB_o10, fr_o10⟩
            ·
              refine T_qB (t_X12_hasRoom o x1 hB_o (by omega)) (fun r13 hc_r13 hp15 => ?_)
              replace hp15 : (0 ≤ r13 ∧ r13 ≤ 1) := hp15
              refine T_qEq ⟨by omega, by omega⟩ ⟨by decide, by decide⟩ (fun h16 => ?_) (fun h16 => ?_)
              ·
                refine T_some ?_
                show BoxM o ∧ (Fr [(0, 27), (21, 9999), (22, 9999), (23, 9999), (24, 9999)] o o)
                exact ⟨hB_o, fr_o⟩
              ·
                unfold b_X12_person_69
                refine T_qIn ⟨by omega, by omega⟩ ?_
                refine T_qNm (fun o2 e_o2 => ?_)
                have hB_o2 : BoxM o2 := by rw [e_o2]; exact Box.s1 hB_o (show -9 ≤ x1 ∧ x1 ≤ 31 from ⟨by omega, by omega⟩)
                have fr_o2 : Fr [(0, 27), (21, 9999), (22, 9999), (23, 9999), (24, 9999)] o o2 := by rw [e_o2]; exact Fr.s1 fr_o rfl
                have g0_27_o2 : o2.1 0 27 = o.1 0 27 := by rw [e_o2]; rfl
                have g0_17_o2 : o2.1 0 17 = o.1 0 17 := by rw [e_o2]; rfl
                refine T_qIn ⟨by omega, by omega⟩ ?_
                refine T_qNm (fun o4 e_o4 => ?_)
                have hB_o4 : BoxM o4 := by rw [e_o4]; exact Box.s1 hB_o2 (show -9 ≤ x2 ∧ x2 ≤ 63 from ⟨by omega, by omega⟩)
                have fr_o4 : Fr [(0, 27), (21, 9999), (22, 9999), (23, 9999), (24, 9999)] o o4 := by rw [e_o4]; exact Fr.s1 fr_o2 rfl
                have g0_27_o4 : o4.1 0 27 = o2.1 0 27 := by rw [e_o4]; rfl
                have g0_17_o4 : o4.1 0 17 = o2.1 0 17 := by rw [e_o4]; rfl
                refine T_qIn ⟨by omega, by omega⟩ ?_
                refine T_qZ (by omega) ?_
                refine T_qNm (fun o7 e_o7 => ?_)
                have hB_o7 : BoxM o7 := by rw [e_o7]; exact Box.s1 hB_o4 (show 0 ≤ x3 ∧ x3 ≤ 1 from ⟨by omega, by omega⟩)
                have fr_o7 : Fr [(0, 27), (21, 9999), (22, 9999), (23, 9999), (24, 9999)] o o7 := by rw [e_o7]; exact Fr.s1 fr_o4 rfl
                have g0_27_o7 : o7.1 0 27 = o4.1 0 27 := by rw [e_o7]; rfl
                have g0_17_o7 : o7.1 0 17 = o4.1 0 17 := by rw [e_o7]; rfl
                refine T_qIn ⟨by omega, by omega⟩ ?_
                refine T_qNm (fun o9 e_o9 => ?_)
                have hB_o9 : BoxM o9 := by rw [e_o9]; exact Box.s1 hB_o7 (show 0 ≤ x4 ∧ x4 ≤ 9 from ⟨by omega, by omega⟩)
                have fr_o9 : Fr [(0, 27), (21, 9999), (22, 9999), (23, 9999), (24, 9999)] o o9 := by rw [e_o9]; exact Fr.s1 fr_o7 rfl
                have g0_27_o9 : o9.1 0 27 = o7.1 0 27 := by rw [e_o9]; rfl
                have g0_17_o9 : o9.1 0 17 = o7.1 0 17 := by rw [e_o9]; rfl
                refine T_qNm (fun o10 e_o10 => ?_)
                have hB_o10 : BoxM o10 := by rw [e_o10]; exact Box.s1 hB_o9 (show 0 ≤ ((o9.1 0 27) + 1) ∧ ((o9.1 0 27) + 1) ≤ 40 from ⟨by omega, by omega⟩)
                have fr_o10 : Fr [(0, 27), (21, 9999), (22, 9999), (23, 9999), (24, 9999)] o o10 := by rw [e_o10]; exact Fr.s1 fr_o9 rfl
                have g0_27_o10 : o10.1 0 27 = ((o9.1 0 27) + 1) := by rw [e_o10]; rfl
                have g0_17_o10 : o10.1 0 17 = o9.1 0 17 := by rw [e_o10]; rfl
                refine T_some ?_
                show BoxM o10 ∧ (Fr [(0, 27), (21, 9999), (22, 9999), (23, 9999), (24, 9999)] o o10)
                exact ⟨hB_o10, fr_o10⟩
  ·
    refine T_qB (t_X12_isBuilding o x1 hB_o (by omega)) (fun r17 hc_r17 hp17 => ?_)
    replace hp17 : ((r17 = 1 ∧ 0 ≤ x1 ∧ x1 < o.1 0 17) ∨ (r17 = 0 ∧ (x1 < 0 ∨ o.1 0 17 ≤ x1))) := hp17
    refine T_qEq ⟨by omega, by omega⟩ ⟨by decide, by decide⟩ (fun h18 => ?_) (fun h18 => ?_)
    ·
      unfold b_X12_person_38
      refine T_some ?_
      show BoxM o ∧ (Fr [(0, 27), (21, 9999), (22, 9999), (23, 9999), (24, 9999)] o o)
      exact ⟨hB_o, fr_o⟩
    ·
      unfold b_X12_person_14
      refine T_qEq ⟨by omega, by omega⟩ ⟨by decide, by decide⟩ (fun h19 => ?_) (fun h19 => ?_)
      ·
        unfold b_X12_person_27
        refine T_qB (t_X12_in x4 0 9 (by omega) (by omega) (by omega)) (fun r11 hc_r11 hp20 => ?_)
        replace hp20 : ((r11 = 1 ∧ 0 ≤ x4 ∧ x4 ≤ 9) ∨ (r11 = 0 ∧ (x4 < 0 ∨ 9 < x4))) := hp20
        refine T_qEq ⟨by omega, by omega⟩ ⟨by decide, by decide⟩ (fun h21 => ?_) (fun h21 => ?_)
        ·
          unfold b_X12_person_38
          refine T_some ?_
          show BoxM o ∧ (Fr [(0, 27), (21, 9999), (22, 9999), (23, 9999), (24, 9999)] o o)
          exact ⟨hB_o, fr_o⟩
        ·
          refine T_qEq ⟨by omega, by omega⟩ ⟨by decide, by decide⟩ (fun h22 => ?_) (fun h22 => ?_)
          ·
            refine T_some ?_
            show BoxM o ∧ (Fr [(0, 27), (21, 9999), (22, 9999), (23, 9999), (24, 9999)] o o)
            exact ⟨hB_o, fr_o⟩
          ·
            refine T_qEq ⟨by omega, by omega⟩ ⟨by decide, by decide⟩ (fun h23 => ?_) (fun h23 => ?_)
            ·
              unfold b_X12_person_69
              refine T_qIn ⟨by omega, by omega⟩ ?_
              refine T_qNm (fun o2 e_o2 => ?_)
              have hB_o2 : BoxM o2 := by rw [e_o2]; exact Box.s1 hB_o (show -9 ≤ x1 ∧ x1 ≤ 31 from ⟨by omega, by omega⟩)
              have fr_o2 : Fr [(0, 27), (21, 9999), (22, 9999), (23, 9999), (24, 9999)] o o2 := by rw [e_o2]; exact Fr.s1 fr_o rfl
              have g0_27_o2 : o2.1 0 27 = o.1 0 27 := by rw [e_o2]; rfl
              have g0_17_o2 : o2.1 0 17 = o.1 0 17 := by rw [e_o2]; rfl
              refine T_qIn ⟨by omega, by omega⟩ ?_
              refine T_qNm (fun o4 e_o4 => ?_)
              have hB_o4 : BoxM o4 := by rw [e_o4]; exact Box.s1 hB_o2 (show -9 ≤ x2 ∧ x2 ≤ 63 from ⟨by omega, by omega⟩)
              have fr_o4 : Fr [(0, 27), (21, 9999), (22, 9999), (23, 9999), (24, 9999)] o o4 := by rw [e_o4]; exact Fr.s1 fr_o2 rfl
              have g0_27_o4 : o4.1 0 27 = o2.1 0 27 := by rw [e_o4]; rfl
              have g0_17_o4 : o4.1 0 17 = o2.1 0 17 := by rw [e_o4]; rfl
              refine T_qIn ⟨by omega, by omega⟩ ?_
              refine T_qZ (by omega) ?_
              refine T_qNm (fun o7 e_o7 => ?_)
              have hB_o7 : BoxM o7 := by rw [e_o7]; exact Box.s1 hB_o4 (show 0 ≤ x3 ∧ x3 ≤ 1 from ⟨by omega, by omega⟩)
              have fr_o7 : Fr [(0, 27), (21, 9999), (22, 9999), (23, 9999), (24, 9999)] o o7 := by rw [e_o7]; exact Fr.s1 fr_o4 rfl
              have g0_27_o7 : o7.1 0 27 = o4.1 0 27 := by rw [e_o7]; rfl
              have g0_17_o7 : o7.1 0 17 = o4.1 0 17 := by rw [e_o7]; rfl
              refine T_qIn ⟨by omega, by omega⟩ ?_
              refine T_qNm (fun o9 e_o9 => ?_)
              have hB_o9 : BoxM o9 := by rw [e_o9]; exact Box.s1 hB_o7 (show 0 ≤ x4 ∧ x4 ≤ 9 from ⟨by omega, by omega⟩)
              have fr_o9 : Fr [(0, 27), (21, 9999), (22, 9999), (23, 9999), (24, 9999)] o o9 := by rw [e_o9]; exact Fr.s1 fr_o7 rfl
              have g0_27_o9 : o9.1 0 27 = o7.1 0 27 := by rw [e_o9]; rfl
              have g0_17_o9 : o9.1 0 17 = o7.1 0 17 := by rw [e_o9]; rfl
              refine T_qNm (fun o10 e_o10 => ?_)
              have hB_o10 : BoxM o10 := by rw [e_o10]; exact Box.s1 hB_o9 (show 0 ≤ ((o9.1 0 27) + 1) ∧ ((o9.1 0 27) + 1) ≤ 40 from ⟨by omega, by omega⟩)
              have fr_o10 : Fr [(0, 27), (21, 9999), (22, 9999), (23, 9999), (24, 9999)] o o10 := by rw [e_o10]; exact Fr.s1 fr_o9 rfl
              have g0_27_o10 : o10.1 0 27 = ((o9.1 0 27) + 1) := by rw [e_o10]; rfl
              have g0_17_o10 : o10.1 0 17 = o9.1 0 17 := by rw [e_o10]; rfl
              refine T_some ?_
              show BoxM o10 ∧ (Fr [(0, 27), (21, 9999), (22, 9999), (23, 9999), (24, 9999)] o o10)
              exact ⟨hB_o10, fr_o10⟩
            ·
              refine T_qB (t_X12_hasRoom o x1 hB_o (by omega)) (fun r13 hc_r13 hp24 => ?_)
              replace hp24 : (0 ≤ r13 ∧ r13 ≤ 1) := hp24
              refine T_qEq ⟨by omega, by omega⟩ ⟨by decide, by decide⟩ (fun h25 => ?_) (fun h25 => ?_)
              ·
                refine T_some ?_
                show BoxM o ∧ (Fr [(0, 27), (21, 9999), (22, 9999), (23, 9999), (24, 9999)] o o)
                exact ⟨hB_o, fr_o⟩
              ·
                unfold b_X12_person_69
                refine T_qIn ⟨by omega, by omega⟩ ?_
                refine T_qNm (fun o2 e_o2 => ?_)
                have hB_o2 : BoxM o2 := by rw [e_o2]; exact Box.s1 hB_o (show -9 ≤ x1 ∧ x1 ≤ 31 from ⟨by omega, by omega⟩)
                have fr_o2 : Fr [(0, 27), (21, 9999), (22, 9999), (23, 9999), (24, 9999)] o o2 := by rw [e_o2]; exact Fr.s1 fr_o rfl
                have g0_27_o2 : o2.1 0 27 = o.1 0 27 := by rw [e_o2]; rfl
                have g0_17_o2 : o2.1 0 17 = o.1 0 17 := by rw [e_o2]; rfl
                refine T_qIn ⟨by omega, by omega⟩ ?_
                refine T_qNm (fun o4 e_o4 => ?_)
                have hB_o4 : BoxM o4 := by rw [e_o4]; exact Box.s1 hB_o2 (show -9 ≤ x2 ∧ x2 ≤ 63 from ⟨by omega, by omega⟩)
                have fr_o4 : Fr [(0, 27), (21, 9999), (22, 9999), (23, 9999), (24, 9999)] o o4 := by rw [e_o4]; exact Fr.s1 fr_o2 rfl
                have g0_27_o4 : o4.1 0 27 = o2.1 0 27 := by rw [e_o4]; rfl
                have g0_17_o4 : o4.1 0 17 = o2.1 0 17 := by rw [e_o4]; rfl
                refine T_qIn ⟨by omega, by omega⟩ ?_
                refine T_qZ (by omega) ?_
                refine T_qNm (fun o7 e_o7 => ?_)
                have hB_o7 : BoxM o7 := by rw [e_o7]; exact Box.s1 hB_o4 (show 0 ≤ x3 ∧ x3 ≤ 1 from ⟨by omega, by omega⟩)
                have fr_o7 : Fr [(0, 27), (21, 9999), (22, 9999), (23, 9999), (24, 9999)] o o7 := by rw [e_o7]; exact Fr.s1 fr_o4 rfl
                have g0_27_o7 : o7.1 0 27 = o4.1 0 27 := by rw [e_o7]; rfl
                have g0_17_o7 : o7.1 0 17 = o4.1 0 17 := by rw [e_o7]; rfl
                refine T_qIn ⟨by omega, by omega⟩ ?_
                refine T_qNm (fun o9 e_o9 => ?_)
                have hB_o9 : BoxM o9 := by rw [e_o9]; exact Box.s1 hB_o7 (show 0 ≤ x4 ∧ x4 ≤ 9 from ⟨by omega, by omega⟩)
                have fr_o9 : Fr [(0, 27), (21, 9999), (22, 9999), (23, 9999), (24, 9999)] o o9 := by rw [e_o9]; exact Fr.s1 fr_o7 rfl
                have g0_27_o9 : o9.1 0 27 = o7.1 0 27 := by rw [e_o9]; rfl
                have g0_17_o9 : o9.1 0 17 = o7.1 0 17 := by rw [e_o9]; rfl
                refine T_qNm (fun o10 e_o10 => ?_)
                have hB_o10 : BoxM o10 := by rw [e_o10]; exact Box.s1 hB_o9 (show 0 ≤ ((o9.1 0 27) + 1) ∧ ((o9.1 0 27) + 1) ≤ 40 from ⟨by omega, by omega⟩)
                have fr_o10 : Fr [(0, 27), (21, 9999), (22, 9999), (23, 9999), (24, 9999)] o o10 := by rw [e_o10]; exact Fr.s1 fr_o9 rfl
                have g0_27_o10 : o10.1 0 27 = ((o9.1 0 27) + 1) := by rw [e_o10]; rfl
                have g0_17_o10 : o10.1 0 17 = o9.1 0 17 := by rw [e_o10]; rfl
                refine T_some ?_
                show BoxM o10 ∧ (Fr [(0, 27), (21, 9999), (22, 9999), (23, 9999), (24, 9999)] o o10)
                exact ⟨hB_o10, fr_o10⟩
      ·
        refine T_qB (t_X12_isCell x2 (by omega)) (fun r15 hc_r15 hp26 => ?_)
        replace hp26 : ((r15 = 1 ∧ 0 ≤ x2 ∧ x2 ≤ 63) ∨ (r15 = 0 ∧ (x2 < 0 ∨ 63 < x2))) := hp26
        refine T_qEq ⟨by omega, by omega⟩ ⟨by decide, by decide⟩ (fun h27 => ?_) (fun h27 => ?_)
        ·
          unfold b_X12_person_38
          refine T_some ?_
          show BoxM o ∧ (Fr [(0, 27), (21, 9999), (22, 9999), (23, 9999), (24, 9999)] o o)
          exact ⟨hB_o, fr_o⟩
        ·
          unfold b_X12_person_27
          refine T_qB (t_X12_in x4 0 9 (by omega) (by omega) (by omega)) (fun r11 hc_r11 hp28 => ?_)
          replace hp28 : ((r11 = 1 ∧ 0 ≤ x4 ∧ x4 ≤ 9) ∨ (r11 = 0 ∧ (x4 < 0 ∨ 9 < x4))) := hp28
          refine T_qEq ⟨by omega, by omega⟩ ⟨by decide, by decide⟩ (fun h29 => ?_) (fun h29 => ?_)
          ·
            unfold b_X12_person_38
            refine T_some ?_
            show BoxM o ∧ (Fr [(0, 27), (21, 9999), (22, 9999), (23, 9999), (24, 9999)] o o)
            exact ⟨hB_o, fr_o⟩
          ·
            refine T_qEq ⟨by omega, by omega⟩ ⟨by decide, by decide⟩ (fun h30 => ?_) (fun h30 => ?_)
            ·
              refine T_some ?_
              show BoxM o ∧ (Fr [(0, 27), (21, 9999), (22, 9999), (23, 9999), (24, 9999)] o o)
              exact ⟨hB_o, fr_o⟩
            ·
              refine T_qEq ⟨by omega, by omega⟩ ⟨by decide, by decide⟩ (fun h31 => ?_) (fun h31 => ?_)
              ·
                unfold b_X12_person_69
                refine T_qIn ⟨by omega, by omega⟩ ?_
                refine T_qNm (fun o2 e_o2 => ?_)
                have hB_o2 : BoxM o2 := by rw [e_o2]; exact Box.s1 hB_o (show -9 ≤ x1 ∧ x1 ≤ 31 from ⟨by omega, by omega⟩)
                have fr_o2 : Fr [(0, 27), (21, 9999), (22, 9999), (23, 9999), (24, 9999)] o o2 := by rw [e_o2]; exact Fr.s1 fr_o rfl
                have g0_27_o2 : o2.1 0 27 = o.1 0 27 := by rw [e_o2]; rfl
                have g0_17_o2 : o2.1 0 17 = o.1 0 17 := by rw [e_o2]; rfl
                refine T_qIn ⟨by omega, by omega⟩ ?_
                refine T_qNm (fun o4 e_o4 => ?_)
                have hB_o4 : BoxM o4 := by rw [e_o4]; exact Box.s1 hB_o2 (show -9 ≤ x2 ∧ x2 ≤ 63 from ⟨by omega, by omega⟩)
                have fr_o4 : Fr [(0, 27), (21, 9999), (22, 9999), (23, 9999), (24, 9999)] o o4 := by rw [e_o4]; exact Fr.s1 fr_o2 rfl
                have g0_27_o4 : o4.1 0 27 = o2.1 0 27 := by rw [e_o4]; rfl
                have g0_17_o4 : o4.1 0 17 = o2.1 0 17 := by rw [e_o4]; rfl
                refine T_qIn ⟨by omega, by omega⟩ ?_
                refine T_qZ (by omega) ?_
                refine T_qNm (fun o7 e_o7 => ?_)
                have hB_o7 : BoxM o7 := by rw [e_o7]; exact Box.s1 hB_o4 (show 0 ≤ x3 ∧ x3 ≤ 1 from ⟨by omega, by omega⟩)
                have fr_o7 : Fr [(0, 27), (21, 9999), (22, 9999), (23, 9999), (24, 9999)] o o7 := by rw [e_o7]; exact Fr.s1 fr_o4 rfl
                have g0_27_o7 : o7.1 0 27 = o4.1 0 27 := by rw [e_o7]; rfl
                have g0_17_o7 : o7.1 0 17 = o4.1 0 17 := by rw [e_o7]; rfl
                refine T_qIn ⟨by omega, by omega⟩ ?_
                refine T_qNm (fun o9 e_o9 => ?_)
                have hB_o9 : BoxM o9 := by rw [e_o9]; exact Box.s1 hB_o7 (show 0 ≤ x4 ∧ x4 ≤ 9 from ⟨by omega, by omega⟩)
                have fr_o9 : Fr [(0, 27), (21, 9999), (22, 9999), (23, 9999), (24, 9999)] o o9 := by rw [e_o9]; exact Fr.s1 fr_o7 rfl
                have g0_27_o9 : o9.1 0 27 = o7.1 0 27 := by rw [e_o9]; rfl
                have g0_17_o9 : o9.1 0 17 = o7.1 0 17 := by rw [e_o9]; rfl
                refine T_qNm (fun o10 e_o10 => ?_)
                have hB_o10 : BoxM o10 := by rw [e_o10]; exact Box.s1 hB_o9 (show 0 ≤ ((o9.1 0 27) + 1) ∧ ((o9.1 0 27) + 1) ≤ 40 from ⟨by omega, by omega⟩)
                have fr_o10 : Fr [(0, 27), (21, 9999), (22, 9999), (23, 9999), (24, 9999)] o o10 := by rw [e_o10]; exact Fr.s1 fr_o9 rfl
                have g0_27_o10 : o10.1 0 27 = ((o9.1 0 27) + 1) := by rw [e_o10]; rfl
                have g0_17_o10 : o10.1 0 17 = o9.1 0 17 := by rw [e_o10]; rfl
                refine T_some ?_
                show BoxM o10 ∧ (Fr [(0, 27), (21, 9999), (22, 9999), (23, 9999), (24, 9999)] o o10)
                exact ⟨hB_o10, fr_o10⟩
              ·
                refine T_qB (t_X12_hasRoom o x1 hB_o (by omega)) (fun r13 hc_r13 hp32 => ?_)
                replace hp32 : (0 ≤ r13 ∧ r13 ≤ 1) := hp32
                refine T_qEq ⟨by omega, by omega⟩ ⟨by decide, by decide⟩ (fun h33 => ?_) (fun h33 => ?_)
                ·
                  refine T_some ?_
                  show BoxM o ∧ (Fr [(0, 27), (21, 9999), (22, 9999), (23, 9999), (24, 9999)] o o)
                  exact ⟨hB_o, fr_o⟩
                ·
                  unfold b_X12_person_69
                  refine T_qIn ⟨by omega, by omega⟩ ?_
                  refine T_qNm (fun o2 e_o2 => ?_)
                  have hB_o2 : BoxM o2 := by rw [e_o2]; exact Box.s1 hB_o (show -9 ≤ x1 ∧ x1 ≤ 31 from ⟨by omega, by omega⟩)
                  have fr_o2 : Fr [(0, 27), (21, 9999), (22, 9999), (23, 9999), (24, 9999)] o o2 := by rw [e_o2]; exact Fr.s1 fr_o rfl
                  have g0_27_o2 : o2.1 0 27 = o.1 0 27 := by rw [e_o2]; rfl
                  have g0_17_o2 : o2.1 0 17 = o.1 0 17 := by rw [e_o2]; rfl
                  refine T_qIn ⟨by omega, by omega⟩ ?_
                  refine T_qNm (fun o4 e_o4 => ?_)
                  have hB_o4 : BoxM o4 := by rw [e_o4]; exact Box.s1 hB_o2 (show -9 ≤ x2 ∧ x2 ≤ 63 from ⟨by omega, by omega⟩)
                  have fr_o4 : Fr [(0, 27), (21, 9999), (22, 9999), (23, 9999), (24, 9999)] o o4 := by rw [e_o4]; exact Fr.s1 fr_o2 rfl
                  have g0_27_o4 : o4.1 0 27 = o2.1 0 27 := by rw [e_o4]; rfl
                  have g0_17_o4 : o4.1 0 17 = o2.1 0 17 := by rw [e_o4]; rfl
                  refine T_qIn ⟨by omega, by omega⟩ ?_
                  refine T_qZ (by omega) ?_
                  refine T_qNm (fun o7 e_o7 => ?_)
                  have hB_o7 : BoxM o7 := by rw [e_o7]; exact Box.s1 hB_o4 (show 0 ≤ x3 ∧ x3 ≤ 1 from ⟨by omega, by omega⟩)
                  have fr_o7 : Fr [(0, 27), (21, 9999), (22, 9999), (23, 9999), (24, 9999)] o o7 := by rw [e_o7]; exact Fr.s1 fr_o4 rfl
                  have g0_27_o7 : o7.1 0 27 = o4.1 0 27 := by rw [e_o7]; rfl
                  have g0_17_o7 : o7.1 0 17 = o4.1 0 17 := by rw [e_o7]; rfl
                  refine T_qIn ⟨by omega, by omega⟩ ?_
                  refine T_qNm (fun o9 e_o9 => ?_)
                  have hB_o9 : BoxM o9 := by rw [e_o9]; exact Box.s1 hB_o7 (show 0 ≤ x4 ∧ x4 ≤ 9 from ⟨by omega, by omega⟩)
                  have fr_o9 : Fr [(0, 27), (21, 9999), (22, 9999), (23, 9999), (24, 9999)] o o9 := by rw [e_o9]; exact Fr.s1 fr_o7 rfl
                  have g0_27_o9 : o9.1 0 27 = o7.1 0 27 := by rw [e_o9]; rfl
                  have g0_17_o9 : o9.1 0 17 = o7.1 0 17 := by rw [e_o9]; rfl
                  refine T_qNm (fun o10 e_o10 => ?_)
                  have hB_o10 : BoxM o10 := by rw [e_o10]; exact Box.s1 hB_o9 (show 0 ≤ ((o9.1 0 27) + 1) ∧ ((o9.1 0 27) + 1) ≤ 40 from ⟨by omega, by omega⟩)
                  have fr_o10 : Fr [(0, 27), (21, 9999), (22, 9999), (23, 9999), (24, 9999)] o o10 := by rw [e_o10]; exact Fr.s1 fr_o9 rfl
                  have g0_27_o10 : o10.1 0 27 = ((o9.1 0 27) + 1) := by rw [e_o10]; rfl
                  have g0_17_o10 : o10.1 0 17 = o9.1 0 17 := by rw [e_o10]; rfl
                  refine T_some ?_
                  show BoxM o10 ∧ (Fr [(0, 27), (21, 9999), (22, 9999), (23, 9999), (24, 9999)] o o10)
                  exact ⟨hB_o10, fr_o10⟩
set_option maxRecDepth 20000 in
set_option maxHeartbeats 4000000 in
theorem t_X12_put (o : OO) (x1 : Int) (x2 : Int) (x3 : Int) (hB_o : BoxM o) (k0 : inR x1) (k1 : inR x2) (k2 : inR x3) : T (s_X12_put o x1 x2 x3) (fun v => BoxM v.2 ∧ (Fr [(0, 0), (1, 9999), (6, 9999)] o v.2)) := by
  have fr_o : Fr [(0, 0), (1, 9999), (6, 9999)] o o := Fr.rf
  have hjb := jb_rng x3
  unfold s_X12_put
  refine T_qB2 (t_X12_askedText o x1 hB_o (by omega)) (fun r1 o3 hc_r1 hp1 => ?_)
  replace hp1 : BoxM o3 ∧ (Fr [(0, 0), (1, 9999)] o o3) ∧ (r1 = -1 ∨ r1 = -3 ∨ (r1 = 0 ∧ 0 ≤ x1 ∧ x1 ≤ 3 ∧ 0 ≤ o3.1 5 x1.toNat)) := hp1
  obtain ⟨hB_o3, fc_o3, hp1⟩ := hp1
  have fr_o3 : Fr [(0, 0), (1, 9999), (6, 9999)] o o3 := Fr.tr fr_o fc_o3 rfl
  refine T_qLt ⟨by omega, by omega⟩ ⟨by decide, by decide⟩ (fun h2 => ?_) (fun h2 => ?_)
  ·
    refine T_some ?_
    show BoxM o3 ∧ (Fr [(0, 0), (1, 9999), (6, 9999)] o o3)
    exact ⟨hB_o3, fr_o3⟩
  ·
    refine T_qIn ⟨by omega, by omega⟩ ?_
    refine T_qNm (fun n5 e_n5 => ?_)
    have b_n5 : -9 ≤ n5 ∧ n5 ≤ 40 := by rw [e_n5]; exact bM_5 hB_o3 _
    refine T_qB (t_X12_in x2 0 (n5 - 1) (by omega) (by omega) (by omega)) (fun r6 hc_r6 hp3 => ?_)
    replace hp3 : ((r6 = 1 ∧ 0 ≤ x2 ∧ x2 ≤ (n5 - 1)) ∨ (r6 = 0 ∧ (x2 < 0 ∨ (n5 - 1) < x2))) := hp3
    refine T_qEq ⟨by omega, by omega⟩ ⟨by decide, by decide⟩ (fun h4 => ?_) (fun h4 => ?_)
    ·
      refine T_qB2 (t_X12_meets o3 2 hB_o3 (by omega)) (fun r12 o14 hc_r12 hp5 => ?_)
      replace hp5 : BoxM o14 ∧ (Fr [(0, 0), (1, 9999)] o3 o14) ∧ (r12 = -3) := hp5
      obtain ⟨hB_o14, fc_o14, hp5⟩ := hp5
      have fr_o14 : Fr [(0, 0), (1, 9999), (6, 9999)] o o14 := Fr.tr fr_o3 fc_o14 rfl
      refine T_some ?_
      show BoxM o14 ∧ (Fr [(0, 0), (1, 9999), (6, 9999)] o o14)
      exact ⟨hB_o14, fr_o14⟩
    ·
      refine T_qIn ⟨by omega, by omega⟩ ?_
      refine T_qNm (fun n9 e_n9 => ?_)
      have b_n9 : -128 ≤ n9 ∧ n9 ≤ 127 := by rw [e_n9]; exact bM_6 hB_o3 _
      refine T_qIn ⟨by omega, by omega⟩ ?_
      refine T_qNm (fun o11 e_o11 => ?_)
      have hB_o11 : BoxM o11 := by rw [e_o11]; exact Box.s1 hB_o3 (show -128 ≤ (jb x3) ∧ (jb x3) ≤ 127 from ⟨by omega, by omega⟩)
      have fr_o11 : Fr [(0, 0), (1, 9999), (6, 9999)] o o11 := by rw [e_o11]; exact Fr.s1 fr_o3 rfl
      refine T_some ?_
      show BoxM o11 ∧ (Fr [(0, 0), (1, 9999), (6, 9999)] o o11)
      exact ⟨hB_o11, fr_o11⟩
set_option maxRecDepth 20000 in
set_option maxHeartbeats 4000000 in
theorem tl_X12_ramp_48 (o : OO) (x1 : Int) (x2 : Int) (i_x3 : Int) (i_x4 : Int) (hB_o : BoxM o) (k0 : inR x1) (k1 : inR x2) (k2 : 0 ≤ x1 ∧ x1 ≤ 23) (k3 : 0 ≤ x2 ∧ x2 ≤ 63) (v0 : 0 ≤ i_x3 ∧ i_x3 ≤ 1) (v1 : 0 ≤ i_x4 ∧ i_x4 ≤ 64) : T (loopW (fun s => l_X12_ramp_48 o x1 x2 s.1 s.2) (i_x3, i_x4)) (fun r => (0 ≤ r ∧ r ≤ 1)) := by
  refine T_loop (fun s => (0 ≤ s.1 ∧ s.1 ≤ 1) ∧ (0 ≤ s.2 ∧ s.2 ≤ 64)) (fun s => (64 - s.2).toNat) (by exact ⟨v0, v1⟩) (fun s hs => ?_)
  obtain ⟨x3, x4⟩ := s
  replace hs : (0 ≤ x3 ∧ x3 ≤ 1) ∧ (0 ≤ x4 ∧ x4 ≤ 64) := hs
  obtain ⟨w0, w1⟩ := hs
  have g0_32_o := bM_0_32 hB_o
  show T (l_X12_ramp_48 o x1 x2 x3 x4) _
  unfold l_X12_ramp_48
  refine T_qIn ⟨by omega, by omega⟩ ?_
  refine T_qNm (fun n17 e_n17 => ?_)
  have b_n17 : 0 ≤ n17 ∧ n17 ≤ 64 := by rw [e_n17]; exact bM_30 hB_o _
  refine T_qLt ⟨by omega, by omega⟩ ⟨by omega, by omega⟩ (fun h1 => ?_) (fun h1 => ?_)
  ·
    refine T_qEq ⟨by omega, by omega⟩ ⟨by decide, by decide⟩ (fun h2 => ?_) (fun h2 => ?_)
    ·
      refine T_qIn ⟨by omega, by omega⟩ ?_
      refine T_qNm (fun n19 e_n19 => ?_)
      have b_n19 : 0 ≤ n19 ∧ n19 ≤ 63 := by rw [e_n19]; exact bM_31 hB_o _
      refine T_qB (t_X12_apart n19 x2 (by omega) (by omega)) (fun r20 hc_r20 hp3 => ?_)
      replace hp3 : (0 ≤ r20 ∧ r20 ≤ 14) := hp3
      refine T_qEq ⟨by omega, by omega⟩ ⟨by decide, by decide⟩ (fun h4 => ?_) (fun h4 => ?_)
      ·
        unfold b_X12_ramp_83
        unfold b_X12_ramp_88
        refine T_some ?_
        show ((0 ≤ 1 ∧ 1 ≤ 1) ∧ (0 ≤ (x4 + 1) ∧ (x4 + 1) ≤ 64)) ∧ (64 - (x4 + 1)).toNat < (64 - x4).toNat
        exact ⟨⟨(by omega), (by omega)⟩, by omega⟩
      ·
        unfold b_X12_ramp_88
        refine T_some ?_
        show ((0 ≤ 0 ∧ 0 ≤ 1) ∧ (0 ≤ (x4 + 1) ∧ (x4 + 1) ≤ 64)) ∧ (64 - (x4 + 1)).toNat < (64 - x4).toNat
        exact ⟨⟨(by omega), (by omega)⟩, by omega⟩
    ·
      unfold b_X12_ramp_83
      unfold b_X12_ramp_88
      refine T_some ?_
      show ((0 ≤ 1 ∧ 1 ≤ 1) ∧ (0 ≤ (x4 + 1) ∧ (x4 + 1) ≤ 64)) ∧ (64 - (x4 + 1)).toNat < (64 - x4).toNat
      exact ⟨⟨(by omega), (by omega)⟩, by omega⟩
  ·
    refine T_some ?_
    show (0 ≤ x3 ∧ x3 ≤ 1)
    exact (by omega)
set_option maxRecDepth 20000 in
set_option maxHeartbeats 4000000 in
theorem t_X12_ramp (o : OO) (x1 : Int) (x2 : Int) (hB_o : BoxM o) (k0 : inR x1) (k1 : inR x2) : T (s_X12_ramp o x1 x2) (fun v => BoxM v.2 ∧ (Fr [(0, 0), (0, 32), (1, 9999), (25, 9999), (26, 9999), (27, 9999), (28, 9999), (29, 9999), (30, 9999), (31, 9999)] o v.2)) := by
  have fr_o : Fr [(0, 0), (0, 32), (1, 9999), (25, 9999), (26, 9999), (27, 9999), (28, 9999), (29, 9999), (30, 9999), (31, 9999)] o o := Fr.rf
  have g0_32_o := bM_0_32 hB_o
  unfold s_X12_ramp
  refine T_qB (t_X12_isMark o x1 hB_o (by omega)) (fun r22 hc_r22 hp5 => ?_)
  replace hp5 : ((r22 = 1 ∧ 0 ≤ x1 ∧ x1 < o.1 0 32) ∨ (r22 = 0 ∧ (x1 < 0 ∨ o.1 0 32 ≤ x1))) := hp5
  refine T_qEq ⟨by omega, by omega⟩ ⟨by decide, by decide⟩ (fun h6 => ?_) (fun h6 => ?_)
  ·
    unfold b_X12_ramp_15
    refine T_some ?_
    show BoxM o ∧ (Fr [(0, 0), (0, 32), (1, 9999), (25, 9999), (26, 9999), (27, 9999), (28, 9999), (29, 9999), (30, 9999), (31, 9999)] o o)
    exact ⟨hB_o, fr_o⟩
  ·
    refine T_qB (t_X12_isCell x2 (by omega)) (fun r24 hc_r24 hp7 => ?_)
    replace hp7 : ((r24 = 1 ∧ 0 ≤ x2 ∧ x2 ≤ 63) ∨ (r24 = 0 ∧ (x2 < 0 ∨ 63 < x2))) := hp7
    refine T_qEq ⟨by omega, by omega⟩ ⟨by decide, by decide⟩ (fun h8 => ?_) (fun h8 => ?_)
    ·
      unfold b_X12_ramp_15
      refine T_some ?_
      show BoxM o ∧ (Fr [(0, 0), (0, 32), (1, 9999), (25, 9999), (26, 9999), (27, 9999), (28, 9999), (29, 9999), (30, 9999), (31, 9999)] o o)
      exact ⟨hB_o, fr_o⟩
    ·
      refine T_qEq ⟨by omega, by omega⟩ ⟨by decide, by decide⟩ (fun h9 => ?_) (fun h9 => ?_)
      ·
        refine T_some ?_
        show BoxM o ∧ (Fr [(0, 0), (0, 32), (1, 9999), (25, 9999), (26, 9999), (27, 9999), (28, 9999), (29, 9999), (30, 9999), (31, 9999)] o o)
        exact ⟨hB_o, fr_o⟩
      ·
        refine T_qB (t_X12_isLine o x1 hB_o (by omega)) (fun r26 hc_r26 hp10 => ?_)
        replace hp10 : (0 ≤ r26 ∧ r26 ≤ 1) := hp10
        refine T_qEq ⟨by omega, by omega⟩ ⟨by decide, by decide⟩ (fun h11 => ?_) (fun h11 => ?_)
        ·
          refine T_qB2 (t_X12_meets o 3 hB_o (by omega)) (fun r28 o30 hc_r28 hp12 => ?_)
          replace hp12 : BoxM o30 ∧ (Fr [(0, 0), (1, 9999)] o o30) ∧ (r28 = -3) := hp12
          obtain ⟨hB_o30, fc_o30, hp12⟩ := hp12
          have fr_o30 : Fr [(0, 0), (0, 32), (1, 9999), (25, 9999), (26, 9999), (27, 9999), (28, 9999), (29, 9999), (30, 9999), (31, 9999)] o o30 := Fr.tr fr_o fc_o30 rfl
          have g0_32_o30 : o30.1 0 32 = o.1 0 32 := fc_o30.1 0 32 rfl
          refine T_some ?_
          show BoxM o30 ∧ (Fr [(0, 0), (0, 32), (1, 9999), (25, 9999), (26, 9999), (27, 9999), (28, 9999), (29, 9999), (30, 9999), (31, 9999)] o o30)
          exact ⟨hB_o30, fr_o30⟩
        ·
          unfold e_X12_ramp_48
          refine T_qB (tl_X12_ramp_48 o x1 x2 0 0 hB_o (by omega) (by omega) (by omega) (by omega) (by omega) (by omega)) (fun r13 hc_r13 hp14 => ?_)
          obtain ⟨x3_15, q_x3_15⟩ : ∃ q, q = r13 := ⟨_, rfl⟩
          subst q_x3_15
          replace hp14 : (0 ≤ x3_15 ∧ x3_15 ≤ 1) := hp14
          show T (b_X12_ramp_95 o x1 x2 x3_15) _
          unfold b_X12_ramp_95
          refine T_qIn ⟨by omega, by omega⟩ ?_
          refine T_qNm (fun n2 e_n2 => ?_)
          have b_n2 : 0 ≤ n2 ∧ n2 ≤ 4 := by rw [e_n2]; exact bM_11 hB_o _
          refine T_qEq ⟨by omega, by omega⟩ ⟨by decide, by decide⟩ (fun h16 => ?_) (fun h16 => ?_)
          ·
            unfold b_X12_ramp_121
            refine T_some ?_
            show BoxM o ∧ (Fr [(0, 0), (0, 32), (1, 9999), (25, 9999), (26, 9999), (27, 9999), (28, 9999), (29, 9999), (30, 9999), (31, 9999)] o o)
            exact ⟨hB_o, fr_o⟩
          ·
            refine T_qEq ⟨by omega, by omega⟩ ⟨by decide, by decide⟩ (fun h17 => ?_) (fun h17 => ?_)
            ·
              unfold b_X12_ramp_121
              refine T_some ?_
              show BoxM o ∧ (Fr [(0, 0), (0, 32), (1, 9999), (25, 9999), (26, 9999), (27, 9999), (28, 9999), (29, 9999), (30, 9999), (31, 9999)] o o)
              exact ⟨hB_o, fr_o⟩
            ·
              refine T_qB (t_X12_cellsOf o x1 hB_o (by omega)) (fun p3 hc_p3 hp18 => ?_)
              refine T_qB (t_X12_has p3 x2 (by omega)) (fun r5 hc_r5 hp19 => ?_)
              replace hp19 : ((r5 = 1 ∧ bt p3 x2.toNat = true) ∨ (r5 = 0 ∧ bt p3 x2.toNat = false)) := hp19
              refine T_qEq ⟨by omega, by omega⟩ ⟨by decide, by decide⟩ (fun h20 => ?_) (fun h20 => ?_)
              ·
                refine T_qB2 (t_X12_enter o 2 x1 hB_o (by omega) (by omega) (by omega)) (fun r7 o9 hc_r7 hp21 => ?_)
                replace hp21 : BoxM o9 ∧ (Fr [(0, 32), (25, 9999), (26, 9999), (27, 9999), (29, 9999), (30, 9999)] o o9) ∧ (r7 = o.1 0 32) ∧ (o9.1 0 32 = o.1 0 32 + 1) := hp21
                obtain ⟨hB_o9, fc_o9, hp21⟩ := hp21
                have fr_o9 : Fr [(0, 0), (0, 32), (1, 9999), (25, 9999), (26, 9999), (27, 9999), (28, 9999), (29, 9999), (30, 9999), (31, 9999)] o o9 := Fr.tr fr_o fc_o9 rfl
                have g0_32_o9 := bM_0_32 hB_o9
                refine T_qIn ⟨by omega, by omega⟩ ?_
                refine T_qNm (fun o11 e_o11 => ?_)
                have hB_o11 : BoxM o11 := by rw [e_o11]; exact Box.s1 hB_o9 (show 0 ≤ 0 ∧ 0 ≤ 1000000 from ⟨by omega, by omega⟩)
                have fr_o11 : Fr [(0, 0), (0, 32), (1, 9999), (25, 9999), (26, 9999), (27, 9999), (28, 9999), (29, 9999), (30, 9999), (31, 9999)] o o11 := by rw [e_o11]; exact Fr.s1 fr_o9 rfl
                have g0_32_o11 : o11.1 0 32 = o9.1 0 32 := by rw [e_o11]; rfl
                refine T_qIn ⟨by omega, by omega⟩ ?_
                refine T_qNm (fun o13 e_o13 => ?_)
                have hB_o13 : BoxM o13 := by rw [e_o13]; exact Box.s1 hB_o11 (show 0 ≤ x2 ∧ x2 ≤ 63 from ⟨by omega, by omega⟩)
                have fr_o13 : Fr [(0, 0), (0, 32), (1, 9999), (25, 9999), (26, 9999), (27, 9999), (28, 9999), (29, 9999), (30, 9999), (31, 9999)] o o13 := by rw [e_o13]; exact Fr.s1 fr_o11 rfl
                have g0_32_o13 : o13.1 0 32 = o11.1 0 32 := by rw [e_o13]; rfl
                refine T_qIn ⟨by omega, by omega⟩ ?_
                refine T_qNm (fun o15 e_o15 => ?_)
                have hB_o15 : BoxM o15 := by rw [e_o15]; exact Box.s1 hB_o13 (show 0 ≤ 1 ∧ 1 ≤ 64 from ⟨by omega, by omega⟩)
                have fr_o15 : Fr [(0, 0), (0, 32), (1, 9999), (25, 9999), (26, 9999), (27, 9999), (28, 9999), (29, 9999), (30, 9999), (31, 9999)] o o15 := by rw [e_o15]; exact Fr.s1 fr_o13 rfl
                have g0_32_o15 : o15.1 0 32 = o13.1 0 32 := by rw [e_o15]; rfl
                refine T_some ?_
                show BoxM o15 ∧ (Fr [(0, 0), (0, 32), (1, 9999), (25, 9999), (26, 9999), (27, 9999), (28, 9999), (29, 9999), (30, 9999), (31, 9999)] o o15)
                exact ⟨hB_o15, fr_o15⟩
              ·
                unfold b_X12_ramp_121
                refine T_some ?_
                show BoxM o ∧ (Fr [(0, 0), (0, 32), (1, 9999), (25, 9999), (26, 9999), (27, 9999), (28, 9999), (29, 9999), (30, 9999), (31, 9999)] o o)
                exact ⟨hB_o, fr_o⟩
set_option maxRecDepth 20000 in
set_option maxHeartbeats 4000000 in
theorem tl_X12_row_34 (x1 : Int) (x2 : Int) (i_o : OO) (i_x3 : Int) (hB_i_o : BoxM i_o) (k0 : inR x1) (k1 : inR x2) (k2 : 0 ≤ x1 ∧ x1 ≤ 5) (v0 : 0 ≤ i_x3 ∧ i_x3 ≤ 40) : T (loopW (fun s => l_X12_row_34 x1 x2 s.1 s.2) (i_o, i_x3)) (fun r => BoxM r ∧ (Fr [(3, 9999)] i_o r)) := by
  have fr_i_o : Fr [(3, 9999)] i_o i_o := Fr.rf
  refine T_loop (fun s => BoxM s.1 ∧ (Fr [(3, 9999)] i_o s.1) ∧ (0 ≤ s.2 ∧ s.2 ≤ 40)) (fun s => (40 - s.2).toNat) (by exact ⟨hB_i_o, fr_i_o, v0⟩) (fun s hs => ?_)
  obtain ⟨o, x3⟩ := s
  replace hs : BoxM o ∧ (Fr [(3, 9999)] i_o o) ∧ (0 ≤ x3 ∧ x3 ≤ 40) := hs
  obtain ⟨hB_o, fr_o, w0⟩ := hs
  show T (l_X12_row_34 x1 x2 o x3) _
  unfold l_X12_row_34
  refine T_qLt ⟨by omega, by omega⟩ ⟨by decide, by decide⟩ (fun h1 => ?_) (fun h1 => ?_)
  ·
    refine T_qIn ⟨by omega, by omega⟩ ?_
    refine T_qNm (fun o2 e_o2 => ?_)
    have hB_o2 : BoxM o2 := by rw [e_o2]; exact Box.s1 hB_o (show -2147483648 ≤ 0 ∧ 0 ≤ 2147483647 from ⟨by omega, by omega⟩)
    have fr_o2 : Fr [(3, 9999)] i_o o2 := by rw [e_o2]; exact Fr.s1 fr_o rfl
    refine T_some ?_
    show (BoxM o2 ∧ (Fr [(3, 9999)] i_o o2) ∧ (0 ≤ (x3 + 1) ∧ (x3 + 1) ≤ 40)) ∧ (40 - (x3 + 1)).toNat < (40 - x3).toNat
    exact ⟨⟨hB_o2, fr_o2, (by omega)⟩, by omega⟩
  ·
    refine T_some ?_
    show BoxM o ∧ (Fr [(3, 9999)] i_o o)
    exact ⟨hB_o, fr_o⟩
set_option maxRecDepth 20000 in
set_option maxHeartbeats 4000000 in
theorem t_X12_row (o : OO) (x1 : Int) (x2 : Int) (hB_o : BoxM o) (k0 : inR x1) (k1 : inR x2) : T (s_X12_row o x1 x2) (fun v => BoxM v.2 ∧ (Fr [(0, 0), (1, 9999), (2, 9999), (3, 9999)] o v.2) ∧ (v.1 = RWA x1 x2)) := by
  have fr_o : Fr [(0, 0), (1, 9999), (2, 9999), (3, 9999)] o o := Fr.rf
  unfold s_X12_row
  refine T_qB (t_X12_isRow x1 (by omega)) (fun r3 hc_r3 hp2 => ?_)
  replace hp2 : ((r3 = 1 ∧ 0 ≤ x1 ∧ x1 ≤ 5) ∨ (r3 = 0 ∧ (x1 < 0 ∨ 5 < x1))) := hp2
  refine T_qEq ⟨by omega, by omega⟩ ⟨by decide, by decide⟩ (fun h3 => ?_) (fun h3 => ?_)
  ·
    unfold b_X12_row_13
    refine T_some ?_
    show BoxM o ∧ (Fr [(0, 0), (1, 9999), (2, 9999), (3, 9999)] o o) ∧ ((-1) = RWA x1 x2)
    exact ⟨hB_o, fr_o, (by unfold RWA; split <;> first | omega | (split <;> first | omega | (split <;> first | omega | (split <;> omega))))⟩
  ·
    refine T_qLt ⟨by decide, by decide⟩ ⟨by omega, by omega⟩ (fun h4 => ?_) (fun h4 => ?_)
    ·
      unfold b_X12_row_13
      refine T_some ?_
      show BoxM o ∧ (Fr [(0, 0), (1, 9999), (2, 9999), (3, 9999)] o o) ∧ ((-1) = RWA x1 x2)
      exact ⟨hB_o, fr_o, (by unfold RWA; split <;> first | omega | (split <;> first | omega | (split <;> first | omega | (split <;> omega))))⟩
    ·
      refine T_qLt ⟨by omega, by omega⟩ ⟨by decide, by decide⟩ (fun h5 => ?_) (fun h5 => ?_)
      ·
        refine T_qB2 (t_X12_meets o 5 hB_o (by omega)) (fun r7 o9 hc_r7 hp6 => ?_)
        replace hp6 : BoxM o9 ∧ (Fr [(0, 0), (1, 9999)] o o9) ∧ (r7 = -3) := hp6
        obtain ⟨hB_o9, fc_o9, hp6⟩ := hp6
        have fr_o9 : Fr [(0, 0), (1, 9999), (2, 9999), (3, 9999)] o o9 := Fr.tr fr_o fc_o9 rfl
        refine T_some ?_
        show BoxM o9 ∧ (Fr [(0, 0), (1, 9999), (2, 9999), (3, 9999)] o o9) ∧ (r7 = RWA x1 x2)
        exact ⟨hB_o9, fr_o9, (by unfold RWA; split <;> first | omega | (split <;> first | omega | (split <;> first | omega | (split <;> omega))))⟩
      ·
        refine T_qIn ⟨by omega, by omega⟩ ?_
        refine T_qNm (fun o6 e_o6 => ?_)
        have hB_o6 : BoxM o6 := by rw [e_o6]; exact Box.s1 hB_o (show -9 ≤ x2 ∧ x2 ≤ 40 from ⟨by omega, by omega⟩)
        have fr_o6 : Fr [(0, 0), (1, 9999), (2, 9999), (3, 9999)] o o6 := by rw [e_o6]; exact Fr.s1 fr_o rfl
        unfold e_X12_row_34
        refine T_qB (tl_X12_row_34 x1 x2 o6 0 hB_o6 (by omega) (by omega) (by omega) (by omega)) (fun r7 hc_r7 hp8 => ?_)
        obtain ⟨o_9, q_o_9⟩ : ∃ q, q = r7 := ⟨_, rfl⟩
        subst q_o_9
        replace hp8 : BoxM o_9 ∧ (Fr [(3, 9999)] o6 o_9) := hp8
        have hps_hp8 := hp8
        obtain ⟨hp8_0, hp8_1⟩ := hps_hp8
        obtain ⟨hB_o_9, fc_o_9⟩ := hp8
        have fr_o_9 : Fr [(0, 0), (1, 9999), (2, 9999), (3, 9999)] o o_9 := Fr.tr fr_o6 fc_o_9 rfl
        show T (b_X12_row_58 o_9 x2) _
        unfold b_X12_row_58
        refine T_some ?_
        show BoxM o_9 ∧ (Fr [(0, 0), (1, 9999), (2, 9999), (3, 9999)] o o_9) ∧ (x2 = RWA x1 x2)
        exact ⟨hB_o_9, fr_o_9, (by unfold RWA; split <;> first | omega | (split <;> first | omega | (split <;> first | omega | (split <;> omega))))⟩
set_option maxRecDepth 20000 in
set_option maxHeartbeats 4000000 in
theorem tl_X12_rule_81  (i_o : OO) (i_x3 : Int) (hB_i_o : BoxM i_o) (k0 : i_o.1 0 10 ≤ 15) (v0 : 0 ≤ i_x3 ∧ i_x3 ≤ 8) : T (loopW (fun s => l_X12_rule_81 s.1 s.2) (i_o, i_x3)) (fun r => BoxM r ∧ (Fr [(9, 9999)] i_o r)) := by
  have fr_i_o : Fr [(9, 9999)] i_o i_o := Fr.rf
  refine T_loop (fun s => BoxM s.1 ∧ (Fr [(9, 9999)] i_o s.1) ∧ (0 ≤ s.2 ∧ s.2 ≤ 8)) (fun s => (8 - s.2).toNat) (by exact ⟨hB_i_o, fr_i_o, v0⟩) (fun s hs => ?_)
  obtain ⟨o, x3⟩ := s
  replace hs : BoxM o ∧ (Fr [(9, 9999)] i_o o) ∧ (0 ≤ x3 ∧ x3 ≤ 8) := hs
  obtain ⟨hB_o, fr_o, w0⟩ := hs
  have g0_10_i := bM_0_10 hB_i_o
  have g0_10_o : o.1 0 10 = i_o.1 0 10 := fr_o.1 0 10 rfl
  have g0_4_i := bM_0_4 hB_i_o
  have g0_4_o : o.1 0 4 = i_o.1 0 4 := fr_o.1 0 4 rfl
  show T (l_X12_rule_81 o x3) _
  unfold l_X12_rule_81
  refine T_qLt ⟨by omega, by omega⟩ ⟨by decide, by decide⟩ (fun h1 => ?_) (fun h1 => ?_)
  ·
    refine T_qIn ⟨by omega, by omega⟩ ?_
    refine T_qNm (fun n3 e_n3 => ?_)
    have b_n3 : -9 ≤ n3 ∧ n3 ≤ 9999 := by rw [e_n3]; exact bM_10 hB_o _
    refine T_qIn ⟨by omega, by omega⟩ ?_
    refine T_qNm (fun o5 e_o5 => ?_)
    have hB_o5 : BoxM o5 := by rw [e_o5]; exact Box.s1 hB_o (show -9 ≤ n3 ∧ n3 ≤ 9999 from ⟨by omega, by omega⟩)
    have fr_o5 : Fr [(9, 9999)] i_o o5 := by rw [e_o5]; exact Fr.s1 fr_o rfl
    have g0_10_o5 : o5.1 0 10 = o.1 0 10 := by rw [e_o5]; rfl
    have g0_4_o5 : o5.1 0 4 = o.1 0 4 := by rw [e_o5]; rfl
    refine T_some ?_
    show (BoxM o5 ∧ (Fr [(9, 9999)] i_o o5) ∧ (0 ≤ (x3 + 1) ∧ (x3 + 1) ≤ 8)) ∧ (8 - (x3 + 1)).toNat < (8 - x3).toNat
    exact ⟨⟨hB_o5, fr_o5, (by omega)⟩, by omega⟩
  ·
    refine T_some ?_
    show BoxM o ∧ (Fr [(9, 9999)] i_o o)
    exact ⟨hB_o, fr_o⟩
set_option maxRecDepth 20000 in
set_option maxHeartbeats 4000000 in
theorem t_X12_rule (o : OO) (x1 : Int) (x2 : Int) (hB_o : BoxM o) (k0 : inR x1) (k1 : inR x2) : T (s_X12_rule o x1 x2) (fun v => BoxM v.2 ∧ (Fr [(0, 0), (0, 10), (1, 9999), (7, 9999), (8, 9999), (9, 9999), (10, 9999)] o v.2)) := by
  have fr_o : Fr [(0, 0), (0, 10), (1, 9999), (7, 9999), (8, 9999), (9, 9999), (10, 9999)] o o := Fr.rf
  have g0_10_o := bM_0_10 hB_o
  have g0_4_o := bM_0_4 hB_o
  unfold s_X12_rule
  refine T_qB (t_X12_isText x1 (by omega)) (fun r6 hc_r6 hp2 => ?_)
  replace hp2 : ((r6 = 1 ∧ 0 ≤ x1 ∧ x1 ≤ 3) ∨ (r6 = 0 ∧ (x1 < 0 ∨ 3 < x1))) := hp2
  refine T_qEq ⟨by omega, by omega⟩ ⟨by decide, by decide⟩ (fun h3 => ?_) (fun h3 => ?_)
  ·
    unfold b_X12_rule_14
    refine T_some ?_
    show BoxM o ∧ (Fr [(0, 0), (0, 10), (1, 9999), (7, 9999), (8, 9999), (9, 9999), (10, 9999)] o o)
    exact ⟨hB_o, fr_o⟩
  ·
    refine T_qB (t_X12_isDay x2 (by omega)) (fun r8 hc_r8 hp4 => ?_)
    replace hp4 : ((r8 = 1 ∧ 0 ≤ x2 ∧ x2 ≤ 999) ∨ (r8 = 0 ∧ (x2 < 0 ∨ 999 < x2))) := hp4
    refine T_qEq ⟨by omega, by omega⟩ ⟨by decide, by decide⟩ (fun h5 => ?_) (fun h5 => ?_)
    ·
      unfold b_X12_rule_14
      refine T_some ?_
      show BoxM o ∧ (Fr [(0, 0), (0, 10), (1, 9999), (7, 9999), (8, 9999), (9, 9999), (10, 9999)] o o)
      exact ⟨hB_o, fr_o⟩
    ·
      refine T_qEq ⟨by omega, by omega⟩ ⟨by decide, by decide⟩ (fun h6 => ?_) (fun h6 => ?_)
      ·
        refine T_some ?_
        show BoxM o ∧ (Fr [(0, 0), (0, 10), (1, 9999), (7, 9999), (8, 9999), (9, 9999), (10, 9999)] o o)
        exact ⟨hB_o, fr_o⟩
      ·
        refine T_qIn ⟨by omega, by omega⟩ ?_
        refine T_qNm (fun n11 e_n11 => ?_)
        have b_n11 : -9 ≤ n11 ∧ n11 ≤ 40 := by rw [e_n11]; exact bM_5 hB_o _
        refine T_qLt ⟨by omega, by omega⟩ ⟨by decide, by decide⟩ (fun h7 => ?_) (fun h7 => ?_)
        ·
          refine T_qB2 (t_X12_meets o 1 hB_o (by omega)) (fun r19 o21 hc_r19 hp8 => ?_)
          replace hp8 : BoxM o21 ∧ (Fr [(0, 0), (1, 9999)] o o21) ∧ (r19 = -3) := hp8
          obtain ⟨hB_o21, fc_o21, hp8⟩ := hp8
          have fr_o21 : Fr [(0, 0), (0, 10), (1, 9999), (7, 9999), (8, 9999), (9, 9999), (10, 9999)] o o21 := Fr.tr fr_o fc_o21 rfl
          have g0_10_o21 : o21.1 0 10 = o.1 0 10 := fc_o21.1 0 10 rfl
          have g0_4_o21 : o21.1 0 4 = o.1 0 4 := fc_o21.1 0 4 rfl
          refine T_some ?_
          show BoxM o21 ∧ (Fr [(0, 0), (0, 10), (1, 9999), (7, 9999), (8, 9999), (9, 9999), (10, 9999)] o o21)
          exact ⟨hB_o21, fr_o21⟩
        ·
          refine T_qB2 (t_X12_reads o x1 hB_o (by omega)) (fun r12 o14 hc_r12 hp9 => ?_)
          replace hp9 : BoxM o14 ∧ (Fr [(10, 9999)] o o14) ∧ (-9 ≤ r12 ∧ r12 ≤ 40) := hp9
          obtain ⟨hB_o14, fc_o14, hp9⟩ := hp9
          have fr_o14 : Fr [(0, 0), (0, 10), (1, 9999), (7, 9999), (8, 9999), (9, 9999), (10, 9999)] o o14 := Fr.tr fr_o fc_o14 rfl
          have g0_10_o14 : o14.1 0 10 = o.1 0 10 := fc_o14.1 0 10 rfl
          have g0_4_o14 : o14.1 0 4 = o.1 0 4 := fc_o14.1 0 4 rfl
          refine T_qEq ⟨by omega, by omega⟩ ⟨by decide, by decide⟩ (fun h10 => ?_) (fun h10 => ?_)
          ·
            refine T_qIn ⟨by omega, by omega⟩ ?_
            refine T_qNm (fun o16 e_o16 => ?_)
            have hB_o16 : BoxM o16 := by rw [e_o16]; exact Box.s1 hB_o14 (show 0 ≤ (o14.1 0 4) ∧ (o14.1 0 4) ≤ 999 from ⟨by omega, by omega⟩)
            have fr_o16 : Fr [(0, 0), (0, 10), (1, 9999), (7, 9999), (8, 9999), (9, 9999), (10, 9999)] o o16 := by rw [e_o16]; exact Fr.s1 fr_o14 rfl
            have g0_10_o16 : o16.1 0 10 = o14.1 0 10 := by rw [e_o16]; rfl
            have g0_4_o16 : o16.1 0 4 = o14.1 0 4 := by rw [e_o16]; rfl
            refine T_qIn ⟨by omega, by omega⟩ ?_
            refine T_qNm (fun o18 e_o18 => ?_)
            have hB_o18 : BoxM o18 := by rw [e_o18]; exact Box.s1 hB_o16 (show 0 ≤ x2 ∧ x2 ≤ 999 from ⟨by omega, by omega⟩)
            have fr_o18 : Fr [(0, 0), (0, 10), (1, 9999), (7, 9999), (8, 9999), (9, 9999), (10, 9999)] o o18 := by rw [e_o18]; exact Fr.s1 fr_o16 rfl
            have g0_10_o18 : o18.1 0 10 = o16.1 0 10 := by rw [e_o18]; rfl
            have g0_4_o18 : o18.1 0 4 = o16.1 0 4 := by rw [e_o18]; rfl
            unfold e_X12_rule_81
            refine T_qB (tl_X12_rule_81 o18 0 hB_o18 (by omega) (by omega)) (fun r11 hc_r11 hp12 => ?_)
            obtain ⟨o_13, q_o_13⟩ : ∃ q, q = r11 := ⟨_, rfl⟩
            subst q_o_13
            replace hp12 : BoxM o_13 ∧ (Fr [(9, 9999)] o18 o_13) := hp12
            have hps_hp12 := hp12
            obtain ⟨hp12_0, hp12_1⟩ := hps_hp12
            obtain ⟨hB_o_13, fc_o_13⟩ := hp12
            have fr_o_13 : Fr [(0, 0), (0, 10), (1, 9999), (7, 9999), (8, 9999), (9, 9999), (10, 9999)] o o_13 := Fr.tr fr_o18 fc_o_13 rfl
            have g0_10_o_13 : o_13.1 0 10 = o18.1 0 10 := fc_o_13.1 0 10 rfl
            have g0_4_o_13 : o_13.1 0 4 = o18.1 0 4 := fc_o_13.1 0 4 rfl
            show T (b_X12_rule_113 o_13) _
            unfold b_X12_rule_113
            refine T_qNm (fun o1 e_o1 => ?_)
            have hB_o1 : BoxM o1 := by rw [e_o1]; exact Box.s1 hB_o_13 (show 0 ≤ ((o_13.1 0 10) + 1) ∧ ((o_13.1 0 10) + 1) ≤ 16 from ⟨by omega, by omega⟩)
            have fr_o1 : Fr [(0, 0), (0, 10), (1, 9999), (7, 9999), (8, 9999), (9, 9999), (10, 9999)] o o1 := by rw [e_o1]; exact Fr.s1 fr_o_13 rfl
            have g0_10_o1 : o1.1 0 10 = ((o_13.1 0 10) + 1) := by rw [e_o1]; rfl
            have g0_4_o1 : o1.1 0 4 = o_13.1 0 4 := by rw [e_o1]; rfl
            refine T_some ?_
            show BoxM o1 ∧ (Fr [(0, 0), (0, 10), (1, 9999), (7, 9999), (8, 9999), (9, 9999), (10, 9999)] o o1)
            exact ⟨hB_o1, fr_o1⟩
          ·
            refine T_some ?_
            show BoxM o14 ∧ (Fr [(0, 0), (0, 10), (1, 9999), (7, 9999), (8, 9999), (9, 9999), (10, 9999)] o o14)
            exact ⟨hB_o14, fr_o14⟩
set_option maxRecDepth 20000 in
set_option maxHeartbeats 4000000 in
theorem t_X12_set (o : OO) (hB_o : BoxM o) : T (s_X12_set o) (fun _ => True) := by
  unfold s_X12_set
  refine T_some ?_
  show True
  exact trivial
set_option maxRecDepth 20000 in
set_option maxHeartbeats 4000000 in
theorem tl_X12_isNear_5 (o : OO) (x1 : Int) (x2 : Int) (i_x3 : Int) (i_x4 : Int) (hB_o : BoxM o) (k0 : 0 ≤ x1 ∧ x1 ≤ 23) (k1 : 0 ≤ x2 ∧ x2 ≤ 63) (v0 : 0 ≤ i_x3 ∧ i_x3 ≤ 1) (v1 : 0 ≤ i_x4 ∧ i_x4 ≤ 64) : T (loopW (fun s => l_X12_isNear_5 o x1 x2 s.1 s.2) (i_x3, i_x4)) (fun r => (0 ≤ r ∧ r ≤ 1)) := by
  refine T_loop (fun s => (0 ≤ s.1 ∧ s.1 ≤ 1) ∧ (0 ≤ s.2 ∧ s.2 ≤ 64)) (fun s => (64 - s.2).toNat) (by exact ⟨v0, v1⟩) (fun s hs => ?_)
  obtain ⟨x3, x4⟩ := s
  replace hs : (0 ≤ x3 ∧ x3 ≤ 1) ∧ (0 ≤ x4 ∧ x4 ≤ 64) := hs
  obtain ⟨w0, w1⟩ := hs
  show T (l_X12_isNear_5 o x1 x2 x3 x4) _
  unfold l_X12_isNear_5
  refine T_qIn ⟨by omega, by omega⟩ ?_
  refine T_qNm (fun n2 e_n2 => ?_)
  have b_n2 : 0 ≤ n2 ∧ n2 ≤ 64 := by rw [e_n2]; exact bM_30 hB_o _
  refine T_qLt ⟨by omega, by omega⟩ ⟨by omega, by omega⟩ (fun h1 => ?_) (fun h1 => ?_)
  ·
    refine T_qIn ⟨by omega, by omega⟩ ?_
    refine T_qNm (fun n4 e_n4 => ?_)
    have b_n4 : 0 ≤ n4 ∧ n4 ≤ 63 := by rw [e_n4]; exact bM_31 hB_o _
    refine T_qEq ⟨by omega, by omega⟩ ⟨by decide, by decide⟩ (fun h2 => ?_) (fun h2 => ?_)
    ·
      refine T_qDv ⟨⟨by omega, by omega⟩, ⟨by decide, by decide⟩, by decide⟩ ?_
      have jd3 : jq x2 8 = x2 / 8 := jq_nn (by omega)
      refine T_qDv ⟨⟨by omega, by omega⟩, ⟨by decide, by decide⟩, by decide⟩ ?_
      have jd4 : jq n4 8 = n4 / 8 := jq_nn (by omega)
      refine T_qB (t_X12_in ((x2 - jq x2 8 * 8) - (n4 - jq n4 8 * 8)) (-2) 2 (by omega) (by omega) (by omega)) (fun r7 hc_r7 hp5 => ?_)
      replace hp5 : ((r7 = 1 ∧ (-2) ≤ ((x2 - jq x2 8 * 8) - (n4 - jq n4 8 * 8)) ∧ ((x2 - jq x2 8 * 8) - (n4 - jq n4 8 * 8)) ≤ 2) ∨ (r7 = 0 ∧ (((x2 - jq x2 8 * 8) - (n4 - jq n4 8 * 8)) < (-2) ∨ 2 < ((x2 - jq x2 8 * 8) - (n4 - jq n4 8 * 8))))) := hp5
      refine T_qEq ⟨by omega, by omega⟩ ⟨by decide, by decide⟩ (fun h6 => ?_) (fun h6 => ?_)
      ·
        unfold b_X12_isNear_76
        unfold b_X12_isNear_77
        refine T_some ?_
        show ((0 ≤ 0 ∧ 0 ≤ 1) ∧ (0 ≤ (x4 + 1) ∧ (x4 + 1) ≤ 64)) ∧ (64 - (x4 + 1)).toNat < (64 - x4).toNat
        exact ⟨⟨(by omega), (by omega)⟩, by omega⟩
      ·
        refine T_qDv ⟨⟨by omega, by omega⟩, ⟨by decide, by decide⟩, by decide⟩ ?_
        have jd7 : jq x2 8 = x2 / 8 := jq_nn (by omega)
        refine T_qDv ⟨⟨by omega, by omega⟩, ⟨by decide, by decide⟩, by decide⟩ ?_
        have jd8 : jq n4 8 = n4 / 8 := jq_nn (by omega)
        refine T_qB (t_X12_in ((jq x2 8) - (jq n4 8)) (-2) 2 (by omega) (by omega) (by omega)) (fun r11 hc_r11 hp9 => ?_)
        replace hp9 : ((r11 = 1 ∧ (-2) ≤ ((jq x2 8) - (jq n4 8)) ∧ ((jq x2 8) - (jq n4 8)) ≤ 2) ∨ (r11 = 0 ∧ (((jq x2 8) - (jq n4 8)) < (-2) ∨ 2 < ((jq x2 8) - (jq n4 8))))) := hp9
        refine T_qEq ⟨by omega, by omega⟩ ⟨by decide, by decide⟩ (fun h10 => ?_) (fun h10 => ?_)
        ·
          unfold b_X12_isNear_76
          unfold b_X12_isNear_77
          refine T_some ?_
          show ((0 ≤ 0 ∧ 0 ≤ 1) ∧ (0 ≤ (x4 + 1) ∧ (x4 + 1) ≤ 64)) ∧ (64 - (x4 + 1)).toNat < (64 - x4).toNat
          exact ⟨⟨(by omega), (by omega)⟩, by omega⟩
        ·
          unfold b_X12_isNear_72
          unfold b_X12_isNear_77
          refine T_some ?_
          show ((0 ≤ 1 ∧ 1 ≤ 1) ∧ (0 ≤ (x4 + 1) ∧ (x4 + 1) ≤ 64)) ∧ (64 - (x4 + 1)).toNat < (64 - x4).toNat
          exact ⟨⟨(by omega), (by omega)⟩, by omega⟩
    ·
      unfold b_X12_isNear_72
      unfold b_X12_isNear_77
      refine T_some ?_
      show ((0 ≤ 1 ∧ 1 ≤ 1) ∧ (0 ≤ (x4 + 1) ∧ (x4 + 1) ≤ 64)) ∧ (64 - (x4 + 1)).toNat < (64 - x4).toNat
      exact ⟨⟨(by omega), (by omega)⟩, by omega⟩
  ·
    refine T_some ?_
    show (0 ≤ x3 ∧ x3 ≤ 1)
    exact (by omega)
set_option maxRecDepth 20000 in
set_option maxHeartbeats 4000000 in
theorem t_X12_isNear (o : OO) (x1 : Int) (x2 : Int) (hB_o : BoxM o) (k0 : 0 ≤ x1 ∧ x1 ≤ 23) (k1 : 0 ≤ x2 ∧ x2 ≤ 63) : T (s_X12_isNear o x1 x2) (fun v => (0 ≤ v ∧ v ≤ 1)) := by
  unfold s_X12_isNear
  unfold e_X12_isNear_5
  refine T_qB (tl_X12_isNear_5 o x1 x2 0 0 hB_o (by omega) (by omega) (by omega) (by omega)) (fun r11 hc_r11 hp12 => ?_)
  obtain ⟨x3_13, q_x3_13⟩ : ∃ q, q = r11 := ⟨_, rfl⟩
  subst q_x3_13
  replace hp12 : (0 ≤ x3_13 ∧ x3_13 ≤ 1) := hp12
  show T (b_X12_isNear_84 o x3_13) _
  unfold b_X12_isNear_84
  refine T_qZ (by omega) ?_
  refine T_some ?_
  show (0 ≤ x3_13 ∧ x3_13 ≤ 1)
  exact (by omega)
set_option maxRecDepth 20000 in
set_option maxHeartbeats 4000000 in
theorem tl_X12_show_29 (o : OO) (x1 : Int) (i_x3 : Int) (i_x4 : Int) (hB_o : BoxM o) (k0 : inR x1) (k1 : 0 ≤ x1 ∧ x1 ≤ 23) (v0 : 0 ≤ i_x3 ∧ i_x3 ≤ i_x4) (v1 : 0 ≤ i_x4 ∧ i_x4 ≤ o.1 0 17) (v2 : i_x3 = KP (NR o x1) i_x4) : T (loopW (fun s => l_X12_show_29 o x1 s.1 s.2) (i_x3, i_x4)) (fun r => (0 ≤ r ∧ r ≤ o.1 0 17) ∧ (r = KP (NR o x1) (o.1 0 17))) := by
  refine T_loop (fun s => (0 ≤ s.1 ∧ s.1 ≤ s.2) ∧ (0 ≤ s.2 ∧ s.2 ≤ o.1 0 17) ∧ (s.1 = KP (NR o x1) s.2)) (fun s => (o.1 0 17 - s.2).toNat) (by exact ⟨v0, v1, v2⟩) (fun s hs => ?_)
  obtain ⟨x3, x4⟩ := s
  replace hs : (0 ≤ x3 ∧ x3 ≤ x4) ∧ (0 ≤ x4 ∧ x4 ≤ o.1 0 17) ∧ (x3 = KP (NR o x1) x4) := hs
  obtain ⟨w0, w1, w2⟩ := hs
  have g0_4_o := bM_0_4 hB_o
  have g0_17_o := bM_0_17 hB_o
  have g0_23_o := bM_0_23 hB_o
  have g0_32_o := bM_0_32 hB_o
  show T (l_X12_show_29 o x1 x3 x4) _
  unfold l_X12_show_29
  refine T_qLt ⟨by omega, by omega⟩ ⟨by omega, by omega⟩ (fun h1 => ?_) (fun h1 => ?_)
  ·
    refine T_qIn ⟨by omega, by omega⟩ ?_
    refine T_qNm (fun n20 e_n20 => ?_)
    have b_n20 : 0 ≤ n20 ∧ n20 ≤ 1 := by rw [e_n20]; exact bM_16 hB_o _
    have ks := KP_s (P := NR o x1) (n := x4) (by omega)
    have nrx : ¬ n20 = 0 → ¬ NR o x1 x4 := fun e q => e (by rw [e_n20]; exact q.1)
    refine T_qEq ⟨by omega, by omega⟩ ⟨by decide, by decide⟩ (fun h2 => ?_) (fun h2 => ?_)
    ·
      refine T_qIn ⟨by omega, by omega⟩ ?_
      refine T_qNm (fun n22 e_n22 => ?_)
      have b_n22 : 0 ≤ n22 ∧ n22 ≤ 63 := by rw [e_n22]; exact bM_13 hB_o _
      refine T_qB (t_X12_isNear o x1 n22 hB_o (by omega) (by omega)) (fun r23 hc_r23 hp3 => ?_)
      replace hp3 : (0 ≤ r23 ∧ r23 ≤ 1) := hp3
      have nr1 : ¬ r23 = 0 → NR o x1 x4 := fun e => ⟨by omega, r23, by rw [← e_n22]; exact hc_r23, e⟩
      have nr0 : r23 = 0 → ¬ NR o x1 x4 := fun e q => by obtain ⟨_, v, q2, q3⟩ := q; rw [← e_n22, hc_r23] at q2; have := Option.some.inj q2; omega
      refine T_qEq ⟨by omega, by omega⟩ ⟨by decide, by decide⟩ (fun h4 => ?_) (fun h4 => ?_)
      ·
        unfold b_X12_show_68
        unfold b_X12_show_69
        refine T_qNm (fun n18 e_n18 => ?_)
        refine T_some ?_
        show ((0 ≤ n18 ∧ n18 ≤ (x4 + 1)) ∧ (0 ≤ (x4 + 1) ∧ (x4 + 1) ≤ o.1 0 17) ∧ (n18 = KP (NR o x1) (x4 + 1))) ∧ (o.1 0 17 - (x4 + 1)).toNat < (o.1 0 17 - x4).toNat
        exact ⟨⟨(by omega), (by omega), (by first | (rw [ks, cn_pos (nr1 (by omega))]; omega) | (rw [ks, cn_neg (nr0 (by omega))]; omega) | (rw [ks, cn_neg (nrx (by omega))]; omega) | omega)⟩, by omega⟩
      ·
        unfold b_X12_show_69
        refine T_qNm (fun n18 e_n18 => ?_)
        refine T_some ?_
        show ((0 ≤ n18 ∧ n18 ≤ (x4 + 1)) ∧ (0 ≤ (x4 + 1) ∧ (x4 + 1) ≤ o.1 0 17) ∧ (n18 = KP (NR o x1) (x4 + 1))) ∧ (o.1 0 17 - (x4 + 1)).toNat < (o.1 0 17 - x4).toNat
        exact ⟨⟨(by omega), (by omega), (by first | (rw [ks, cn_pos (nr1 (by omega))]; omega) | (rw [ks, cn_neg (nr0 (by omega))]; omega) | (rw [ks, cn_neg (nrx (by omega))]; omega) | omega)⟩, by omega⟩
    ·
      unfold b_X12_show_68
      unfold b_X12_show_69
      refine T_qNm (fun n18 e_n18 => ?_)
      refine T_some ?_
      show ((0 ≤ n18 ∧ n18 ≤ (x4 + 1)) ∧ (0 ≤ (x4 + 1) ∧ (x4 + 1) ≤ o.1 0 17) ∧ (n18 = KP (NR o x1) (x4 + 1))) ∧ (o.1 0 17 - (x4 + 1)).toNat < (o.1 0 17 - x4).toNat
      exact ⟨⟨(by omega), (by omega), (by first | (rw [ks, cn_pos (nr1 (by omega))]; omega) | (rw [ks, cn_neg (nr0 (by omega))]; omega) | (rw [ks, cn_neg (nrx (by omega))]; omega) | omega)⟩, by omega⟩
  ·
    refine T_some ?_
    show (0 ≤ x3 ∧ x3 ≤ o.1 0 17) ∧ (x3 = KP (NR o x1) (o.1 0 17))
    exact ⟨(by omega), (by first | assumption | (have e9 : x4 = o.1 0 17 := (by omega); rw [← e9]; assumption) | omega)⟩
set_option maxRecDepth 20000 in
set_option maxHeartbeats 4000000 in
theorem tl_X12_show_101 (x1 : Int) (x3 : Int) (x4 : Int) (i_o : OO) (i_x5 : Int) (hB_i_o : BoxM i_o) (k0 : 0 ≤ x1 ∧ x1 ≤ 23) (k1 : 0 ≤ x4 ∧ x4 ≤ 9999) (k2 : i_o.1 0 23 + KP (NR i_o x1) (i_o.1 0 17) ≤ 100) (v0 : 0 ≤ i_x5 ∧ i_x5 ≤ i_o.1 0 17) (v1 : i_o.1 0 23 + KP (NR i_o x1) (i_o.1 0 17) - KP (NR i_o x1) i_x5 ≤ 100) (v2 : HT i_o → HT i_o) : T (loopW (fun s => l_X12_show_101 x1 x3 x4 s.1 s.2) (i_o, i_x5)) (fun r => BoxM r ∧ (Fr [(0, 23), (18, 9999), (19, 9999), (20, 9999)] i_o r) ∧ (HT i_o → HT r)) := by
  have fr_i_o : Fr [(0, 23), (18, 9999), (19, 9999), (20, 9999)] i_o i_o := Fr.rf
  refine T_loop (fun s => BoxM s.1 ∧ (Fr [(0, 23), (18, 9999), (19, 9999), (20, 9999)] i_o s.1) ∧ (0 ≤ s.2 ∧ s.2 ≤ s.1.1 0 17) ∧ (s.1.1 0 23 + KP (NR i_o x1) (i_o.1 0 17) - KP (NR i_o x1) s.2 ≤ 100) ∧ (HT i_o → HT s.1)) (fun s => (s.1.1 0 17 - s.2).toNat) (by exact ⟨hB_i_o, fr_i_o, v0, v1, v2⟩) (fun s hs => ?_)
  obtain ⟨o, x5⟩ := s
  replace hs : BoxM o ∧ (Fr [(0, 23), (18, 9999), (19, 9999), (20, 9999)] i_o o) ∧ (0 ≤ x5 ∧ x5 ≤ o.1 0 17) ∧ (o.1 0 23 + KP (NR i_o x1) (i_o.1 0 17) - KP (NR i_o x1) x5 ≤ 100) ∧ (HT i_o → HT o) := hs
  obtain ⟨hB_o, fr_o, w0, w1, w2⟩ := hs
  have g0_4_i := bM_0_4 hB_i_o
  have g0_4_o : o.1 0 4 = i_o.1 0 4 := fr_o.1 0 4 rfl
  have g0_17_i := bM_0_17 hB_i_o
  have g0_17_o : o.1 0 17 = i_o.1 0 17 := fr_o.1 0 17 rfl
  have g0_23_i := bM_0_23 hB_i_o
  have g0_23_o := bM_0_23 hB_o
  have g0_32_i := bM_0_32 hB_i_o
  have g0_32_o : o.1 0 32 = i_o.1 0 32 := fr_o.1 0 32 rfl
  have nrc : ∀ b, NR o x1 b ↔ NR i_o x1 b := fun b => NR.cg (fun j => fr_o.1 30 j rfl) (fun j => fr_o.1 31 j rfl) (fun j => fr_o.1 16 j rfl) (fun j => fr_o.1 13 j rfl) x1 b
  have km := KP_mono (P := NR i_o x1) (m := x5) (n := x5 + 1) (by omega) (by omega)
  show T (l_X12_show_101 x1 x3 x4 o x5) _
  unfold l_X12_show_101
  refine T_qLt ⟨by omega, by omega⟩ ⟨by omega, by omega⟩ (fun h5 => ?_) (fun h5 => ?_)
  ·
    refine T_qIn ⟨by omega, by omega⟩ ?_
    refine T_qNm (fun n7 e_n7 => ?_)
    have b_n7 : 0 ≤ n7 ∧ n7 ≤ 1 := by rw [e_n7]; exact bM_16 hB_o _
    refine T_qEq ⟨by omega, by omega⟩ ⟨by decide, by decide⟩ (fun h6 => ?_) (fun h6 => ?_)
    ·
      refine T_qIn ⟨by omega, by omega⟩ ?_
      refine T_qNm (fun n9 e_n9 => ?_)
      have b_n9 : 0 ≤ n9 ∧ n9 ≤ 63 := by rw [e_n9]; exact bM_13 hB_o _
      refine T_qB (t_X12_isNear o x1 n9 hB_o (by omega) (by omega)) (fun r10 hc_r10 hp7 => ?_)
      replace hp7 : (0 ≤ r10 ∧ r10 ≤ 1) := hp7
      have nr1 : ¬ r10 = 0 → NR o x1 x5 := fun e => ⟨by omega, r10, by rw [← e_n9]; exact hc_r10, e⟩
      have kl : ¬ r10 = 0 → KP (NR i_o x1) x5 + 1 ≤ KP (NR i_o x1) (i_o.1 0 17) := fun e => KP_lt (by omega) (by omega) ((nrc x5).mp (nr1 e))
      have kt : ¬ r10 = 0 → KP (NR i_o x1) (x5 + 1) = KP (NR i_o x1) x5 + 1 := fun e => by rw [KP_s (by omega), cn_pos ((nrc x5).mp (nr1 e))]
      refine T_qEq ⟨by omega, by omega⟩ ⟨by decide, by decide⟩ (fun h8 => ?_) (fun h8 => ?_)
      ·
        unfold b_X12_show_178
        refine T_some ?_
        show (BoxM o ∧ (Fr [(0, 23), (18, 9999), (19, 9999), (20, 9999)] i_o o) ∧ (0 ≤ (x5 + 1) ∧ (x5 + 1) ≤ o.1 0 17) ∧ (o.1 0 23 + KP (NR i_o x1) (i_o.1 0 17) - KP (NR i_o x1) (x5 + 1) ≤ 100) ∧ (HT i_o → HT o)) ∧ (o.1 0 17 - (x5 + 1)).toNat < (o.1 0 17 - x5).toNat
        exact ⟨⟨hB_o, fr_o, (by omega), (by omega), (by first | exact (fun h => h) | assumption | exact (fun h => by rw [e_o2]; exact ht8 (ht27 h)) | omega)⟩, by omega⟩
      ·
        refine T_qB (t_X12_valueOf o x5 (o.1 0 4) hB_o (by omega) (by omega)) (fun r12 hc_r12 hp9 => ?_)
        replace hp9 : (-9 ≤ r12 ∧ r12 ≤ 100000) ∧ (r12 = -9 ∨ 0 ≤ r12) := hp9
        have hps_hp9 := hp9
        obtain ⟨hp9_0, hp9_1⟩ := hps_hp9
        replace hp9 := hid hp9
        have kl2 := kl (by omega)
        have kt2 := kt (by omega)
        have hm9 := mul_bd (a := r12) (b := x4) (A := 100000) (B := 9999) (C := 9) (by omega) (by omega) (by omega) (by omega) (by decide) (by decide)
        have hm8 : r12 < 0 ∨ 0 ≤ r12 * x4 := (Int.lt_or_le r12 0).imp id (fun e => Int.mul_nonneg e (by omega))
        refine T_qDv ⟨⟨by omega, by omega⟩, ⟨by decide, by decide⟩, by decide⟩ ?_
        have jd10 := jq_or (a := r12 * x4) (b := 100)
        refine T_qNm (fun n15 e_n15 => ?_)
        refine T_qLt ⟨by omega, by omega⟩ ⟨by decide, by decide⟩ (fun h11 => ?_) (fun h11 => ?_)
        ·
          unfold b_X12_show_175
          refine T_qB (t_X12_tell o x5 1 hB_o (by omega) (by omega) (by omega)) (fun o5 hc_o5 hp12 => ?_)
          replace hp12 : BoxM o5 ∧ (Fr [(0, 23), (18, 9999), (19, 9999), (20, 9999)] o o5) ∧ (o5.1 0 23 = o.1 0 23 + 1) ∧ (HT o → HT o5) ∧ (o5.1 18 (o.1 0 23).toNat = x5) := hp12
          obtain ⟨hB_o5, fc_o5, hp12⟩ := hp12
          have fr_o5 : Fr [(0, 23), (18, 9999), (19, 9999), (20, 9999)] i_o o5 := Fr.tr fr_o fc_o5 rfl
          have g0_4_o5 : o5.1 0 4 = o.1 0 4 := fc_o5.1 0 4 rfl
          have g0_17_o5 : o5.1 0 17 = o.1 0 17 := fc_o5.1 0 17 rfl
          have g0_23_o5 := bM_0_23 hB_o5
          have g0_32_o5 : o5.1 0 32 = o.1 0 32 := fc_o5.1 0 32 rfl
          have ht9 : HT i_o → HT o5 := fun hh => hp12.2.1 (w2 hh)
          have hq9 := hp12.1
          unfold b_X12_show_178
          refine T_some ?_
          show (BoxM o5 ∧ (Fr [(0, 23), (18, 9999), (19, 9999), (20, 9999)] i_o o5) ∧ (0 ≤ (x5 + 1) ∧ (x5 + 1) ≤ o5.1 0 17) ∧ (o5.1 0 23 + KP (NR i_o x1) (i_o.1 0 17) - KP (NR i_o x1) (x5 + 1) ≤ 100) ∧ (HT i_o → HT o5)) ∧ (o5.1 0 17 - (x5 + 1)).toNat < (o.1 0 17 - x5).toNat
          exact ⟨⟨hB_o5, fr_o5, (by omega), (by omega), (by first | exact (fun h => h) | assumption | exact (fun h => by rw [e_o2]; exact ht8 (ht27 h)) | omega)⟩, by omega⟩
        ·
          unfold b_X12_show_175
          refine T_qB (t_X12_tell o x5 n15 hB_o (by omega) (by omega) (by omega)) (fun o5 hc_o5 hp13 => ?_)
          replace hp13 : BoxM o5 ∧ (Fr [(0, 23), (18, 9999), (19, 9999), (20, 9999)] o o5) ∧ (o5.1 0 23 = o.1 0 23 + 1) ∧ (HT o → HT o5) ∧ (o5.1 18 (o.1 0 23).toNat = x5) := hp13
          obtain ⟨hB_o5, fc_o5, hp13⟩ := hp13
          have fr_o5 : Fr [(0, 23), (18, 9999), (19, 9999), (20, 9999)] i_o o5 := Fr.tr fr_o fc_o5 rfl
          have g0_4_o5 : o5.1 0 4 = o.1 0 4 := fc_o5.1 0 4 rfl
          have g0_17_o5 : o5.1 0 17 = o.1 0 17 := fc_o5.1 0 17 rfl
          have g0_23_o5 := bM_0_23 hB_o5
          have g0_32_o5 : o5.1 0 32 = o.1 0 32 := fc_o5.1 0 32 rfl
          have ht9 : HT i_o → HT o5 := fun hh => hp13.2.1 (w2 hh)
          have hq9 := hp13.1
          unfold b_X12_show_178
          refine T_some ?_
          show (BoxM o5 ∧ (Fr [(0, 23), (18, 9999), (19, 9999), (20, 9999)] i_o o5) ∧ (0 ≤ (x5 + 1) ∧ (x5 + 1) ≤ o5.1 0 17) ∧ (o5.1 0 23 + KP (NR i_o x1) (i_o.1 0 17) - KP (NR i_o x1) (x5 + 1) ≤ 100) ∧ (HT i_o → HT o5)) ∧ (o5.1 0 17 - (x5 + 1)).toNat < (o.1 0 17 - x5).toNat
          exact ⟨⟨hB_o5, fr_o5, (by omega), (by omega), (by first | exact (fun h => h) | assumption | exact (fun h => by rw [e_o2]; exact ht8 (ht27 h)) | omega)⟩, by omega⟩
    ·
      unfold b_X12_show_178
      refine T_some ?_
      show (BoxM o ∧ (Fr [(0, 23), (18, 9999), (19, 9999), (20, 9999)] i_o o) ∧ (0 ≤ (x5 + 1) ∧ (x5 + 1) ≤ o.1 0 17) ∧ (o.1 0 23 + KP (NR i_o x1) (i_o.1 0 17) - KP (NR i_o x1) (x5 + 1) ≤ 100) ∧ (HT i_o → HT o)) ∧ (o.1 0 17 - (x5 + 1)).toNat < (o.1 0 17 - x5).toNat
      exact ⟨⟨hB_o, fr_o, (by omega), (by omega), (by first | exact (fun h => h) | assumption | exact (fun h => by rw [e_o2]; exact ht8 (ht27 h)) | omega)⟩, by omega⟩
  ·
    refine T_some ?_
    show BoxM o ∧ (Fr [(0, 23), (18, 9999), (19, 9999), (20, 9999)] i_o o) ∧ (HT i_o → HT o)
    exact ⟨hB_o, fr_o, (by first | exact (fun h => h) | assumption | exact (fun h => by rw [e_o2]; exact ht8 (ht27 h)) | omega)⟩
set_option maxRecDepth 20000 in
set_option maxHeartbeats 4000000 in
theorem t_X12_show (o : OO) (x1 : Int) (hB_o : BoxM o) (k0 : inR x1) : T (s_X12_show o x1) (fun v => BoxM v.2 ∧ (Fr [(0, 0), (0, 23), (1, 9999), (18, 9999), (19, 9999), (20, 9999), (29, 9999)] o v.2) ∧ (inR v.1) ∧ (HT o → HT v.2)) := by
  have fr_o : Fr [(0, 0), (0, 23), (1, 9999), (18, 9999), (19, 9999), (20, 9999), (29, 9999)] o o := Fr.rf
  have g0_4_o := bM_0_4 hB_o
  have g0_17_o := bM_0_17 hB_o
  have g0_23_o := bM_0_23 hB_o
  have g0_32_o := bM_0_32 hB_o
  unfold s_X12_show
  refine T_qB2 (t_X12_askedLine o x1 hB_o (by omega)) (fun r25 o27 hc_r25 hp14 => ?_)
  replace hp14 : BoxM o27 ∧ (Fr [(0, 0), (1, 9999)] o o27) ∧ (r25 = -1 ∨ r25 = -3 ∨ (r25 = 0 ∧ 0 ≤ x1 ∧ x1 < o.1 0 32)) := hp14
  obtain ⟨hB_o27, fc_o27, hp14⟩ := hp14
  have fr_o27 : Fr [(0, 0), (0, 23), (1, 9999), (18, 9999), (19, 9999), (20, 9999), (29, 9999)] o o27 := Fr.tr fr_o fc_o27 rfl
  have g0_4_o27 : o27.1 0 4 = o.1 0 4 := fc_o27.1 0 4 rfl
  have g0_17_o27 : o27.1 0 17 = o.1 0 17 := fc_o27.1 0 17 rfl
  have g0_23_o27 : o27.1 0 23 = o.1 0 23 := fc_o27.1 0 23 rfl
  have g0_32_o27 : o27.1 0 32 = o.1 0 32 := fc_o27.1 0 32 rfl
  have ht27 : HT o → HT o27 := fun h => HT.fr h fc_o27 rfl rfl (fun _ => rfl)
  refine T_qLt ⟨by omega, by omega⟩ ⟨by decide, by decide⟩ (fun h15 => ?_) (fun h15 => ?_)
  ·
    refine T_some ?_
    show BoxM o27 ∧ (Fr [(0, 0), (0, 23), (1, 9999), (18, 9999), (19, 9999), (20, 9999), (29, 9999)] o o27) ∧ (inR r25) ∧ (HT o → HT o27)
    exact ⟨hB_o27, fr_o27, (by omega), (by first | exact (fun h => h) | assumption | exact (fun h => by rw [e_o2]; exact ht8 (ht27 h)) | omega)⟩
  ·
    refine T_qIn ⟨by omega, by omega⟩ ?_
    refine T_qNm (fun n29 e_n29 => ?_)
    have b_n29 : -9 ≤ n29 ∧ n29 ≤ 999 := by rw [e_n29]; exact bM_29 hB_o27 _
    refine T_qLt ⟨by omega, by omega⟩ ⟨by decide, by decide⟩ (fun h16 => ?_) (fun h16 => ?_)
    ·
      unfold e_X12_show_29
      refine T_qB (tl_X12_show_29 o27 x1 0 0 hB_o27 (by omega) (by omega) (by omega) (by omega) (KP_0.symm)) (fun r17 hc_r17 hp18 => ?_)
      obtain ⟨x3_19, q_x3_19⟩ : ∃ q, q = r17 := ⟨_, rfl⟩
      subst q_x3_19
      replace hp18 : (0 ≤ x3_19 ∧ x3_19 ≤ o27.1 0 17) ∧ (x3_19 = KP (NR o27 x1) (o27.1 0 17)) := hp18
      have hps_hp18 := hp18
      obtain ⟨hp18_0, hp18_1⟩ := hps_hp18
      replace hp18 := hid hp18
      show T (b_X12_show_77 o27 x1 x3_19) _
      unfold b_X12_show_77
      refine T_qLt ⟨by decide, by decide⟩ ⟨by omega, by omega⟩ (fun h20 => ?_) (fun h20 => ?_)
      ·
        refine T_some ?_
        show BoxM o27 ∧ (Fr [(0, 0), (0, 23), (1, 9999), (18, 9999), (19, 9999), (20, 9999), (29, 9999)] o o27) ∧ (inR (-2)) ∧ (HT o → HT o27)
        exact ⟨hB_o27, fr_o27, (by omega), (by first | exact (fun h => h) | assumption | exact (fun h => by rw [e_o2]; exact ht8 (ht27 h)) | omega)⟩
      ·
        refine T_qB (t_X12_nowInForce o27 1 hB_o27 (by omega)) (fun r16 hc_r16 hp21 => ?_)
        replace hp21 : (0 ≤ r16 ∧ r16 ≤ 9999) := hp21
        unfold e_X12_show_101
        refine T_qB (tl_X12_show_101 x1 x3_19 r16 o27 0 hB_o27 (by omega) (by omega) (by omega) (by omega) (by rw [KP_0]; omega) (by first | exact (fun h => h) | assumption | exact (fun h => by rw [e_o2]; exact ht8 (ht27 h)) | omega)) (fun r22 hc_r22 hp23 => ?_)
        obtain ⟨o_24, q_o_24⟩ : ∃ q, q = r22 := ⟨_, rfl⟩
        subst q_o_24
        replace hp23 : BoxM o_24 ∧ (Fr [(0, 23), (18, 9999), (19, 9999), (20, 9999)] o27 o_24) ∧ (HT o27 → HT o_24) := hp23
        have hps_hp23 := hp23
        obtain ⟨hp23_0, hp23_1, hp23_2⟩ := hps_hp23
        obtain ⟨hB_o_24, fc_o_24, hp23⟩ := hp23
        replace hp23 := hid hp23
        have fr_o_24 : Fr [(0, 0), (0, 23), (1, 9999), (18, 9999), (19, 9999), (20, 9999), (29, 9999)] o o_24 := Fr.tr fr_o27 fc_o_24 rfl
        have g0_4_o_24 : o_24.1 0 4 = o27.1 0 4 := fc_o_24.1 0 4 rfl
        have g0_17_o_24 : o_24.1 0 17 = o27.1 0 17 := fc_o_24.1 0 17 rfl
        have g0_23_o_24 := bM_0_23 hB_o_24
        have g0_32_o_24 : o_24.1 0 32 = o27.1 0 32 := fc_o_24.1 0 32 rfl
        show T (b_X12_show_184 o_24 x1 x3_19) _
        have ht8 : HT o27 → HT o_24 := hp23
        unfold b_X12_show_184
        refine T_qIn ⟨by omega, by omega⟩ ?_
        refine T_qNm (fun o2 e_o2 => ?_)
        have hB_o2 : BoxM o2 := by rw [e_o2]; exact Box.s1 hB_o_24 (show -9 ≤ (o_24.1 0 4) ∧ (o_24.1 0 4) ≤ 999 from ⟨by omega, by omega⟩)
        have fr_o2 : Fr [(0, 0), (0, 23), (1, 9999), (18, 9999), (19, 9999), (20, 9999), (29, 9999)] o o2 := by rw [e_o2]; exact Fr.s1 fr_o_24 rfl
        have g0_4_o2 : o2.1 0 4 = o_24.1 0 4 := by rw [e_o2]; rfl
        have g0_17_o2 : o2.1 0 17 = o_24.1 0 17 := by rw [e_o2]; rfl
        have g0_23_o2 : o2.1 0 23 = o_24.1 0 23 := by rw [e_o2]; rfl
        have g0_32_o2 : o2.1 0 32 = o_24.1 0 32 := by rw [e_o2]; rfl
        refine T_some ?_
        show BoxM o2 ∧ (Fr [(0, 0), (0, 23), (1, 9999), (18, 9999), (19, 9999), (20, 9999), (29, 9999)] o o2) ∧ (inR x3_19) ∧ (HT o → HT o2)
        exact ⟨hB_o2, fr_o2, (by omega), (by first | exact (fun h => h) | assumption | exact (fun h => by rw [e_o2]; exact ht8 (ht27 h)) | omega)⟩
    ·
      refine T_some ?_
      show BoxM o27 ∧ (Fr [(0, 0), (0, 23), (1, 9999), (18, 9999), (19, 9999), (20, 9999), (29, 9999)] o o27) ∧ (inR (-4)) ∧ (HT o → HT o27)
      exact ⟨hB_o27, fr_o27, (by omega), (by first | exact (fun h => h) | assumption | exact (fun h => by rw [e_o2]; exact ht8 (ht27 h)) | omega)⟩
